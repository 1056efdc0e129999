-- needs: 6a
theorem AI_HC {sm kd : Int → Int} {D : Int → Int → Int} {P ri n : Int} : AI sm kd D (AH D) P ri n = sumI n.toNat (fun hr => HC sm (kd hr) (D hr) (AH D hr) P ri) := by
  unfold AI PI HC
  rw [sumI_swap (fun p hr => FI sm (kd hr) (D hr) (AH D hr) P ri p (D hr p))]
/-- what a thing in an hour adds to all fines -/
def adI (sm kd : Int → Int) (D : Int → Int → Int) (P p hr t : Int) : Int := if t = 9 then 0 else PRA (kd hr) * (if fnd (kd hr) t then oth sm (kd hr) (D hr) P p t else 0) + (if kd hr = 5 ∧ 0 < wdn sm (AH D hr) P p t then 2 else 0) + (if kd (hr + 1) = 5 then 2 * atc sm (D hr) (D (hr + 1)) P p t else 0)
theorem atc_b {sm nw nxt : Int → Int} {P p t : Int} (P0 : 0 ≤ P) : 0 ≤ atc sm nw nxt P p t ∧ atc sm nw nxt P p t ≤ P := by
  refine ⟨sumI_nn (fun i _ _ => by split <;> omega), ?_⟩
  have := sumI_le (n := P.toNat) (f := fun q => if ¬ q = p ∧ sm (nxt q) = sm t ∧ ¬ 0 < wdn sm nw P q t then (1 : Int) else 0) (c := 1) (fun i _ _ => by split <;> omega)
  unfold atc
  omega
theorem adI_b {sm kd : Int → Int} {D : Int → Int → Int} {P p hr t : Int} (P0 : 0 ≤ P) (P5 : P ≤ 5) (hk : ∀ x : Int, 0 ≤ kd x ∧ kd x ≤ 5) : 0 ≤ adI sm kd D P p hr t ∧ adI sm kd D P p hr t ≤ 100 := by
  have o := oth_b (sm := sm) (k := kd hr) (nw := D hr) (p := p) (t := t) P0
  have a := atc_b (sm := sm) (nw := D hr) (nxt := D (hr + 1)) (p := p) (t := t) P0
  have k := hk hr
  have c := PRA_c k.1 k.2
  have x : 0 ≤ (if fnd (kd hr) t then oth sm (kd hr) (D hr) P p t else 0) ∧ (if fnd (kd hr) t then oth sm (kd hr) (D hr) P p t else 0) ≤ 5 := by split <;> omega
  have y : 0 ≤ PRA (kd hr) * (if fnd (kd hr) t then oth sm (kd hr) (D hr) P p t else 0) ∧ PRA (kd hr) * (if fnd (kd hr) t then oth sm (kd hr) (D hr) P p t else 0) ≤ 4 * 5 := ⟨Int.mul_nonneg (by omega) x.1, Int.mul_le_mul (by omega) x.2 x.1 (by omega)⟩
  unfold adI
  generalize PRA (kd hr) * (if fnd (kd hr) t then oth sm (kd hr) (D hr) P p t else 0) = z at y
  split
  · omega
  · split <;> split <;> omega
/-- one more row: what it costs is the sum over its hours -/
theorem AI_row {sm kd : Int → Int} {D : Int → Int → Int} {ro : Int → Int} {P ri p n T : Int} (hk : ∀ x : Int, 0 ≤ kd x ∧ kd x ≤ 5) (k5 : ∀ x : Int, 5 ≤ x → kd x = 0) (hri : 0 ≤ ri ∧ ri < P) (p0 : 0 ≤ p) (p1 : p < P) (n0 : 0 ≤ n) (n5 : n ≤ 5) (s9 : sm 9 = -1) (sT : ∀ x : Int, 0 ≤ x → x < T → 0 ≤ sm x) (T9 : T ≤ 9) (hD : ∀ hr q : Int, 0 ≤ hr → hr < 5 → 0 ≤ q → q < P → (0 ≤ D hr q ∧ D hr q < T ∨ D hr q = 9)) (h9 : ∀ hr : Int, 0 ≤ hr → hr < n → D hr p = 9) (hn : ∀ hr q : Int, n ≤ hr → hr < 5 → 0 ≤ q → q < P → D hr q = 9) (hr : ∀ x : Int, 0 ≤ x → x < n → (0 ≤ ro x ∧ ro x < T ∨ ro x = 9)) : AI sm kd (fun x q => if q = p ∧ 0 ≤ x ∧ x < n then ro x else D x q) (AH (fun x q => if q = p ∧ 0 ≤ x ∧ x < n then ro x else D x q)) P ri n = AI sm kd D (AH D) P ri n + sumI n.toNat (fun x => adI sm kd D P p x (ro x)) := by
  generalize hE : (fun x q => if q = p ∧ 0 ≤ x ∧ x < n then ro x else D x q) = E
  rw [AI_HC, AI_HC]
  have E1 : ∀ x : Int, 0 ≤ x → x < n → E x = updI (D x) p (ro x) := fun x a b => by
    funext q
    rw [← hE]
    unfold updI
    exact ite_iff ⟨fun z => z.1, fun z => ⟨z, a, b⟩⟩
  have E2 : ∀ x : Int, 0 ≤ x → x < n → AH E x = updI (AH D x) p (if 0 < x then ro (x - 1) else 9) := fun x a b => by
    funext q
    show AH E x q = if q = p then (if 0 < x then ro (x - 1) else 9) else AH D x q
    by_cases c : 0 < x
    · have a1 : AH E x q = E (x - 1) q := by unfold AH; rw [if_pos c]
      have a2 : AH D x q = D (x - 1) q := by unfold AH; rw [if_pos c]
      rw [a1, a2, if_pos c, E1 (x - 1) (by omega) (by omega)]
      rfl
    · have a1 : AH E x q = 9 := by unfold AH; rw [if_neg c]
      have a2 : AH D x q = 9 := by unfold AH; rw [if_neg c]
      rw [a1, a2, if_neg c]
      split <;> rfl
  have e1 : sumI n.toNat (fun x => HC sm (kd x) (E x) (AH E x) P ri) = sumI n.toNat (fun x => HC sm (kd x) (D x) (AH D x) P ri + ((if ro x = 9 then 0 else PRA (kd x) * (if fnd (kd x) (ro x) then oth sm (kd x) (D x) P p (ro x) else 0) + (if kd x = 5 ∧ 0 < wdn sm (AH D x) P p (ro x) then 2 else 0)) + (if kd x = 5 ∧ ¬ (if 0 < x then ro (x - 1) else 9) = 9 then 2 * atc sm (AH D x) (D x) P p (if 0 < x then ro (x - 1) else 9) else 0))) := sumI_congr (fun x a b => by
    have b : x < n := by omega
    have kx := hk x
    rw [E1 x a b, E2 x a b, HC_upd kx.1 kx.2 hri p0 p1 (h9 x a b) (by
      unfold AH
      by_cases c : 0 < x
      · rw [if_pos c]; exact h9 _ (by omega) (by omega)
      · rw [if_neg c]) s9 sT T9 (fun q c d => hD x q a (by omega) c d) (hr x a b) (by
      by_cases c : 0 < x
      · rw [if_pos c]; exact hr _ (by omega) (by omega)
      · rw [if_neg c]; exact Or.inr rfl), Int.add_assoc]
    congr 2
    by_cases c : ro x = 9
    · rw [if_pos c, c, if_neg (nf9 _), if_neg (fun z => z.2.1 rfl), Int.mul_zero]; rfl
    · rw [if_neg c]
      congr 1
      exact ite_iff ⟨fun z => ⟨z.1, z.2.2⟩, fun z => ⟨z.1, c, z.2⟩⟩)
  rw [e1, sumI_add (fun x => HC sm (kd x) (D x) (AH D x) P ri)]
  congr 1
  rw [sumI_add]
  have e2 : sumI n.toNat (fun x => adI sm kd D P p x (ro x)) = sumI n.toNat (fun x => (if ro x = 9 then 0 else PRA (kd x) * (if fnd (kd x) (ro x) then oth sm (kd x) (D x) P p (ro x) else 0) + (if kd x = 5 ∧ 0 < wdn sm (AH D x) P p (ro x) then 2 else 0)) + (if ro x = 9 then 0 else if kd (x + 1) = 5 then 2 * atc sm (D x) (D (x + 1)) P p (ro x) else 0)) := sumI_congr (fun x _ _ => by
    unfold adI
    by_cases c : ro x = 9
    · rw [if_pos c, if_pos c, if_pos c]; rfl
    · rw [if_neg c, if_neg c, if_neg c])
  rw [e2, sumI_add]
  congr 1
  have e3 : ∀ m : Nat, sumI (m + 1) (fun x => if kd x = 5 ∧ ¬ (if 0 < x then ro (x - 1) else 9) = 9 then 2 * atc sm (AH D x) (D x) P p (if 0 < x then ro (x - 1) else 9) else 0) = sumI m (fun x => if ro x = 9 then 0 else if kd (x + 1) = 5 then 2 * atc sm (D x) (D (x + 1)) P p (ro x) else 0) := by
    intro m
    induction m with
    | zero =>
      show 0 + (if kd 0 = 5 ∧ ¬ (if (0 : Int) < 0 then ro (0 - 1) else 9) = 9 then _ else (0 : Int)) = 0
      rw [if_neg (fun z => z.2 (by rw [if_neg (Int.lt_irrefl 0)]))]; rfl
    | succ m ih =>
      rw [sumI_succ, ih, sumI_succ]
      congr 1
      have c1 : (0 : Int) < ((m + 1 : Nat) : Int) := by omega
      have c2 : ((m + 1 : Nat) : Int) - 1 = (m : Int) := by omega
      have c3 : AH D ((m + 1 : Nat) : Int) = D m := by funext q; unfold AH; rw [if_pos c1, c2]
      have c4 : ((m + 1 : Nat) : Int) = (m : Int) + 1 := by omega
      rw [if_pos c1, c2, c3, c4]
      by_cases y : ro m = 9
      · rw [if_pos y, if_neg (fun z => z.2 y)]
      · rw [if_neg y]
        exact ite_iff ⟨fun z => z.1, fun z => ⟨z, y⟩⟩
  by_cases c : n = 0
  · rw [c]; rfl
  · rw [show n.toNat = (n - 1).toNat + 1 by omega, e3, sumI_succ]
    have hm : (((n - 1).toNat : Nat) : Int) = n - 1 := by omega
    rw [hm]
    have z : (if ro (n - 1) = 9 then (0 : Int) else if kd (n - 1 + 1) = 5 then 2 * atc sm (D (n - 1)) (D (n - 1 + 1)) P p (ro (n - 1)) else 0) = 0 := by
      by_cases y : ro (n - 1) = 9
      · rw [if_pos y]
      · rw [if_neg y, show n - 1 + 1 = n by omega]
        by_cases y2 : n < 5
        · have := hr (n - 1) (by omega) (by omega)
          have sp := sT (ro (n - 1)) (by omega) (by omega)
          have : atc sm (D (n - 1)) (D n) P p (ro (n - 1)) = 0 := sum_zero (fun q a b => by
            rw [if_neg (fun z => by
              have := z.2.1
              rw [hn n q (Int.le_refl n) y2 a (by omega), s9] at this
              omega)])
          rw [this]
          split <;> rfl
        · rw [k5 n (by omega), if_neg (by decide)]
    rw [z, Int.add_zero]
/-- the first m people have taken their picks -/
def SD (nds : Int → Int → Int) (n : Int) (pk : Int → Int) (m : Int) (x q : Int) : Int := if 0 ≤ q ∧ q < m ∧ 0 ≤ x ∧ x < n then rwF (nds q) n (pk q) x else 9
theorem SD_congr {nds : Int → Int → Int} {n : Int} {pk pk' : Int → Int} {m : Int} (h : ∀ q : Int, 0 ≤ q → q < m → pk q = pk' q) : SD nds n pk m = SD nds n pk' m := by
  funext x q
  unfold SD
  by_cases c : 0 ≤ q ∧ q < m ∧ 0 ≤ x ∧ x < n
  · rw [if_pos c, if_pos c, h q c.1 c.2.1]
  · rw [if_neg c, if_neg c]
theorem SD_s {nds : Int → Int → Int} {n : Int} {pk : Int → Int} {m : Int} (m0 : 0 ≤ m) : SD nds n pk (m + 1) = fun x q => if q = m ∧ 0 ≤ x ∧ x < n then rwF (nds m) n (pk m) x else SD nds n pk m x q := by
  funext x q
  unfold SD
  by_cases c : q = m ∧ 0 ≤ x ∧ x < n
  · rw [if_pos c, if_pos ⟨by omega, by omega, c.2⟩, c.1]
  · rw [if_neg c]
    exact ite_iff ⟨fun z => ⟨z.1, by omega, z.2.2⟩, fun z => ⟨z.1, by omega, z.2.2⟩⟩
/-- needs, of any number of hours -/
def NW0 (T P : Int) (nds : Int → Int → Int) : Prop := ∀ p : Int, 0 ≤ p → p < P → ∀ t : Int, 0 ≤ t → t < 9 → 0 ≤ nds p t ∧ (T ≤ t → nds p t = 0)
theorem SD_v {nds : Int → Int → Int} {T P n : Int} {pk : Int → Int} {m : Int} (hN : NW0 T P nds) (n1 : 1 ≤ n) (n5 : n ≤ 5) (mP : m ≤ P) (hp : ∀ q : Int, 0 ≤ q → q < m → 0 ≤ pk q ∧ pk q < cnF (nds q) n) (x q : Int) : (0 ≤ SD nds n pk m x q ∧ SD nds n pk m x q < T ∨ SD nds n pk m x q = 9) ∧ 0 ≤ SD nds n pk m x q ∧ SD nds n pk m x q ≤ 9 := by
  unfold SD
  by_cases c : 0 ≤ q ∧ q < m ∧ 0 ≤ x ∧ x < n
  · rw [if_pos c]
    obtain ⟨a, b⟩ := hp q c.1 c.2.1
    exact rw_b (P := P) (hN q c.1 (by omega)) n1 n5 a b c.2.2.1 c.2.2.2
  · rw [if_neg c]; omega
def SPr (sm kd : Int → Int) (nds : Int → Int → Int) (P n : Int) (D : Int → Int → Int) (p r : Int) : Int := sumI n.toNat (fun x => adI sm kd D P p x (rwF (nds p) n r x))
theorem SPr_b {sm kd : Int → Int} {nds : Int → Int → Int} {P n : Int} {D : Int → Int → Int} {p r : Int} (P0 : 0 ≤ P) (P5 : P ≤ 5) (n0 : 0 ≤ n) (n5 : n ≤ 5) (hk : ∀ x : Int, 0 ≤ kd x ∧ kd x ≤ 5) : 0 ≤ SPr sm kd nds P n D p r ∧ SPr sm kd nds P n D p r ≤ 500 := by
  refine ⟨sumI_nn (fun i _ _ => (adI_b P0 P5 hk).1), ?_⟩
  have := sumI_le (n := n.toNat) (f := fun x => adI sm kd D P p x (rwF (nds p) n r x)) (c := 100) (fun i _ _ => (adI_b P0 P5 hk).2)
  unfold SPr
  omega
/-- all fines, when the first m have taken theirs -/
def AS (sm kd : Int → Int) (nds : Int → Int → Int) (P ri n : Int) (pk : Int → Int) (m : Int) : Int := AI sm kd (SD nds n pk m) (AH (SD nds n pk m)) P ri n
theorem AS_0 {sm kd : Int → Int} {nds : Int → Int → Int} {P ri n : Int} {pk : Int → Int} : AS sm kd nds P ri n pk 0 = 0 := by
  unfold AS AI PI
  refine sum_zero (fun p a b => sum_zero (fun x c d => ?_))
  have : SD nds n pk 0 x p = 9 := by unfold SD; rw [if_neg (by omega)]
  rw [this, FI_9]
theorem AS_s {sm kd : Int → Int} {nds : Int → Int → Int} {P ri n T : Int} {pk : Int → Int} {m : Int} (hN : NW0 T P nds) (n1 : 1 ≤ n) (n5 : n ≤ 5) (hk : ∀ x : Int, 0 ≤ kd x ∧ kd x ≤ 5) (k5 : ∀ x : Int, 5 ≤ x → kd x = 0) (hri : 0 ≤ ri ∧ ri < P) (s9 : sm 9 = -1) (sT : ∀ x : Int, 0 ≤ x → x < T → 0 ≤ sm x) (T9 : T ≤ 9) (m0 : 0 ≤ m) (mP : m < P) (hp : ∀ q : Int, 0 ≤ q → q ≤ m → 0 ≤ pk q ∧ pk q < cnF (nds q) n) : AS sm kd nds P ri n pk (m + 1) = AS sm kd nds P ri n pk m + SPr sm kd nds P n (SD nds n pk m) m (pk m) := by
  unfold AS SPr
  rw [SD_s m0]
  exact AI_row hk k5 hri m0 mP (by omega) n5 s9 sT T9 (fun x q _ _ _ _ => (SD_v hN n1 n5 (by omega) (fun q a b => hp q a (by omega)) x q).1) (fun x _ _ => by unfold SD; rw [if_neg (by omega)]) (fun x q a _ _ _ => by unfold SD; rw [if_neg (by omega)]) (fun x a b => (rw_b (P := P) (hN m m0 mP) n1 n5 (hp m m0 (Int.le_refl m)).1 (hp m m0 (Int.le_refl m)).2 a b).1)
/-- more people never pay less -/
theorem AS_mono {sm kd : Int → Int} {nds : Int → Int → Int} {P ri n T : Int} {pk : Int → Int} {m : Int} (hN : NW0 T P nds) (n1 : 1 ≤ n) (n5 : n ≤ 5) (P5 : P ≤ 5) (hk : ∀ x : Int, 0 ≤ kd x ∧ kd x ≤ 5) (k5 : ∀ x : Int, 5 ≤ x → kd x = 0) (hri : 0 ≤ ri ∧ ri < P) (s9 : sm 9 = -1) (sT : ∀ x : Int, 0 ≤ x → x < T → 0 ≤ sm x) (T9 : T ≤ 9) (m0 : 0 ≤ m) : ∀ d : Nat, m + d ≤ P → (∀ q : Int, 0 ≤ q → q < P → 0 ≤ pk q ∧ pk q < cnF (nds q) n) → AS sm kd nds P ri n pk m ≤ AS sm kd nds P ri n pk (m + d)
  | 0, _, _ => by rw [show m + ((0 : Nat) : Int) = m by omega]; exact Int.le_refl _
  | d + 1, h, hp => by
    have a := AS_mono hN n1 n5 P5 hk k5 hri s9 sT T9 m0 d (by omega) hp
    have b := AS_s (ri := ri) (pk := pk) (m := m + d) hN n1 n5 hk k5 hri s9 sT T9 (by omega) (by omega) (fun q x y => hp q x (by omega))
    have c := (SPr_b (sm := sm) (nds := nds) (D := SD nds n pk (m + d)) (p := m + d) (r := pk (m + d)) (show 0 ≤ P by omega) P5 (show 0 ≤ n by omega) n5 hk).1
    rw [show m + ((d + 1 : Nat) : Int) = m + d + 1 by omega]
    omega
