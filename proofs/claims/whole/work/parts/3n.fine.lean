-- needs: 3a 3b 3c 3d 3e 3f 3j 3l
/-! ===== sums, and the pure fine ===== -/
theorem sumI_succ (n : Nat) (f : Int → Int) : sumI (n + 1) f = sumI n f + f n := rfl
theorem sumI_add (f g : Int → Int) : ∀ n : Nat, sumI n (fun i => f i + g i) = sumI n f + sumI n g
  | 0 => rfl
  | n + 1 => by rw [sumI_succ, sumI_succ, sumI_succ, sumI_add f g n]; omega
theorem sumI_mul (c : Int) (f : Int → Int) : ∀ n : Nat, sumI n (fun i => c * f i) = c * sumI n f
  | 0 => by show (0 : Int) = c * 0; rw [Int.mul_zero]
  | n + 1 => by rw [sumI_succ, sumI_succ, sumI_mul c f n, Int.mul_add]
theorem sumI_nn {f : Int → Int} : ∀ {n : Nat}, (∀ i : Int, 0 ≤ i → i < n → 0 ≤ f i) → 0 ≤ sumI n f
  | 0, _ => Int.le_refl 0
  | n + 1, h => by
    rw [sumI_succ]
    have := sumI_nn (n := n) (fun i a b => h i a (by omega))
    have := h n (by omega) (by omega)
    omega
theorem sumI_le {f : Int → Int} {c : Int} : ∀ {n : Nat}, (∀ i : Int, 0 ≤ i → i < n → f i ≤ c) → sumI n f ≤ n * c
  | 0, _ => by simp [sumI]
  | n + 1, h => by
    rw [sumI_succ]
    have h1 := sumI_le (n := n) (fun i a b => h i a (by omega))
    have h2 := h n (by omega) (by omega)
    have h3 : ((n + 1 : Nat) : Int) * c = n * c + c := by rw [Int.natCast_add, Int.add_mul]; simp
    omega
theorem sumI_mono {f g : Int → Int} : ∀ {n : Nat}, (∀ i : Int, 0 ≤ i → i < n → f i ≤ g i) → sumI n f ≤ sumI n g
  | 0, _ => Int.le_refl 0
  | n + 1, h => by
    rw [sumI_succ, sumI_succ]
    have h1 := sumI_mono (n := n) (fun i a b => h i a (by omega))
    have h2 := h n (by omega) (by omega)
    omega
theorem sumI_one {p c : Int} : ∀ {n : Nat}, sumI n (fun i => if i = p then c else 0) = if 0 ≤ p ∧ p < n then c else 0
  | 0 => by rw [if_neg (by omega)]; rfl
  | n + 1 => by
    rw [sumI_succ, sumI_one (n := n)]
    by_cases e : (n : Int) = p
    · rw [if_neg (by omega), if_pos e, if_pos (by omega)]; omega
    · rw [if_neg e]
      by_cases e2 : 0 ≤ p ∧ p < n
      · rw [if_pos e2, if_pos (by omega)]; omega
      · rw [if_neg e2, if_neg (by omega)]; rfl
/-- one place apart -/
theorem sumI_at {p : Int} {f : Int → Int} {n : Nat} (h0 : 0 ≤ p) (h1 : p < n) : sumI n f = sumI n (fun i => if i = p then 0 else f i) + f p := by
  have e : sumI n f = sumI n (fun i => (if i = p then 0 else f i) + (if i = p then f p else 0)) := sumI_congr (fun i _ _ => by
    by_cases e : i = p
    · rw [if_pos e, if_pos e, e]; omega
    · rw [if_neg e, if_neg e]; omega)
  rw [e, sumI_add, sumI_one, if_pos ⟨h0, h1⟩]
theorem sumI_swap (f : Int → Int → Int) (m : Nat) : ∀ n : Nat, sumI n (fun i => sumI m (fun j => f i j)) = sumI m (fun j => sumI n (fun i => f i j))
  | 0 => (sum_zero (fun _ _ _ => rfl)).symm
  | n + 1 => by
    rw [sumI_succ, sumI_swap f m n, ← sumI_add]
    rfl
/-- a loop that adds up -/
theorem sloop {step : Int × Int → Option ((Int × Int) ⊕ (Int × Int))} {f : Int → Int} {n : Int} (hn : 0 ≤ n) (h9 : n ≤ 1000) (hb : ∀ i : Int, 0 ≤ i → i < n → 0 ≤ f i ∧ f i ≤ 1000) (hs : ∀ z i : Int, 0 ≤ z → z ≤ 1000000 → 0 ≤ i → i < n → step (z, i) = some (.inl (z + f i, i + 1))) (he : ∀ z : Int, step (z, n) = some (.inr (z, n))) : fx_loop step FU (0, 0) = some (sumI n.toNat f, n) := by
  have e : ((n.toNat : Nat) : Int) = n := by omega
  refine loop_seq (fun j => (sumI j f, (j : Int))) n.toNat (fun j hj => ?_) ?_ (FU_gt (by omega))
  · have b0 : 0 ≤ sumI j f := sumI_nn (fun i a b => (hb i a (by omega)).1)
    have b1 : sumI j f ≤ j * 1000 := sumI_le (fun i a b => (hb i a (by omega)).2)
    exact hs _ j b0 (by omega) (by omega) (by omega)
  · simp only [e]; exact he _
abbrev fnd (k t : Int) : Prop := ((0 ≤ t) ∧ (t < 9)) ∧ ((0 < t) ∨ (¬ k = 4))
def gr (sm : Int → Int) (k : Int) (nw : Int → Int) (p t q : Int) : Int := if ¬ q = p ∧ sm (nw q) = sm t ∧ fnd k (nw q) then 1 else 0
theorem gr_01 (sm : Int → Int) (k : Int) (nw : Int → Int) (p t q : Int) : 0 ≤ gr sm k nw p t q ∧ gr sm k nw p t q ≤ 1 := by unfold gr; split <;> omega
def gl (sm : Int → Int) (k : Int) (nw : Int → Int) (p t q : Int) : Int := if q < p then gr sm k nw p t q else 0
theorem gl_01 (sm : Int → Int) (k : Int) (nw : Int → Int) (p t q : Int) : 0 ≤ gl sm k nw p t q ∧ gl sm k nw p t q ≤ 1 := by
  have := gr_01 sm k nw p t q
  unfold gl; split <;> omega
/-- how many others are of the group; how many of them have lesser numbers; how many did it ahead -/
def oth (sm : Int → Int) (k : Int) (nw : Int → Int) (P p t : Int) : Int := sumI P.toNat (gr sm k nw p t)
def les (sm : Int → Int) (k : Int) (nw : Int → Int) (P p t : Int) : Int := sumI P.toNat (gl sm k nw p t)
def wd1 (sm : Int → Int) (ah : Int → Int) (p t q : Int) : Int := if ¬ q = p ∧ sm (ah q) = sm t then 1 else 0
def wdn (sm : Int → Int) (ah : Int → Int) (P p t : Int) : Int := sumI P.toNat (wd1 sm ah p t)
theorem wd1_01 (sm : Int → Int) (ah : Int → Int) (p t q : Int) : 0 ≤ wd1 sm ah p t q ∧ wd1 sm ah p t q ≤ 1 := by unfold wd1; split <;> omega
theorem oth_b {sm : Int → Int} {k : Int} {nw : Int → Int} {P p t : Int} (h0 : 0 ≤ P) : 0 ≤ oth sm k nw P p t ∧ oth sm k nw P p t ≤ P := by
  refine ⟨sumI_nn (fun i _ _ => (gr_01 ..).1), ?_⟩
  have := sumI_le (n := P.toNat) (fun i _ _ => (gr_01 sm k nw p t i).2)
  unfold oth
  omega
theorem les_b {sm : Int → Int} {k : Int} {nw : Int → Int} {P p t : Int} (h0 : 0 ≤ P) : 0 ≤ les sm k nw P p t ∧ les sm k nw P p t ≤ P := by
  refine ⟨sumI_nn (fun i _ _ => (gl_01 ..).1), ?_⟩
  have := sumI_le (n := P.toNat) (fun i _ _ => (gl_01 sm k nw p t i).2)
  unfold les
  omega
/-- others are fewer than all -/
theorem oth_lt {sm : Int → Int} {k : Int} {nw : Int → Int} {P p t : Int} (h0 : 0 ≤ p) (h1 : p < P) : oth sm k nw P p t ≤ P - 1 := by
  unfold oth
  rw [sumI_at (p := p) h0 (by omega)]
  have e : gr sm k nw p t p = 0 := by unfold gr; rw [if_neg (by simp)]
  have h := sumI_mono (n := P.toNat) (f := fun i => if i = p then 0 else gr sm k nw p t i) (g := fun i => 1 + (if i = p then -1 else 0)) (fun i _ _ => by
    have := gr_01 sm k nw p t i
    by_cases c : i = p
    · simp only [if_pos c]; omega
    · simp only [if_neg c]; omega)
  rw [sumI_add (fun _ => 1), sumI_one, if_pos ⟨h0, by omega⟩] at h
  have h2 := sumI_le (n := P.toNat) (f := fun _ => 1) (c := 1) (fun _ _ _ => Int.le_refl 1)
  omega
/-- the fine -/
def FI (sm : Int → Int) (k : Int) (nw ah : Int → Int) (P ri p t : Int) : Int :=
  if ¬ fnd k t then 0 else
  if k = 1 ∨ k = 4 then 2 * oth sm k nw P p t else
  if k = 2 then (if p = ri ∨ gr sm k nw p t ri = 1 then (if p = ri then (oth sm k nw P p t + 1) * oth sm k nw P p t else 0) else oth sm k nw P p t) else
  if k = 3 then les sm k nw P p t else
  if k = 5 then (if 0 < wdn sm ah P p t then les sm k nw P p t + 2 else les sm k nw P p t) else
  oth sm k nw P p t
theorem FI_b {sm : Int → Int} {k : Int} {nw ah : Int → Int} {P ri p t : Int} (h0 : 0 ≤ p) (h1 : p < P) (h5 : P ≤ 5) : 0 ≤ FI sm k nw ah P ri p t ∧ FI sm k nw ah P ri p t ≤ 20 := by
  have a1 := oth_b (sm := sm) (k := k) (nw := nw) (P := P) (p := p) (t := t) (by omega)
  have a2 := oth_lt (sm := sm) (k := k) (nw := nw) (P := P) (p := p) (t := t) h0 h1
  have a3 := les_b (sm := sm) (k := k) (nw := nw) (P := P) (p := p) (t := t) (by omega)
  have a4 : 0 ≤ (oth sm k nw P p t + 1) * oth sm k nw P p t ∧ (oth sm k nw P p t + 1) * oth sm k nw P p t ≤ 20 := by
    rcases (show oth sm k nw P p t = 0 ∨ oth sm k nw P p t = 1 ∨ oth sm k nw P p t = 2 ∨ oth sm k nw P p t = 3 ∨ oth sm k nw P p t = 4 by omega) with e | e | e | e | e <;> rw [e] <;> decide
  unfold FI
  repeat' split
  all_goals omega
theorem FI_congr {sm sm' : Int → Int} {k : Int} {nw nw' ah ah' : Int → Int} {P ri p t : Int} (e0 : sm t = sm' t) (e1 : ∀ q : Int, 0 ≤ q → q < P → ¬ q = p → nw q = nw' q ∧ sm (nw q) = sm' (nw' q)) (e2 : ∀ q : Int, 0 ≤ q → q < P → ¬ q = p → sm (ah q) = sm' (ah' q)) (hr : 0 ≤ ri ∧ ri < P) : FI sm k nw ah P ri p t = FI sm' k nw' ah' P ri p t := by
  have g : ∀ q : Int, 0 ≤ q → q < P → gr sm k nw p t q = gr sm' k nw' p t q := fun q a b => by
    unfold gr
    by_cases c : q = p
    · rw [if_neg (by simp [c]), if_neg (by simp [c])]
    · obtain ⟨x1, x2⟩ := e1 q a b c
      rw [e0, x2, x1]
  have o : oth sm k nw P p t = oth sm' k nw' P p t := sumI_congr (fun q a b => g q a (by omega))
  have l : les sm k nw P p t = les sm' k nw' P p t := sumI_congr (fun q a b => by unfold gl; rw [g q a (by omega)])
  have w : wdn sm ah P p t = wdn sm' ah' P p t := sumI_congr (fun q a b => by
    unfold wd1
    by_cases c : q = p
    · rw [if_neg (by simp [c]), if_neg (by simp [c])]
    · rw [e0, e2 q a (by omega) c])
  unfold FI
  rw [o, l, w, g ri hr.1 hr.2]
theorem ev_isFined {Λ : fx_L} {c k t : Int} {h : fx_H} : f_X0_isFined FU Λ c k t h = some (if fnd k t then 1 else 0) := by
  unfold f_X0_isFined
  split <;> rfl
theorem rd44 {h : fx_H} {i : Int} (h0 : 0 ≤ i) (h1 : i ≤ 9) : fx_rd La_167 h 44 i = some (h 44 i) := rd_ok h0 (by rw [lb_ln_44]; omega)
theorem rdl {h : fx_H} {a i n : Int} (la : fx_ln La_167 a = n) (h0 : 0 ≤ i) (h1 : i < n) : fx_rd La_167 h a i = some (h a i) := rd_ok h0 (by rw [la]; exact h1)
theorem wrl {h : fx_H} {a i n v : Int} (la : fx_ln La_167 a = n) (h0 : 0 ≤ i) (h1 : i < n) : fx_wr La_167 h a i v = some (fx_up h a i v) := wr_ok h0 (by rw [la]; exact h1)
theorem ev_wasDone {h : fx_H} {b p t P : Int} (hP : h 43 4 = P) (P1 : 0 ≤ P) (P5 : P ≤ 5) (lb : fx_ln La_167 b = 5) (vb : ∀ q : Int, 0 ≤ q → q < P → 0 ≤ h b q ∧ h b q ≤ 9) (ht : 0 ≤ t ∧ t ≤ 9) : f_X0_wasDone FU La_167 43 b p t h = some (if 0 < wdn (h 44) (h b) P p t then 1 else 0) := by
  unfold f_X0_wasDone
  have key : Ret (fx_loop (s_X0_wasDone_1 FU La_167 43 b p t h) FU 0) (fun r => (match r with | .inl _ => wdn (h 44) (h b) P p t = 0 | .inr v => v = 1 ∧ 0 < wdn (h 44) (h b) P p t)) := by
    refine loop_ret (fun j => 0 ≤ j ∧ j ≤ P ∧ sumI j.toNat (wd1 (h 44) (h b) p t) = 0) (fun j => (P - j).toNat) (fun j hj => ?_) FU 0 ⟨by omega, by omega, rfl⟩ (FU_gt (by omega))
    obtain ⟨j0, j1, j2⟩ := hj
    unfold s_X0_wasDone_1
    simp only [lb_tg_43_0]
    by_cases c : j < P
    · rw [if_pos (by omega)]
      have sj : sumI (j + 1).toNat (wd1 (h 44) (h b) p t) = sumI j.toNat (wd1 (h 44) (h b) p t) + wd1 (h 44) (h b) p t j := by
        rw [show (j + 1).toNat = j.toNat + 1 by omega, sumI_succ, show ((j.toNat : Nat) : Int) = j by omega]
      by_cases e : j = p
      · rw [if_neg (by simp [e]), Option.bind_some, if_neg (by decide), wid (by omega) (by omega)]
        refine Or.inl ⟨_, rfl, ⟨by omega, by omega, ?_⟩, by omega⟩
        rw [sj, j2]; unfold wd1; rw [if_neg (by simp [e])]; rfl
      · obtain ⟨v0, v9⟩ := vb j j0 c
        rw [if_pos e, rdl lb j0 (by omega), Option.bind_some, rd44 v0 v9, Option.bind_some, rd44 ht.1 ht.2, Option.bind_some]
        by_cases e2 : h 44 (h b j) = h 44 t
        · rw [if_pos e2, Option.bind_some, if_pos rfl]
          refine Or.inr ⟨_, rfl, rfl, ?_⟩
          have w1 : wd1 (h 44) (h b) p t j = 1 := by unfold wd1; rw [if_pos ⟨e, e2⟩]
          unfold wdn
          rw [sumI_at (p := j) j0 (by omega), w1]
          have := sumI_nn (n := P.toNat) (f := fun i => if i = j then 0 else wd1 (h 44) (h b) p t i) (fun i _ _ => by
            have := wd1_01 (h 44) (h b) p t i
            split <;> omega)
          omega
        · rw [if_neg e2, Option.bind_some, if_neg (by decide), wid (by omega) (by omega)]
          refine Or.inl ⟨_, rfl, ⟨by omega, by omega, ?_⟩, by omega⟩
          rw [sj, j2]; unfold wd1; rw [if_neg (by simp [e2])]; rfl
    · rw [if_neg (by omega)]
      refine Or.inr ⟨_, rfl, ?_⟩
      have : j = P := by omega
      subst this
      exact j2
  obtain ⟨r, er, hr⟩ := key
  rw [er, Option.bind_some]
  cases r with
  | inl v => simp only at hr ⊢; rw [hr]; rfl
  | inr v => simp only at hr ⊢; rw [if_pos hr.2, hr.1]
