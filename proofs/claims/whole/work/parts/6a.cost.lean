-- needs: 5e
/-! ===== what one more costs ===== -/
def PRA (k : Int) : Int := fx_tab 0 k.toNat
theorem PRA_c {k : Int} (h0 : 0 ≤ k) (h5 : k ≤ 5) : (k = 0 → PRA k = 2) ∧ (k = 1 → PRA k = 4) ∧ (k = 2 → PRA k = 2) ∧ (k = 3 → PRA k = 1) ∧ (k = 4 → PRA k = 4) ∧ (k = 5 → PRA k = 1) := by
  rcases (show k = 0 ∨ k = 1 ∨ k = 2 ∨ k = 3 ∨ k = 4 ∨ k = 5 by omega) with rfl | rfl | rfl | rfl | rfl | rfl <;> decide
theorem PRA_v {k : Int} (h0 : 0 ≤ k) (h5 : k ≤ 5) : fx_rt 0 k = some (PRA k) := by
  unfold fx_rt PRA
  rw [if_pos (by omega)]
/-- two of one group -/
def pe (sm : Int → Int) (k : Int) (nw : Int → Int) (q r : Int) : Int := if ¬ r = q ∧ sm (nw r) = sm (nw q) ∧ fnd k (nw r) ∧ fnd k (nw q) then 1 else 0
theorem pe_01 (sm : Int → Int) (k : Int) (nw : Int → Int) (q r : Int) : 0 ≤ pe sm k nw q r ∧ pe sm k nw q r ≤ 1 := by unfold pe; split <;> omega
theorem pe_sym (sm : Int → Int) (k : Int) (nw : Int → Int) (q r : Int) : pe sm k nw q r = pe sm k nw r q := ite_iff ⟨fun z => ⟨fun y => z.1 y.symm, z.2.1.symm, z.2.2.2, z.2.2.1⟩, fun z => ⟨fun y => z.1 y.symm, z.2.1.symm, z.2.2.2, z.2.2.1⟩⟩
theorem pe_gr {sm : Int → Int} {k : Int} {nw : Int → Int} {q r : Int} (hf : fnd k (nw q)) : gr sm k nw q (nw q) r = pe sm k nw q r := ite_iff ⟨fun z => ⟨z.1, z.2.1, z.2.2, hf⟩, fun z => ⟨z.1, z.2.1, z.2.2.1⟩⟩
theorem pe_no {sm : Int → Int} {k : Int} {nw : Int → Int} {q r : Int} (hf : ¬ fnd k (nw q)) : pe sm k nw q r = 0 := by unfold pe; rw [if_neg (fun z => hf z.2.2.2)]
theorem pe_self (sm : Int → Int) (k : Int) (nw : Int → Int) (q : Int) : pe sm k nw q q = 0 := by unfold pe; rw [if_neg (fun z => z.1 rfl)]
def oq (sm : Int → Int) (k : Int) (nw : Int → Int) (P q : Int) : Int := sumI P.toNat (fun r => pe sm k nw q r)
def S1 (sm : Int → Int) (k : Int) (nw : Int → Int) (P : Int) : Int := sumI P.toNat (fun q => sumI P.toNat (fun r => if r < q then pe sm k nw q r else 0))
theorem S2_S1 (sm : Int → Int) (k : Int) (nw : Int → Int) (P : Int) : sumI P.toNat (fun q => oq sm k nw P q) = 2 * S1 sm k nw P := by
  have e1 : sumI P.toNat (fun q => oq sm k nw P q) = sumI P.toNat (fun q => sumI P.toNat (fun r => if r < q then pe sm k nw q r else 0) + sumI P.toNat (fun r => if q < r then pe sm k nw q r else 0)) := sumI_congr (fun q _ _ => by
    unfold oq
    rw [← sumI_add]
    refine sumI_congr (fun r _ _ => ?_)
    by_cases c : r < q
    · rw [if_pos c, if_neg (by omega), Int.add_zero]
    · rw [if_neg c]
      by_cases c2 : q < r
      · rw [if_pos c2, Int.zero_add]
      · rw [if_neg c2, show r = q by omega, pe_self]; rfl)
  rw [e1, sumI_add]
  have e2 : sumI P.toNat (fun q => sumI P.toNat (fun r => if q < r then pe sm k nw q r else 0)) = S1 sm k nw P := by
    rw [sumI_swap (fun q r => if q < r then pe sm k nw q r else 0)]
    refine sumI_congr (fun r _ _ => sumI_congr (fun q _ _ => ?_))
    rw [pe_sym]
  rw [e2]
  unfold S1
  omega
/-- those of one group are as many for each of it -/
theorem oq_eq {sm : Int → Int} {k : Int} {nw : Int → Int} {P q r : Int} (q0 : 0 ≤ q) (q1 : q < P) (r0 : 0 ≤ r) (r1 : r < P) (h : pe sm k nw q r = 1) : oq sm k nw P q = oq sm k nw P r := by
  have hh : ¬ r = q ∧ sm (nw r) = sm (nw q) ∧ fnd k (nw r) ∧ fnd k (nw q) := by
    unfold pe at h
    by_cases c : ¬ r = q ∧ sm (nw r) = sm (nw q) ∧ fnd k (nw r) ∧ fnd k (nw q)
    · exact c
    · rw [if_neg c] at h; omega
  obtain ⟨h1, h2, h3, h4⟩ := hh
  have key : ∀ x : Int, 0 ≤ x → x < P → fnd k (nw x) → sm (nw x) = sm (nw q) → oq sm k nw P x = sumI P.toNat (fun i => if sm (nw i) = sm (nw q) ∧ fnd k (nw i) then 1 else 0) - 1 := fun x x0 x1 xf xs => by
    have e : sumI P.toNat (fun i => if sm (nw i) = sm (nw q) ∧ fnd k (nw i) then 1 else 0) = sumI P.toNat (fun i => pe sm k nw x i + (if i = x then 1 else 0)) := sumI_congr (fun i _ _ => by
      unfold pe
      by_cases c : i = x
      · rw [c, if_pos ⟨xs, xf⟩, if_neg (fun z => z.1 rfl), if_pos rfl]; rfl
      · rw [if_neg c, Int.add_zero]
        exact ite_iff ⟨fun z => ⟨c, by rw [xs]; exact z.1, z.2, xf⟩, fun z => ⟨by rw [← xs]; exact z.2.1, z.2.2.1⟩⟩)
    rw [e, sumI_add (fun i => pe sm k nw x i), sumI_one, if_pos ⟨x0, by omega⟩]
    unfold oq
    omega
  rw [key q q0 q1 h4 rfl, key r r0 r1 h3 h2]
/-- what an hour costs them all -/
def HC (sm : Int → Int) (k : Int) (nw ah : Int → Int) (P ri : Int) : Int := sumI P.toNat (fun p => FI sm k nw ah P ri p (nw p))
def Bn (sm : Int → Int) (nw ah : Int → Int) (P : Int) : Int := sumI P.toNat (fun q => if fnd 5 (nw q) ∧ 0 < wdn sm ah P q (nw q) then 2 else 0)
theorem HC_eq {sm : Int → Int} {k : Int} {nw ah : Int → Int} {P ri : Int} (k0 : 0 ≤ k) (k5 : k ≤ 5) (hri : 0 ≤ ri ∧ ri < P) : HC sm k nw ah P ri = PRA k * S1 sm k nw P + (if k = 5 then Bn sm nw ah P else 0) := by
  obtain ⟨x0, x1, x2, x3, x4, x5⟩ := PRA_c k0 k5
  have oE : ∀ q : Int, fnd k (nw q) → oth sm k nw P q (nw q) = oq sm k nw P q := fun q hf => sumI_congr (fun r _ _ => pe_gr hf)
  have lE : ∀ q : Int, fnd k (nw q) → les sm k nw P q (nw q) = sumI P.toNat (fun r => if r < q then pe sm k nw q r else 0) := fun q hf => sumI_congr (fun r _ _ => by unfold gl; rw [pe_gr hf])
  have oN : ∀ q : Int, ¬ fnd k (nw q) → oq sm k nw P q = 0 := fun q hf => sum_zero (fun r _ _ => pe_no hf)
  have lN : ∀ q : Int, ¬ fnd k (nw q) → sumI P.toNat (fun r => if r < q then pe sm k nw q r else 0) = 0 := fun q hf => sum_zero (fun r _ _ => by rw [pe_no hf]; split <;> rfl)
  have S2 := S2_S1 sm k nw P
  unfold HC
  rcases (show k = 0 ∨ (k = 1 ∨ k = 4) ∨ k = 2 ∨ k = 3 ∨ k = 5 by omega) with c | c | c | c | c
  · rw [sumI_congr (g := fun q => oq sm k nw P q) (fun q _ _ => by
      unfold FI
      by_cases hf : fnd k (nw q)
      · rw [if_neg (not_not_intro hf), if_neg (by omega), if_neg (by omega), if_neg (by omega), if_neg (by omega), oE q hf]
      · rw [if_pos hf, oN q hf]), S2, x0 c, if_neg (by omega), Int.add_zero]
  · rw [sumI_congr (g := fun q => 2 * oq sm k nw P q) (fun q _ _ => by
      unfold FI
      by_cases hf : fnd k (nw q)
      · rw [if_neg (not_not_intro hf), if_pos c, oE q hf]
      · rw [if_pos hf, oN q hf]; rfl), sumI_mul, S2, if_neg (by omega), Int.add_zero]
    have : PRA k = 4 := by rcases c with c | c; exact x1 c; exact x4 c
    rw [this]; omega
  · generalize hO : oq sm k nw P ri = o
    have e : sumI P.toNat (fun q => FI sm k nw ah P ri q (nw q)) = sumI P.toNat (fun q => (oq sm k nw P q + (if q = ri then o * o else 0)) + (-o) * pe sm k nw ri q) := sumI_congr (fun q q0 q1 => by
      have q1 : q < P := by omega
      unfold FI
      by_cases hf : fnd k (nw q)
      · rw [if_neg (not_not_intro hf), if_neg (by omega), if_pos c, oE q hf, pe_gr hf]
        by_cases c1 : q = ri
        · rw [if_pos (Or.inl c1), if_pos c1, if_pos c1, c1, hO, pe_self, Int.mul_zero, Int.add_zero, Int.add_mul, Int.one_mul]; omega
        · simp only [if_neg c1]
          rw [Int.add_zero, pe_sym sm k nw ri q]
          by_cases c2 : pe sm k nw q ri = 1
          · rw [if_pos (Or.inr c2), c2, oq_eq q0 q1 hri.1 hri.2 c2, hO]; omega
          · have := pe_01 sm k nw q ri
            rw [if_neg (by omega), show pe sm k nw q ri = 0 by omega]; omega
      · rw [if_pos hf, oN q hf, pe_sym sm k nw ri q, pe_no hf]
        by_cases c1 : q = ri
        · have : o = 0 := by rw [← hO, ← c1]; exact oN q hf
          rw [this]; split <;> rfl
        · rw [if_neg c1]; omega)
    rw [e, sumI_add (fun q => oq sm k nw P q + (if q = ri then o * o else 0)), sumI_add, sumI_mul, sumI_one, if_pos ⟨hri.1, by omega⟩, S2, x2 c, if_neg (by omega), Int.add_zero]
    have : sumI P.toNat (fun q => pe sm k nw ri q) = o := hO
    rw [this, Int.neg_mul]
    omega
  · rw [sumI_congr (g := fun q => sumI P.toNat (fun r => if r < q then pe sm k nw q r else 0)) (fun q _ _ => by
      unfold FI
      by_cases hf : fnd k (nw q)
      · rw [if_neg (not_not_intro hf), if_neg (by omega), if_neg (by omega), if_pos c, lE q hf]
      · rw [if_pos hf, lN q hf]), x3 c, if_neg (by omega), Int.add_zero, Int.one_mul]
    rfl
  · subst c
    rw [sumI_congr (g := fun q => sumI P.toNat (fun r => if r < q then pe sm 5 nw q r else 0) + (if fnd 5 (nw q) ∧ 0 < wdn sm ah P q (nw q) then 2 else 0)) (fun q _ _ => by
      unfold FI
      by_cases hf : fnd 5 (nw q)
      · rw [if_neg (not_not_intro hf), if_neg (by omega), if_neg (by omega), if_neg (by omega), if_pos rfl, lE q hf]
        by_cases c : 0 < wdn sm ah P q (nw q)
        · rw [if_pos c, if_pos ⟨hf, c⟩]
        · rw [if_neg c, if_neg (fun z => c z.2), Int.add_zero]
      · rw [if_pos hf, lN q hf, if_neg (fun z => hf z.1)]; rfl), sumI_add, x5 rfl, if_pos rfl, Int.one_mul]
    rfl
/-- one who did nothing now does t -/
def updI (nw : Int → Int) (p t q : Int) : Int := if q = p then t else nw q
theorem upd_p {nw : Int → Int} {p t : Int} : updI nw p t p = t := by unfold updI; rw [if_pos rfl]
theorem upd_q {nw : Int → Int} {p t q : Int} (h : ¬ q = p) : updI nw p t q = nw q := by unfold updI; rw [if_neg h]
theorem nf9 (k : Int) : ¬ fnd k 9 := by omega
theorem S1_upd {sm : Int → Int} {k : Int} {nw : Int → Int} {P p t : Int} (p0 : 0 ≤ p) (p1 : p < P) (h9 : nw p = 9) : S1 sm k (updI nw p t) P = S1 sm k nw P + (if fnd k t then oth sm k nw P p t else 0) := by
  have X : ∀ r : Int, pe sm k (updI nw p t) p r = if fnd k t then gr sm k nw p t r else 0 := fun r => by
    by_cases hf : fnd k t
    · rw [if_pos hf, ← pe_gr (by rw [upd_p]; exact hf), upd_p]
      unfold gr
      by_cases c : r = p
      · rw [if_neg (fun z => z.1 c), if_neg (fun z => z.1 c)]
      · rw [upd_q c]
    · rw [if_neg hf, pe_no (by rw [upd_p]; exact hf)]
  have Xp : pe sm k (updI nw p t) p p = 0 := pe_self ..
  have e1 : S1 sm k (updI nw p t) P = sumI P.toNat (fun q => sumI P.toNat (fun r => if r < q then pe sm k nw q r else 0) + ((if q = p then sumI P.toNat (fun r => if r < p then pe sm k (updI nw p t) p r else 0) else 0) + (if p < q then pe sm k (updI nw p t) p q else 0))) := sumI_congr (fun q q0 q1 => by
    have e2 : sumI P.toNat (fun r => if r < q then pe sm k (updI nw p t) q r else 0) = sumI P.toNat (fun r => (if r < q then pe sm k nw q r else 0) + ((if q = p then (if r < p then pe sm k (updI nw p t) p r else 0) else 0) + (if r = p then (if p < q then pe sm k (updI nw p t) p q else 0) else 0))) := sumI_congr (fun r r0 r1 => by
      by_cases cq : q = p
      · rw [if_pos cq, cq]
        have : pe sm k nw p r = 0 := pe_no (by rw [h9]; exact nf9 k)
        rw [this, if_neg (Int.lt_irrefl p)]
        split <;> split <;> omega
      · rw [if_neg cq]
        by_cases cr : r = p
        · rw [if_pos cr, cr, pe_sym sm k (updI nw p t) q p]
          have : pe sm k nw q p = 0 := by rw [pe_sym]; exact pe_no (by rw [h9]; exact nf9 k)
          rw [this]
          split <;> omega
        · rw [if_neg cr, Int.add_zero, Int.add_zero]
          have : pe sm k (updI nw p t) q r = pe sm k nw q r := by unfold pe; rw [upd_q cq, upd_q cr]
          rw [this])
    rw [e2, sumI_add (fun r => if r < q then pe sm k nw q r else 0), sumI_add (fun r => if q = p then (if r < p then pe sm k (updI nw p t) p r else 0) else 0), sumI_one, if_pos ⟨p0, by omega⟩]
    congr 2
    by_cases cq : q = p
    · rw [if_pos cq]
      exact sumI_congr (fun r _ _ => by rw [if_pos cq])
    · rw [if_neg cq]
      exact sum_zero (fun r _ _ => by rw [if_neg cq]))
  rw [e1, sumI_add (fun q => sumI P.toNat (fun r => if r < q then pe sm k nw q r else 0)), sumI_add (fun q => if q = p then sumI P.toNat (fun r => if r < p then pe sm k (updI nw p t) p r else 0) else 0), sumI_one, if_pos ⟨p0, by omega⟩, ← sumI_add]
  show S1 sm k nw P + _ = _
  congr 1
  have e3 : sumI P.toNat (fun i => (if i < p then pe sm k (updI nw p t) p i else 0) + (if p < i then pe sm k (updI nw p t) p i else 0)) = sumI P.toNat (fun r => if fnd k t then gr sm k nw p t r else 0) := sumI_congr (fun i _ _ => by
    rw [← X i]
    by_cases c1 : i < p
    · rw [if_pos c1, if_neg (by omega), Int.add_zero]
    · by_cases c2 : p < i
      · rw [if_neg c1, if_pos c2, Int.zero_add]
      · rw [if_neg c1, if_neg c2, show i = p by omega, Xp]; rfl)
  rw [e3]
  by_cases hf : fnd k t
  · rw [if_pos hf]
    exact sumI_congr (fun r _ _ => by rw [if_pos hf])
  · rw [if_neg hf]
    exact sum_zero (fun r _ _ => by rw [if_neg hf])
/-- those who copy one, and nobody yet -/
def atc (sm : Int → Int) (nw nxt : Int → Int) (P p t : Int) : Int := sumI P.toNat (fun q => if ¬ q = p ∧ sm (nxt q) = sm t ∧ ¬ 0 < wdn sm nw P q t then 1 else 0)
theorem wdn_nn {sm ah : Int → Int} {P p t : Int} : 0 ≤ wdn sm ah P p t := sumI_nn (fun i _ _ => (wd1_01 ..).1)
theorem wdn_sm {sm ah : Int → Int} {P p t t' : Int} (h : sm t = sm t') : wdn sm ah P p t = wdn sm ah P p t' := sumI_congr (fun q _ _ => by unfold wd1; rw [h])
theorem Bn_upd {sm : Int → Int} {nw ah : Int → Int} {P p t t' T : Int} (p0 : 0 ≤ p) (p1 : p < P) (h9 : nw p = 9) (a9 : ah p = 9) (s9 : sm 9 = -1) (sT : ∀ x : Int, 0 ≤ x → x < T → 0 ≤ sm x) (T9 : T ≤ 9) (hn : ∀ q : Int, 0 ≤ q → q < P → 0 ≤ nw q ∧ nw q < T ∨ nw q = 9) (ht : 0 ≤ t ∧ t < T ∨ t = 9) (ht' : 0 ≤ t' ∧ t' < T ∨ t' = 9) : Bn sm (updI nw p t) (updI ah p t') P = Bn sm nw ah P + (if ¬ t = 9 ∧ 0 < wdn sm ah P p t then 2 else 0) + (if ¬ t' = 9 then 2 * atc sm ah nw P p t' else 0) := by
  have wp : wdn sm (updI ah p t') P p t = wdn sm ah P p t := sumI_congr (fun q _ _ => by
    unfold wd1
    by_cases c : q = p
    · rw [if_neg (fun z => z.1 c), if_neg (fun z => z.1 c)]
    · rw [upd_q c])
  have wq : ∀ q : Int, 0 ≤ q → q < P → ¬ q = p → ¬ nw q = 9 → wdn sm (updI ah p t') P q (nw q) = wdn sm ah P q (nw q) + (if sm t' = sm (nw q) then 1 else 0) := fun q q0 q1 qp q9 => by
    have sq : 0 ≤ sm (nw q) := sT _ (by have := hn q q0 q1; omega) (by have := hn q q0 q1; omega)
    have e : wdn sm (updI ah p t') P q (nw q) = sumI P.toNat (fun i => wd1 sm ah q (nw q) i + (if i = p then (if sm t' = sm (nw q) then 1 else 0) else 0)) := sumI_congr (fun i _ _ => by
      unfold wd1
      by_cases c : i = p
      · rw [c, upd_p, if_pos rfl, a9, s9, if_neg (show ¬ (¬ p = q ∧ (-1 : Int) = sm (nw q)) by omega), Int.zero_add]
        exact ite_iff ⟨fun z => z.2, fun z => ⟨fun y => qp y.symm, z⟩⟩
      · rw [upd_q c, if_neg c, Int.add_zero])
    rw [e, sumI_add, sumI_one, if_pos ⟨p0, by omega⟩]
    rfl
  unfold Bn
  have e : sumI P.toNat (fun q => if fnd 5 (updI nw p t q) ∧ 0 < wdn sm (updI ah p t') P q (updI nw p t q) then (2 : Int) else 0) = sumI P.toNat (fun q => ((if fnd 5 (nw q) ∧ 0 < wdn sm ah P q (nw q) then 2 else 0) + (if q = p then (if ¬ t = 9 ∧ 0 < wdn sm ah P p t then 2 else 0) else 0)) + (if ¬ t' = 9 then 2 else 0) * (if ¬ q = p ∧ sm (nw q) = sm t' ∧ ¬ 0 < wdn sm ah P q t' then 1 else 0)) := sumI_congr (fun q q0 q1 => by
    have q1 : q < P := by omega
    by_cases c : q = p
    · rw [if_pos c, c, upd_p, h9, if_neg (show ¬ (fnd 5 9 ∧ 0 < wdn sm ah P p 9) from fun z => nf9 5 z.1), wp, if_neg (show ¬ (¬ p = p ∧ _ ∧ _) from fun z => z.1 rfl), Int.mul_zero, Int.add_zero, Int.zero_add]
      exact ite_iff ⟨fun z => ⟨fun y => by rw [y] at z; exact nf9 5 z.1, z.2⟩, fun z => ⟨by omega, z.2⟩⟩
    · rw [if_neg c, upd_q c, Int.add_zero]
      by_cases q9 : nw q = 9
      · rw [q9, if_neg (fun z => nf9 5 z.1), if_neg (fun z => nf9 5 z.1), Int.zero_add]
        by_cases t9 : t' = 9
        · rw [if_neg (not_not_intro t9), Int.zero_mul]
        · have := sT t' (by omega) (by omega)
          rw [if_neg (show ¬ (¬ q = p ∧ sm 9 = sm t' ∧ ¬ 0 < wdn sm ah P q t') from fun z => by have := z.2.1; omega), Int.mul_zero]
      · have hf : fnd 5 (nw q) := by have := hn q q0 q1; omega
        have sq : 0 ≤ sm (nw q) := sT _ (by have := hn q q0 q1; omega) (by have := hn q q0 q1; omega)
        rw [wq q q0 q1 c q9]
        have wn := wdn_nn (sm := sm) (ah := ah) (P := P) (p := q) (t := nw q)
        by_cases t9 : t' = 9
        · rw [if_neg (not_not_intro t9), Int.zero_mul, Int.add_zero, t9, s9, if_neg (show ¬ (-1 : Int) = sm (nw q) by omega), Int.add_zero]
        · rw [if_pos t9]
          by_cases y : sm t' = sm (nw q)
          · rw [if_pos y, if_pos ⟨hf, by omega⟩, wdn_sm (t' := nw q) y]
            by_cases w : 0 < wdn sm ah P q (nw q)
            · rw [if_pos ⟨hf, w⟩, if_neg (fun z => z.2.2 w)]; rfl
            · rw [if_neg (fun z => w z.2), if_pos ⟨c, y.symm, w⟩]; rfl
          · rw [if_neg y, Int.add_zero, if_neg (show ¬ (¬ q = p ∧ sm (nw q) = sm t' ∧ ¬ 0 < wdn sm ah P q t') from fun z => y z.2.1.symm), Int.mul_zero, Int.add_zero])
  rw [e, sumI_add (fun q => (if fnd 5 (nw q) ∧ 0 < wdn sm ah P q (nw q) then 2 else 0) + (if q = p then (if ¬ t = 9 ∧ 0 < wdn sm ah P p t then 2 else 0) else 0)), sumI_add, sumI_one, if_pos ⟨p0, by omega⟩, sumI_mul]
  congr 1
  unfold atc
  split
  · rfl
  · rw [Int.zero_mul]
/-- what one more who does t in an hour costs there, and what t' ahead of it does -/
theorem HC_upd {sm : Int → Int} {k : Int} {nw ah : Int → Int} {P ri p t t' T : Int} (k0 : 0 ≤ k) (k5 : k ≤ 5) (hri : 0 ≤ ri ∧ ri < P) (p0 : 0 ≤ p) (p1 : p < P) (h9 : nw p = 9) (a9 : ah p = 9) (s9 : sm 9 = -1) (sT : ∀ x : Int, 0 ≤ x → x < T → 0 ≤ sm x) (T9 : T ≤ 9) (hn : ∀ q : Int, 0 ≤ q → q < P → 0 ≤ nw q ∧ nw q < T ∨ nw q = 9) (ht : 0 ≤ t ∧ t < T ∨ t = 9) (ht' : 0 ≤ t' ∧ t' < T ∨ t' = 9) : HC sm k (updI nw p t) (updI ah p t') P ri = HC sm k nw ah P ri + (PRA k * (if fnd k t then oth sm k nw P p t else 0) + (if k = 5 ∧ ¬ t = 9 ∧ 0 < wdn sm ah P p t then 2 else 0)) + (if k = 5 ∧ ¬ t' = 9 then 2 * atc sm ah nw P p t' else 0) := by
  rw [HC_eq k0 k5 hri, HC_eq k0 k5 hri, S1_upd p0 p1 h9, Int.mul_add]
  by_cases c : k = 5
  · rw [if_pos c, if_pos c, Bn_upd p0 p1 h9 a9 s9 sT T9 hn ht ht']
    have e1 : (if k = 5 ∧ ¬ t = 9 ∧ 0 < wdn sm ah P p t then (2 : Int) else 0) = if ¬ t = 9 ∧ 0 < wdn sm ah P p t then 2 else 0 := ite_iff ⟨fun z => z.2, fun z => ⟨c, z⟩⟩
    have e2 : (if k = 5 ∧ ¬ t' = 9 then 2 * atc sm ah nw P p t' else 0) = if ¬ t' = 9 then 2 * atc sm ah nw P p t' else 0 := ite_iff ⟨fun z => z.2, fun z => ⟨c, z⟩⟩
    rw [e1, e2]
    omega
  · rw [if_neg c, if_neg c, if_neg (show ¬ (k = 5 ∧ ¬ t = 9 ∧ 0 < wdn sm ah P p t) from fun z => c z.1), if_neg (show ¬ (k = 5 ∧ ¬ t' = 9) from fun z => c z.1)]
    omega
