-- needs: 3n
theorem ite_iff {α : Type} {p q : Prop} [Decidable p] [Decidable q] {a b : α} (h : p ↔ q) : (if p then a else b) = if q then a else b := by
  by_cases c : p
  · rw [if_pos c, if_pos (h.mp c)]
  · rw [if_neg c, if_neg (fun z => c (h.mpr z))]
/-- the class's fine -/
theorem ev_fine {h : fx_H} {a b k p t P ri : Int} (hP : h 43 4 = P) (hR : h 43 5 = ri) (P1 : 0 ≤ P) (P5 : P ≤ 5) (la : fx_ln La_167 a = 5) (lb : fx_ln La_167 b = 5) (va : ∀ q : Int, 0 ≤ q → q < P → 0 ≤ h a q ∧ h a q ≤ 9) (vb : ∀ q : Int, 0 ≤ q → q < P → 0 ≤ h b q ∧ h b q ≤ 9) (ht : 0 ≤ t ∧ t ≤ 9) (hr : 0 ≤ ri ∧ ri < P) : f_X0_fine FU La_167 43 k a b p t h = some (FI (h 44) k (h a) (h b) P ri p t) := by
  unfold f_X0_fine
  rw [ev_isFined, Option.bind_some]
  by_cases hf : fnd k t
  · rw [if_pos hf, if_neg (by decide)]
    have e4 : (if p = h 43 5 then some (1 : Int) else some 0) = some (if p = ri then 1 else 0) := by rw [hR]; split <;> rfl
    rw [e4, Option.bind_some]
    have key := loop_seq (step := s_X0_fine_1 FU La_167 43 k a p t h) (fun j => (sumI j (gr (h 44) k (h a) p t), sumI j (gl (h 44) k (h a) p t), (if p = ri ∨ (ri < j ∧ gr (h 44) k (h a) p t ri = 1) then (1 : Int) else 0), (j : Int))) P.toNat (e := (oth (h 44) k (h a) P p t, les (h 44) k (h a) P p t, (if p = ri ∨ (ri < (P.toNat : Int) ∧ gr (h 44) k (h a) p t ri = 1) then (1 : Int) else 0), (P.toNat : Int))) (fun j hj => by
      have b0 : 0 ≤ sumI j (gr (h 44) k (h a) p t) := sumI_nn (fun i _ _ => (gr_01 ..).1)
      have b1 := sumI_le (n := j) (fun i _ _ => (gr_01 (h 44) k (h a) p t i).2)
      have b2 : 0 ≤ sumI j (gl (h 44) k (h a) p t) := sumI_nn (fun i _ _ => (gl_01 ..).1)
      have b3 := sumI_le (n := j) (fun i _ _ => (gl_01 (h 44) k (h a) p t i).2)
      obtain ⟨v0, v9⟩ := va j (by omega) (by omega)
      unfold s_X0_fine_1
      simp only [lb_tg_43_0, hP, hR, ev_isFined]
      rw [if_pos (by omega), sumI_succ, sumI_succ]
      have hno : gr (h 44) k (h a) p t j = 0 → gl (h 44) k (h a) p t j = 0 ∧ (if p = ri ∨ (ri < ((j + 1 : Nat) : Int) ∧ gr (h 44) k (h a) p t ri = 1) then (1 : Int) else 0) = (if p = ri ∨ (ri < (j : Int) ∧ gr (h 44) k (h a) p t ri = 1) then (1 : Int) else 0) := fun e => by
        refine ⟨by unfold gl; rw [e]; split <;> rfl, ?_⟩
        by_cases c : ri = j
        · rw [c, e]; simp
        · exact ite_iff (by omega)
      by_cases e : (j : Int) = p
      · rw [if_pos e, Option.bind_some, if_pos rfl, wid (z := (j : Int) + 1) (by omega) (by omega)]
        have g0 : gr (h 44) k (h a) p t j = 0 := by unfold gr; rw [if_neg (by simp [e])]
        rw [(hno g0).1, (hno g0).2, g0, Int.add_zero, Int.add_zero]; rfl
      · rw [if_neg e, rdl la (by omega) (by omega), Option.bind_some, rd44 v0 v9, Option.bind_some, rd44 ht.1 ht.2, Option.bind_some]
        by_cases e2 : h 44 (h a j) = h 44 t
        · rw [if_neg (by simp [e2]), Option.bind_some, Option.bind_some]
          by_cases e3 : fnd k (h a j)
          · rw [if_pos e3, if_neg (by decide), Option.bind_some, if_neg (by decide)]
            have g1 : gr (h 44) k (h a) p t j = 1 := by unfold gr; rw [if_pos ⟨e, e2, e3⟩]
            have l1 : gl (h 44) k (h a) p t j = if (j : Int) < p then 1 else 0 := by unfold gl; rw [g1]
            rw [show (if (j : Int) < p then some (1 : Int) else some 0) = some (gl (h 44) k (h a) p t j) by rw [l1]; split <;> rfl, Option.bind_some]
            rw [show (if ¬ (if p = ri ∨ (ri < (j : Int) ∧ gr (h 44) k (h a) p t ri = 1) then (1 : Int) else 0) = 0 ∨ (j : Int) = ri then some (1 : Int) else some 0) = some (if p = ri ∨ (ri < ((j + 1 : Nat) : Int) ∧ gr (h 44) k (h a) p t ri = 1) then (1 : Int) else 0) by
              by_cases c : (j : Int) = ri
              · rw [if_pos (Or.inr c), if_pos (Or.inr ⟨by omega, by rw [← c]; exact g1⟩)]
              · rw [show (if p = ri ∨ (ri < ((j + 1 : Nat) : Int) ∧ gr (h 44) k (h a) p t ri = 1) then (1 : Int) else 0) = (if p = ri ∨ (ri < (j : Int) ∧ gr (h 44) k (h a) p t ri = 1) then (1 : Int) else 0) from ite_iff (by omega)]
                by_cases d : p = ri ∨ (ri < (j : Int) ∧ gr (h 44) k (h a) p t ri = 1)
                · rw [if_pos d, if_pos (Or.inl (by decide))]
                · rw [if_neg d, if_neg (by simp [c])], Option.bind_some]
            have := gl_01 (h 44) k (h a) p t j
            rw [g1, wid (by omega) (by omega), wid (by omega) (by omega), wid (by omega) (by omega)]; rfl
          · rw [if_neg e3, if_pos rfl, Option.bind_some, if_pos rfl, wid (z := (j : Int) + 1) (by omega) (by omega)]
            have g0 : gr (h 44) k (h a) p t j = 0 := by unfold gr; rw [if_neg (fun q => e3 q.2.2)]
            rw [(hno g0).1, (hno g0).2, g0, Int.add_zero, Int.add_zero]; rfl
        · rw [if_pos e2, Option.bind_some, if_pos rfl, wid (z := (j : Int) + 1) (by omega) (by omega)]
          have g0 : gr (h 44) k (h a) p t j = 0 := by unfold gr; rw [if_neg (fun q => e2 q.2.1)]
          rw [(hno g0).1, (hno g0).2, g0, Int.add_zero, Int.add_zero]; rfl) (by
      unfold s_X0_fine_1
      simp only [hP]
      rw [if_neg (by omega)]; rfl) (Fu := FU) (FU_gt (by omega))
    have w0 : (if p = ri ∨ (ri < ((0 : Nat) : Int) ∧ gr (h 44) k (h a) p t ri = 1) then (1 : Int) else 0) = if p = ri then 1 else 0 := by
      exact ite_iff (by omega)
    have w1 : (if p = ri ∨ (ri < (P.toNat : Int) ∧ gr (h 44) k (h a) p t ri = 1) then (1 : Int) else 0) = if p = ri ∨ gr (h 44) k (h a) p t ri = 1 then 1 else 0 := by
      exact ite_iff (by omega)
    simp only [w0, w1] at key
    have key2 : fx_loop (s_X0_fine_1 FU La_167 43 k a p t h) FU (0, 0, (if p = ri then (1 : Int) else 0), 0) = _ := key
    rw [key2, Option.bind_some]
    have o1 := oth_b (sm := h 44) (k := k) (nw := h a) (P := P) (p := p) (t := t) P1
    have o2 := les_b (sm := h 44) (k := k) (nw := h a) (P := P) (p := p) (t := t) P1
    unfold FI
    rw [if_neg (not_not_intro hf)]
    simp only
    by_cases k1 : k = 1 ∨ k = 4
    · rw [if_pos k1, if_pos k1, wid (by omega) (by omega)]
    · rw [if_neg k1, if_neg k1]
      by_cases k2 : k = 2
      · rw [if_pos k2, if_pos k2]
        by_cases c : p = ri ∨ gr (h 44) k (h a) p t ri = 1
        · rw [if_pos c, if_pos c, if_pos (by decide)]
          unfold f_X0_boughtBy
          rw [hR]
          by_cases c2 : p = ri
          · have mb : 0 ≤ (oth (h 44) k (h a) P p t + 1) * oth (h 44) k (h a) P p t ∧ (oth (h 44) k (h a) P p t + 1) * oth (h 44) k (h a) P p t ≤ 6 * 5 := ⟨Int.mul_nonneg (by omega) (by omega), Int.mul_le_mul (by omega) (by omega) (by omega) (by omega)⟩
            rw [if_pos c2, if_pos c2, wid (z := oth (h 44) k (h a) P p t + 1) (by omega) (by omega), wid (by omega) (by omega)]; rfl
          · rw [if_neg c2, if_neg c2]; rfl
        · rw [if_neg c, if_neg c, if_neg (by decide)]; rfl
      · rw [if_neg k2, if_neg k2]
        by_cases k3 : k = 3
        · rw [if_pos k3, if_pos k3]
        · rw [if_neg k3, if_neg k3]
          by_cases k5 : k = 5
          · rw [if_pos k5, if_pos k5, ev_wasDone hP P1 P5 lb vb ht, Option.bind_some]
            by_cases c : 0 < wdn (h 44) (h b) P p t
            · rw [if_pos c, if_pos c, if_pos (by decide), wid (by omega) (by omega)]; rfl
            · rw [if_neg c, if_neg c, if_neg (by decide)]; rfl
          · rw [if_neg k5, if_neg k5]
  · rw [if_neg hf, if_pos rfl]
    unfold FI
    rw [if_pos hf]
/-- the reference's row of an hour -/
def en (v : Int) : Int := if v = -1 then 9 else v
def hn (g : fx_H) (hr q : Int) : Int := en (g 133 (5 * q + hr))
/-- what the reference has in hand is well: nothing, or one of T things -/
def HOK (T P : Int) (g : fx_H) : Prop := ∀ q hr : Int, 0 ≤ q → q < P → 0 ≤ hr → hr < 5 → -1 ≤ g 133 (5 * q + hr) ∧ g 133 (5 * q + hr) < T
/-- its word of what is the same is sm -/
def SOK (sm : Int → Int) (T : Int) (g : fx_H) : Prop := ∀ t : Int, 0 ≤ t → t < T → g 132 t = sm t ∧ 0 ≤ sm t
theorem rd133 {g : fx_H} {i : Int} (h0 : 0 ≤ i) (h1 : i < 25) : fx_rd La_167 g 133 i = some (g 133 i) := rd_ok h0 (by rw [lb_ln_133]; exact h1)
theorem rd132 {g : fx_H} {i : Int} (h0 : 0 ≤ i) (h1 : i < 9) : fx_rd La_167 g 132 i = some (g 132 i) := rd_ok h0 (by rw [lb_ln_132]; exact h1)
theorem ev_doing {g : fx_H} {p hr : Int} (p0 : 0 ≤ p) (p5 : p < 5) (r0 : 0 ≤ hr) (r5 : hr < 5) : f_X6_doing FU La_167 126 p hr g = some (g 133 (5 * p + hr)) := by
  unfold f_X6_doing
  rw [lb_tg_126_8, wid (z := 5 * p) (by omega) (by omega), wid (by omega) (by omega), rd133 (by omega) (by omega)]; rfl
theorem en_i {v : Int} (h : ¬ v = -1) : en v = v := by unfold en; rw [if_neg h]
theorem ev_isWith {g : fx_H} {sm : Int → Int} {T P k p q hr : Int} (T9 : T ≤ 9) (P5 : P ≤ 5) (s9 : sm 9 = -1) (hs : SOK sm T g) (hh : HOK T P g) (p0 : 0 ≤ p) (p1 : p < P) (q0 : 0 ≤ q) (q1 : q < P) (r0 : 0 ≤ hr) (r5 : hr < 5) (hn1 : ¬ g 133 (5 * p + hr) = -1) : f_X6_isWith FU La_167 126 q p hr (if k = 4 then 1 else 0) g = some (if sm (hn g hr q) = sm (g 133 (5 * p + hr)) ∧ fnd k (hn g hr q) then 1 else 0) := by
  unfold f_X6_isWith
  rw [ev_doing p0 (by omega) r0 r5, Option.bind_some, ev_doing q0 (by omega) r0 r5, Option.bind_some]
  simp only [lb_tg_126_7]
  obtain ⟨a1, a2⟩ := hh p hr p0 p1 r0 r5
  obtain ⟨b1, b2⟩ := hh q hr q0 q1 r0 r5
  obtain ⟨s1, s2⟩ := hs (g 133 (5 * p + hr)) (by omega) a2
  by_cases c : g 133 (5 * q + hr) = -1
  · rw [if_neg (not_not_intro c), if_neg (fun z => by
      have z1 := z.1
      unfold hn en at z1
      rw [if_pos c, s9] at z1
      omega)]
    rfl
  · obtain ⟨s3, s4⟩ := hs (g 133 (5 * q + hr)) (by omega) b2
    have en1 : hn g hr q = g 133 (5 * q + hr) := en_i c
    rw [if_pos c, rd132 (by omega) (by omega), Option.bind_some, rd132 (by omega) (by omega), Option.bind_some, en1, s1, s3]
    by_cases c2 : sm (g 133 (5 * p + hr)) = sm (g 133 (5 * q + hr))
    · rw [if_pos c2]
      by_cases c3 : k = 4
      · rw [if_pos c3, if_pos (by decide)]
        by_cases c4 : g 133 (5 * q + hr) = 0
        · rw [if_pos c4, if_neg (fun z => by have := z.2; omega)]; rfl
        · rw [if_neg c4, if_pos ⟨c2.symm, by omega⟩]; rfl
      · rw [if_neg c3, if_neg (by decide), if_pos ⟨c2.symm, by omega⟩]; rfl
    · rw [if_neg c2, if_neg (fun z => c2 z.1.symm)]; rfl
/-- what was done ahead, as the reference sees it -/
def ha (g : fx_H) (hr q : Int) : Int := if 0 < hr then hn g (hr - 1) q else 9
theorem ev_wasDoneR {g : fx_H} {sm : Int → Int} {T P p hr : Int} (T9 : T ≤ 9) (P1 : 0 ≤ P) (P5 : P ≤ 5) (hP : g 127 10 = P) (s9 : sm 9 = -1) (hs : SOK sm T g) (hh : HOK T P g) (p0 : 0 ≤ p) (p1 : p < P) (r0 : 0 ≤ hr) (r5 : hr < 5) (hn1 : ¬ g 133 (5 * p + hr) = -1) : f_X6_wasDone FU La_167 126 p hr g = some (if 0 < wdn sm (ha g hr) P p (g 133 (5 * p + hr)) then 1 else 0) := by
  unfold f_X6_wasDone
  obtain ⟨a1, a2⟩ := hh p hr p0 p1 r0 r5
  obtain ⟨s1, s2⟩ := hs (g 133 (5 * p + hr)) (by omega) a2
  by_cases c0 : 0 < hr
  · have key := loop_seq (step := s_X6_wasDone_1 FU La_167 126 p hr g) (fun j => ((if 0 < sumI j (wd1 sm (ha g hr) p (g 133 (5 * p + hr))) then (1 : Int) else 0), (j : Int))) P.toNat (e := ((if 0 < wdn sm (ha g hr) P p (g 133 (5 * p + hr)) then (1 : Int) else 0), (P.toNat : Int))) (fun j hj => by
      have b0 : 0 ≤ sumI j (wd1 sm (ha g hr) p (g 133 (5 * p + hr))) := sumI_nn (fun i _ _ => (wd1_01 ..).1)
      have b1 := wd1_01 sm (ha g hr) p (g 133 (5 * p + hr)) j
      obtain ⟨d1, d2⟩ := hh j (hr - 1) (by omega) (by omega) (by omega) (by omega)
      unfold s_X6_wasDone_1
      simp only [lb_tg_126_7]
      rw [ev_people, Option.bind_some, hP, if_pos ⟨by omega, c0⟩, sumI_succ, wid (z := (j : Int) + 1) (by omega) (by omega), wid (z := hr - 1) (by omega) (by omega)]
      by_cases e : (j : Int) = p
      · have w0 : wd1 sm (ha g hr) p (g 133 (5 * p + hr)) j = 0 := by unfold wd1; rw [if_neg (by simp [e])]
        rw [if_pos e, Option.bind_some, if_neg (show ¬ ¬ (-1 : Int) = -1 by decide), w0, Int.add_zero]
        by_cases z : 0 < sumI j (wd1 sm (ha g hr) p (g 133 (5 * p + hr)))
        · simp only [if_pos z]; rfl
        · simp only [if_neg z]; rfl
      · rw [if_neg e, ev_doing (by omega) (by omega) (by omega) (by omega), Option.bind_some, Option.bind_some, ev_doing p0 (by omega) r0 r5]
        simp only [Option.bind_some]
        have hae : ha g hr j = en (g 133 (5 * j + (hr - 1))) := by unfold ha; rw [if_pos c0]; rfl
        by_cases e2 : g 133 (5 * j + (hr - 1)) = -1
        · have w0 : wd1 sm (ha g hr) p (g 133 (5 * p + hr)) j = 0 := by
            unfold wd1
            rw [hae, if_neg (fun z => by
              have z1 := z.2
              unfold en at z1
              rw [if_pos e2, s9] at z1
              omega)]
          rw [if_neg (not_not_intro e2), w0, Int.add_zero]
          by_cases z : 0 < sumI j (wd1 sm (ha g hr) p (g 133 (5 * p + hr)))
          · simp only [if_pos z]; rfl
          · simp only [if_neg z]; rfl
        · obtain ⟨s3, s4⟩ := hs (g 133 (5 * j + (hr - 1))) (by omega) d2
          rw [if_pos e2, rd132 (by omega) (by omega), Option.bind_some, rd132 (by omega) (by omega), Option.bind_some, s1, s3]
          rw [en_i e2] at hae
          by_cases e3 : sm (g 133 (5 * j + (hr - 1))) = sm (g 133 (5 * p + hr))
          · have w1 : wd1 sm (ha g hr) p (g 133 (5 * p + hr)) j = 1 := by unfold wd1; rw [hae, if_pos ⟨e, e3⟩]
            rw [if_pos e3, w1, if_pos (show 0 < sumI j (wd1 sm (ha g hr) p (g 133 (5 * p + hr))) + 1 by omega)]
            by_cases z : 0 < sumI j (wd1 sm (ha g hr) p (g 133 (5 * p + hr)))
            · simp only [if_pos z]; rfl
            · simp only [if_neg z]; rfl
          · have w0 : wd1 sm (ha g hr) p (g 133 (5 * p + hr)) j = 0 := by unfold wd1; rw [hae, if_neg (fun z => e3 z.2)]
            rw [if_neg e3, w0, Int.add_zero]
            by_cases z : 0 < sumI j (wd1 sm (ha g hr) p (g 133 (5 * p + hr)))
            · simp only [if_pos z]; rfl
            · simp only [if_neg z]; rfl) (by
      unfold s_X6_wasDone_1
      simp only
      rw [ev_people, Option.bind_some, hP, if_neg (by omega)]; rfl) (Fu := FU) (FU_gt (by omega))
    have key2 : fx_loop (s_X6_wasDone_1 FU La_167 126 p hr g) FU (0, 0) = _ := key
    rw [key2, Option.bind_some]
    simp only
    rw [zb_ite]; rfl
  · have w0 : wdn sm (ha g hr) P p (g 133 (5 * p + hr)) = 0 := sum_zero (fun q _ _ => by
      unfold wd1 ha
      rw [if_neg (fun z => by
        have z1 := z.2
        rw [if_neg c0, s9] at z1
        omega)])
    rw [w0, if_neg (by decide)]
    have : fx_loop (s_X6_wasDone_1 FU La_167 126 p hr g) FU (0, 0) = some (0, 0) := by
      refine loop_seq (fun _ => ((0 : Int), (0 : Int))) 0 (fun j hj => by omega) ?_ (FU_gt (by omega))
      unfold s_X6_wasDone_1
      simp only
      rw [ev_people, Option.bind_some, if_neg (fun z => c0 z.2)]
    rw [this]; rfl
