-- needs: 3o
/-- the reference's fine -/
theorem ev_paysOf {g : fx_H} {sm : Int → Int} {T P p hr ri k : Int} (T9 : T ≤ 9) (P5 : P ≤ 5) (hP : g 127 10 = P) (hR : g 127 13 = ri) (hK : g 127 (14 + hr) = k) (s9 : sm 9 = -1) (hs : SOK sm T g) (hh : HOK T P g) (p0 : 0 ≤ p) (p1 : p < P) (r0 : 0 ≤ hr) (r5 : hr < 5) (hri : 0 ≤ ri ∧ ri < P) : f_X6_paysOf FU La_167 126 p hr g = some (FI sm k (hn g hr) (ha g hr) P ri p (hn g hr p)) := by
  unfold f_X6_paysOf
  rw [ev_doing p0 (by omega) r0 r5, Option.bind_some]
  simp only [lb_tg_126_0]
  rw [wid (z := 14 + hr) (by omega) (by omega), rd127 (by omega) (by omega), Option.bind_some, hK]
  obtain ⟨a1, a2⟩ := hh p hr p0 p1 r0 r5
  by_cases c : g 133 (5 * p + hr) = -1
  · rw [if_pos (Or.inl c)]
    have : hn g hr p = 9 := by unfold hn en; rw [if_pos c]
    rw [this]
    unfold FI
    rw [if_pos (by omega)]
  · have en1 : hn g hr p = g 133 (5 * p + hr) := en_i c
    obtain ⟨s1, s2⟩ := hs (g 133 (5 * p + hr)) (by omega) a2
    rw [en1]
    by_cases c2 : k = 4 ∧ g 133 (5 * p + hr) = 0
    · rw [if_pos (Or.inr c2)]
      unfold FI
      rw [if_pos (by omega)]
    · rw [if_neg (by omega)]
      have hf : fnd k (g 133 (5 * p + hr)) := by omega
      have key := loop_seq (step := s_X6_paysOf_1 FU La_167 126 p hr k g) (fun j => (sumI j (gr sm k (hn g hr) p (g 133 (5 * p + hr))) + (if p < j then 1 else 0), sumI j (gl sm k (hn g hr) p (g 133 (5 * p + hr))), (if (p = ri ∧ p < j) ∨ (ri < j ∧ gr sm k (hn g hr) p (g 133 (5 * p + hr)) ri = 1) then (1 : Int) else 0), (j : Int))) P.toNat (e := (oth sm k (hn g hr) P p (g 133 (5 * p + hr)) + (if p < (P.toNat : Int) then 1 else 0), les sm k (hn g hr) P p (g 133 (5 * p + hr)), (if (p = ri ∧ p < (P.toNat : Int)) ∨ (ri < (P.toNat : Int) ∧ gr sm k (hn g hr) p (g 133 (5 * p + hr)) ri = 1) then (1 : Int) else 0), (P.toNat : Int))) (fun j hj => by
        have b0 : 0 ≤ sumI j (gr sm k (hn g hr) p (g 133 (5 * p + hr))) := sumI_nn (fun i _ _ => (gr_01 ..).1)
        have b1 := sumI_le (n := j) (fun i _ _ => (gr_01 sm k (hn g hr) p (g 133 (5 * p + hr)) i).2)
        have b2 : 0 ≤ sumI j (gl sm k (hn g hr) p (g 133 (5 * p + hr))) := sumI_nn (fun i _ _ => (gl_01 ..).1)
        have b3 := sumI_le (n := j) (fun i _ _ => (gl_01 sm k (hn g hr) p (g 133 (5 * p + hr)) i).2)
        generalize hG : sumI j (gr sm k (hn g hr) p (g 133 (5 * p + hr))) = G at b0 b1
        generalize hL : sumI j (gl sm k (hn g hr) p (g 133 (5 * p + hr))) = L at b2 b3
        unfold s_X6_paysOf_1
        simp only [lb_tg_126_0]
        rw [ev_people, Option.bind_some, hP, if_pos (by omega), sumI_succ, sumI_succ, hG, hL]
        rw [show (if k = 4 then some (1 : Int) else some 0) = some (if k = 4 then 1 else 0) by split <;> rfl, Option.bind_some, ev_isWith T9 P5 s9 hs hh p0 p1 (by omega) (by omega) r0 r5 c, Option.bind_some, rd127 (by omega) (by omega), Option.bind_some, hR, wid (z := (j : Int) + 1) (by omega) (by omega)]
        by_cases e : (j : Int) = p
        · have q1 : sm (hn g hr j) = sm (g 133 (5 * p + hr)) ∧ fnd k (hn g hr j) := by rw [e, en1]; exact ⟨rfl, hf⟩
          have g0 : gr sm k (hn g hr) p (g 133 (5 * p + hr)) j = 0 := by unfold gr; rw [if_neg (by simp [e])]
          have l0 : gl sm k (hn g hr) p (g 133 (5 * p + hr)) j = 0 := by unfold gl; rw [g0]; split <;> rfl
          rw [if_pos q1, g0, l0]
          rw [if_pos (show ¬ (1 : Int) = 0 by decide), Option.bind_some, if_neg (show ¬ (¬ (1 : Int) = 0 ∧ (j : Int) < p) by omega), Option.bind_some, if_neg (show ¬ p < (j : Int) by omega), if_pos (show p < ((j + 1 : Nat) : Int) by omega)]
          rw [wid (by omega) (by omega), wid (by omega) (by omega)]
          by_cases z : (p = ri ∧ p < (j : Int)) ∨ (ri < (j : Int) ∧ gr sm k (hn g hr) p (g 133 (5 * p + hr)) ri = 1)
          · rw [if_pos z, if_pos (show ¬ (1 : Int) = 0 by decide), Option.bind_some, if_pos rfl, Option.bind_some, if_pos (show (p = ri ∧ p < ((j + 1 : Nat) : Int)) ∨ (ri < ((j + 1 : Nat) : Int) ∧ gr sm k (hn g hr) p (g 133 (5 * p + hr)) ri = 1) by omega)]
            simp
          · rw [if_neg z, if_neg (show ¬ ¬ (0 : Int) = 0 by decide)]
            by_cases z2 : (j : Int) = ri
            · rw [if_pos z2, if_pos (show (p = ri ∧ p < ((j + 1 : Nat) : Int)) ∨ (ri < ((j + 1 : Nat) : Int) ∧ gr sm k (hn g hr) p (g 133 (5 * p + hr)) ri = 1) by omega)]
              simp
            · rw [if_neg z2, if_neg (show ¬ ((p = ri ∧ p < ((j + 1 : Nat) : Int)) ∨ (ri < ((j + 1 : Nat) : Int) ∧ gr sm k (hn g hr) p (g 133 (5 * p + hr)) ri = 1)) by omega)]
              simp
        · have pj : (p < ((j + 1 : Nat) : Int)) = (p < (j : Int)) := propext ⟨fun q => by omega, fun q => by omega⟩
          simp only [pj]
          by_cases q1 : sm (hn g hr j) = sm (g 133 (5 * p + hr)) ∧ fnd k (hn g hr j)
          · have g0 : gr sm k (hn g hr) p (g 133 (5 * p + hr)) j = 1 := by unfold gr; rw [if_pos ⟨e, q1⟩]
            have l0 : gl sm k (hn g hr) p (g 133 (5 * p + hr)) j = if (j : Int) < p then 1 else 0 := by unfold gl; rw [g0]
            rw [if_pos q1, g0, l0]
            have lb : (0 : Int) ≤ (if (j : Int) < p then 1 else 0) ∧ (if (j : Int) < p then (1 : Int) else 0) ≤ 1 := by split <;> omega
            have pb : (0 : Int) ≤ (if p < (j : Int) then 1 else 0) ∧ (if p < (j : Int) then (1 : Int) else 0) ≤ 1 := by split <;> omega
            rw [if_pos (show ¬ (1 : Int) = 0 by decide), Option.bind_some, show (if ¬ (1 : Int) = 0 ∧ (j : Int) < p then some (1 : Int) else some 0) = some (if (j : Int) < p then 1 else 0) by
              by_cases y : (j : Int) < p
              · rw [if_pos ⟨by decide, y⟩, if_pos y]
              · rw [if_neg (fun w => y w.2), if_neg y], Option.bind_some]
            rw [wid (by omega) (by omega), wid (by omega) (by omega)]
            by_cases z : (p = ri ∧ p < (j : Int)) ∨ (ri < (j : Int) ∧ gr sm k (hn g hr) p (g 133 (5 * p + hr)) ri = 1)
            · rw [if_pos z, if_pos (show ¬ (1 : Int) = 0 by decide), Option.bind_some, if_pos rfl, Option.bind_some, if_pos (show (p = ri ∧ p < (j : Int)) ∨ (ri < ((j + 1 : Nat) : Int) ∧ gr sm k (hn g hr) p (g 133 (5 * p + hr)) ri = 1) by omega)]
              rw [show G + (if p < (j : Int) then 1 else 0) + 1 = G + 1 + (if p < (j : Int) then 1 else 0) by omega]; rfl
            · rw [if_neg z, if_neg (show ¬ ¬ (0 : Int) = 0 by decide)]
              by_cases z2 : (j : Int) = ri
              · rw [if_pos z2, if_pos (show (p = ri ∧ p < (j : Int)) ∨ (ri < ((j + 1 : Nat) : Int) ∧ gr sm k (hn g hr) p (g 133 (5 * p + hr)) ri = 1) from Or.inr ⟨by omega, by rw [← z2]; exact g0⟩)]
                rw [show G + (if p < (j : Int) then 1 else 0) + 1 = G + 1 + (if p < (j : Int) then 1 else 0) by omega]; rfl
              · rw [if_neg z2, if_neg (show ¬ ((p = ri ∧ p < (j : Int)) ∨ (ri < ((j + 1 : Nat) : Int) ∧ gr sm k (hn g hr) p (g 133 (5 * p + hr)) ri = 1)) by omega)]
                rw [show G + (if p < (j : Int) then 1 else 0) + 1 = G + 1 + (if p < (j : Int) then 1 else 0) by omega]; rfl
          · have g0 : gr sm k (hn g hr) p (g 133 (5 * p + hr)) j = 0 := by unfold gr; rw [if_neg (fun w => q1 w.2)]
            have l0 : gl sm k (hn g hr) p (g 133 (5 * p + hr)) j = 0 := by unfold gl; rw [g0]; split <;> rfl
            have pb : (0 : Int) ≤ (if p < (j : Int) then 1 else 0) ∧ (if p < (j : Int) then (1 : Int) else 0) ≤ 1 := by split <;> omega
            rw [if_neg q1, g0, l0, if_neg (show ¬ ¬ (0 : Int) = 0 by decide), Option.bind_some, if_neg (show ¬ (¬ (0 : Int) = 0 ∧ (j : Int) < p) by omega), Option.bind_some]
            rw [wid (by omega) (by omega), wid (by omega) (by omega)]
            have zz : ((p = ri ∧ p < (j : Int)) ∨ (ri < ((j + 1 : Nat) : Int) ∧ gr sm k (hn g hr) p (g 133 (5 * p + hr)) ri = 1)) = ((p = ri ∧ p < (j : Int)) ∨ (ri < (j : Int) ∧ gr sm k (hn g hr) p (g 133 (5 * p + hr)) ri = 1)) := by
              by_cases y : ri = j
              · rw [y, g0]; simp
              · exact propext ⟨fun w => by omega, fun w => by omega⟩
            rw [if_neg (show ¬ ¬ (0 : Int) = 0 by decide)]
            simp only [zz]
            by_cases z : (p = ri ∧ p < (j : Int)) ∨ (ri < (j : Int) ∧ gr sm k (hn g hr) p (g 133 (5 * p + hr)) ri = 1)
            · simp only [if_pos z]; simp
            · simp only [if_neg z]; simp) (by
        unfold s_X6_paysOf_1
        simp only
        rw [ev_people, Option.bind_some, hP, if_neg (by omega)]; rfl) (Fu := FU) (FU_gt (by omega))
      have w1 : (if (p = ri ∧ p < (P.toNat : Int)) ∨ (ri < (P.toNat : Int) ∧ gr sm k (hn g hr) p (g 133 (5 * p + hr)) ri = 1) then (1 : Int) else 0) = if p = ri ∨ gr sm k (hn g hr) p (g 133 (5 * p + hr)) ri = 1 then 1 else 0 := by
        exact ite_iff (by omega)
      have w2 : ¬ ri < ((0 : Nat) : Int) := by omega
      have w3 : ¬ p < ((0 : Nat) : Int) := by omega
      rw [w1, if_pos (show p < (P.toNat : Int) by omega)] at key
      simp only [w2, w3, and_false, false_and, or_false, if_false] at key
      have key2 : fx_loop (s_X6_paysOf_1 FU La_167 126 p hr k g) FU (0, 0, 0, 0) = _ := key
      rw [key2, Option.bind_some]
      have o1 := oth_b (sm := sm) (k := k) (nw := hn g hr) (P := P) (p := p) (t := g 133 (5 * p + hr)) (by omega)
      have o2 := les_b (sm := sm) (k := k) (nw := hn g hr) (P := P) (p := p) (t := g 133 (5 * p + hr)) (by omega)
      generalize hO : oth sm k (hn g hr) P p (g 133 (5 * p + hr)) = O at o1
      simp only
      unfold FI
      rw [if_neg (not_not_intro hf), hO, wid (z := O + 1 - 1) (by omega) (by omega), show O + 1 - 1 = O by omega]
      by_cases k1 : k = 1 ∨ k = 4
      · rw [if_pos k1, if_pos k1, wid (by omega) (by omega)]
      · rw [if_neg k1, if_neg k1]
        by_cases k2 : k = 2
        · rw [if_pos k2, if_pos k2, rd127 (by omega) (by omega), Option.bind_some, hR]
          by_cases d : p = ri ∨ gr sm k (hn g hr) p (g 133 (5 * p + hr)) ri = 1
          · rw [if_pos d, if_pos d, if_neg (by decide)]
            by_cases c2 : p = ri
            · have mb : 0 ≤ (O + 1) * O ∧ (O + 1) * O ≤ 6 * 5 := ⟨Int.mul_nonneg (by omega) (by omega), Int.mul_le_mul (by omega) (by omega) (by omega) (by omega)⟩
              rw [if_pos c2, if_pos c2, wid (by omega) (by omega)]; rfl
            · rw [if_neg c2, if_neg c2]; rfl
          · rw [if_neg d, if_neg d, if_pos rfl]; rfl
        · rw [if_neg k2, if_neg k2]
          by_cases k3 : k = 3
          · rw [if_pos k3, if_pos k3]
          · rw [if_neg k3, if_neg k3]
            by_cases k5 : k = 5
            · rw [if_pos k5, if_pos k5, ev_wasDoneR T9 (by omega) P5 hP s9 hs hh p0 p1 r0 r5 c, Option.bind_some]
              by_cases d : 0 < wdn sm (ha g hr) P p (g 133 (5 * p + hr))
              · rw [if_pos d, if_pos d, if_pos (by decide), Option.bind_some, wid (by omega) (by omega)]
              · rw [if_neg d, if_neg d, if_neg (by decide), Option.bind_some, wid (by omega) (by omega), Int.add_zero]
            · rw [if_neg k5, if_neg k5]
/-- sums of fines -/
def PI (sm kd : Int → Int) (D : Int → Int → Int) (A : Int → Int → Int) (P ri p n : Int) : Int := sumI n.toNat (fun hr => FI sm (kd hr) (D hr) (A hr) P ri p (D hr p))
def AI (sm kd : Int → Int) (D : Int → Int → Int) (A : Int → Int → Int) (P ri n : Int) : Int := sumI P.toNat (fun p => PI sm kd D A P ri p n)
theorem PI_b {sm kd : Int → Int} {D A : Int → Int → Int} {P ri p n : Int} (h0 : 0 ≤ p) (h1 : p < P) (h5 : P ≤ 5) (n0 : 0 ≤ n) (n5 : n ≤ 5) : 0 ≤ PI sm kd D A P ri p n ∧ PI sm kd D A P ri p n ≤ 100 := by
  refine ⟨sumI_nn (fun i _ _ => (FI_b h0 h1 h5).1), ?_⟩
  have := sumI_le (n := n.toNat) (f := fun hr => FI sm (kd hr) (D hr) (A hr) P ri p (D hr p)) (c := 20) (fun i _ _ => (FI_b h0 h1 h5).2)
  unfold PI
  omega
theorem AI_b {sm kd : Int → Int} {D A : Int → Int → Int} {P ri n : Int} (h1 : 0 ≤ P) (h5 : P ≤ 5) (n0 : 0 ≤ n) (n5 : n ≤ 5) : 0 ≤ AI sm kd D A P ri n ∧ AI sm kd D A P ri n ≤ 500 := by
  refine ⟨sumI_nn (fun i _ _ => (PI_b (by omega) (by omega) h5 n0 n5).1), ?_⟩
  have := sumI_le (n := P.toNat) (f := fun p => PI sm kd D A P ri p n) (c := 100) (fun i _ _ => (PI_b (by omega) (by omega) h5 n0 n5).2)
  unfold AI
  omega
theorem ev_paysIn {g : fx_H} {sm kd : Int → Int} {T P p n ri : Int} (T9 : T ≤ 9) (P5 : P ≤ 5) (hP : g 127 10 = P) (hR : g 127 13 = ri) (hK : ∀ hr : Int, 0 ≤ hr → hr < n → g 127 (14 + hr) = kd hr) (s9 : sm 9 = -1) (hs : SOK sm T g) (hh : HOK T P g) (p0 : 0 ≤ p) (p1 : p < P) (n0 : 0 ≤ n) (n5 : n ≤ 5) (hri : 0 ≤ ri ∧ ri < P) : f_X6_paysIn FU La_167 126 p n g = some (PI sm kd (hn g) (ha g) P ri p n) := by
  unfold f_X6_paysIn
  rw [sloop (f := fun hr => FI sm (kd hr) (hn g hr) (ha g hr) P ri p (hn g hr p)) n0 (by omega) (fun i _ _ => ⟨(FI_b p0 p1 P5).1, by have := (FI_b (sm := sm) (k := kd i) (nw := hn g i) (ah := ha g i) (ri := ri) (t := hn g i p) p0 p1 P5).2; omega⟩) (fun z i z0 z1 i0 i1 => by
    have := FI_b (sm := sm) (k := kd i) (nw := hn g i) (ah := ha g i) (ri := ri) (t := hn g i p) p0 p1 P5
    unfold s_X6_paysIn_1
    simp only
    rw [if_pos i1, ev_paysOf T9 P5 hP hR (hK i i0 i1) s9 hs hh p0 p1 i0 (by omega) hri, Option.bind_some, wid (by omega) (by omega), wid (by omega) (by omega)]) (fun z => by
    unfold s_X6_paysIn_1
    simp only
    rw [if_neg (by omega)])]
  rfl
theorem ev_allIn {g : fx_H} {sm kd : Int → Int} {T P n ri : Int} (T9 : T ≤ 9) (P5 : P ≤ 5) (hP : g 127 10 = P) (hR : g 127 13 = ri) (hK : ∀ hr : Int, 0 ≤ hr → hr < n → g 127 (14 + hr) = kd hr) (s9 : sm 9 = -1) (hs : SOK sm T g) (hh : HOK T P g) (n0 : 0 ≤ n) (n5 : n ≤ 5) (hri : 0 ≤ ri ∧ ri < P) : f_X6_allIn FU La_167 126 n g = some (AI sm kd (hn g) (ha g) P ri n) := by
  unfold f_X6_allIn
  rw [sloop (f := fun p => PI sm kd (hn g) (ha g) P ri p n) (n := P) (by omega) (by omega) (fun i a b => ⟨(PI_b a b P5 n0 n5).1, by have := (PI_b (sm := sm) (kd := kd) (D := hn g) (A := ha g) (ri := ri) a b P5 n0 n5).2; omega⟩) (fun z i z0 z1 i0 i1 => by
    have := PI_b (sm := sm) (kd := kd) (D := hn g) (A := ha g) (ri := ri) i0 i1 P5 n0 n5
    unfold s_X6_allIn_1
    simp only
    rw [ev_people, Option.bind_some, hP, if_pos i1, ev_paysIn T9 P5 hP hR hK s9 hs hh i0 i1 n0 n5 hri, Option.bind_some, wid (by omega) (by omega), wid (by omega) (by omega)]) (fun z => by
    unfold s_X6_allIn_1
    simp only
    rw [ev_people, Option.bind_some, hP, if_neg (by omega)])]
  rfl
