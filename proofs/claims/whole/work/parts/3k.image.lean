-- needs: 3a 3b 3c 3d 3e 3f 3h 3j
/-- the places of a town -/
def VP (o i : Int) : Prop := (o = 0 ∧ 0 ≤ i ∧ i ≤ 5) ∨ (o = 1 ∧ 0 ≤ i ∧ i < 9) ∨ (o = 2 ∧ 0 ≤ i ∧ i < 5) ∨ (4 ≤ o ∧ o ≤ 8 ∧ 0 ≤ i ∧ i < 5) ∨ (10 ≤ o ∧ o ≤ 14 ∧ 0 ≤ i ∧ i < 9) ∨ (o = 15 ∧ 0 ≤ i ∧ i < 5) ∨ (16 ≤ o ∧ o ≤ 18 ∧ 0 ≤ i ∧ i < 10)
theorem TV_move {c d : Int} {h h' : fx_H} (e : ∀ o i : Int, VP o i → h' (c + o) i = h (d + o) i) (hv : TV d h) : TV c h' := by
  have e0 : ∀ i : Int, 0 ≤ i → i ≤ 5 → h' c i = h d i := fun i a b => by have := e 0 i (Or.inl ⟨rfl, a, b⟩); simpa using this
  unfold TV at hv ⊢
  obtain ⟨h1, h2, h3, h4, h5, h6, h7, h8, h9, h10, h11, h12, h13⟩ := hv
  rw [e0 0 (by omega) (by omega), e0 1 (by omega) (by omega), e0 2 (by omega) (by omega), e0 3 (by omega) (by omega), e0 4 (by omega) (by omega), e0 5 (by omega) (by omega)]
  refine ⟨h1, h2, h3, h4, h5, h6, fun t a b => ?_, fun q a b => ?_, fun q p a b a' b' => ?_, fun p t a b a' b' => ?_, fun p a b => ?_, fun p a b => ?_, fun k a b => ?_⟩
  · rw [e 1 t (by unfold VP; omega)]; exact h7 t a b
  · rw [e 2 q (by unfold VP; omega)]; exact h8 q a b
  · rw [show c + 4 + q = c + (4 + q) by omega, e (4 + q) p (by unfold VP; omega), show d + (4 + q) = d + 4 + q by omega]; exact h9 q p a b a' b'
  · rw [show c + 10 + p = c + (10 + p) by omega, e (10 + p) t (by unfold VP; omega), show d + (10 + p) = d + 10 + p by omega]; exact h10 p t a b a' b'
  · rw [sumI_congr (g := fun t => h (d + 10 + p) t) (fun t a' b' => by rw [show c + 10 + p = c + (10 + p) by omega, e (10 + p) t (by unfold VP; omega), show d + (10 + p) = d + 10 + p by omega])]; exact h11 p a b
  · rw [e 15 p (by unfold VP; omega)]; exact h12 p a b
  · rw [e 16 k (by unfold VP; omega), e 17 k (by unfold VP; omega), e 18 k (by unfold VP; omega)]; exact h13 k a b
theorem TR_move {c d a a' o o' : Int} {h h' : fx_H} (e : ∀ o i : Int, VP o i → h' (c + o) i = h (d + o) i) (e2 : ∀ i : Int, 0 ≤ i → i < 125 → h' a (o + i) = h a' (o' + i)) (hb : h d 0 ≤ 9 ∧ h d 5 ≤ 10) (hr : TR d a' o' h) : TR c a o h' := by
  have e0 : ∀ i : Int, 0 ≤ i → i ≤ 5 → h' c i = h d i := fun i a b => by have := e 0 i (Or.inl ⟨rfl, a, b⟩); simpa using this
  unfold TR at hr ⊢
  obtain ⟨h1, h2, h3, h4, h5, h6, h7, h8, h9, h10, h11, h12⟩ := hr
  rw [e0 0 (by omega) (by omega), e0 1 (by omega) (by omega), e0 2 (by omega) (by omega), e0 3 (by omega) (by omega), e0 4 (by omega) (by omega), e0 5 (by omega) (by omega)]
  refine ⟨?_, ?_, ?_, ?_, ?_, ?_, fun t b b' => ?_, fun q b b' => ?_, fun q p b b' b2 b3 => ?_, fun p t b b' b2 b3 => ?_, fun p b b' => ?_, fun k b b' => ?_⟩
  · have := e2 0 (by omega) (by omega); simp only [Int.add_zero] at this; rw [this]; exact h1
  · rw [e2 12 (by omega) (by omega)]; exact h2
  · rw [e2 10 (by omega) (by omega)]; exact h3
  · rw [e2 11 (by omega) (by omega)]; exact h4
  · rw [e2 13 (by omega) (by omega)]; exact h5
  · rw [e2 94 (by omega) (by omega)]; exact h6
  · rw [show o + 1 + t = o + (1 + t) by omega, e2 _ (by omega) (by omega), show o' + (1 + t) = o' + 1 + t by omega, e 1 t (by unfold VP; omega)]; exact h7 t b b'
  · rw [show o + 14 + q = o + (14 + q) by omega, e2 _ (by omega) (by omega), show o' + (14 + q) = o' + 14 + q by omega, e 2 q (by unfold VP; omega)]; exact h8 q b b'
  · rw [show o + 19 + 5 * p + q = o + (19 + 5 * p + q) by omega, e2 _ (by omega) (by omega), show o' + (19 + 5 * p + q) = o' + 19 + 5 * p + q by omega, show c + 4 + q = c + (4 + q) by omega, e (4 + q) p (by unfold VP; omega), show d + (4 + q) = d + 4 + q by omega]; exact h9 q p b b' b2 b3
  · rw [show o + 44 + 9 * p + t = o + (44 + 9 * p + t) by omega, e2 _ (by omega) (by omega), show o' + (44 + 9 * p + t) = o' + 44 + 9 * p + t by omega, show c + 10 + p = c + (10 + p) by omega, e (10 + p) t (by unfold VP; omega), show d + (10 + p) = d + 10 + p by omega]; exact h10 p t b b' b2 b3
  · rw [show o + 89 + p = o + (89 + p) by omega, e2 _ (by omega) (by omega), show o' + (89 + p) = o' + 89 + p by omega, e 15 p (by unfold VP; omega)]; exact h11 p b b'
  · rw [show o + 95 + 3 * k = o + (95 + 3 * k) by omega, e2 _ (by omega) (by omega), show o' + (95 + 3 * k) = o' + 95 + 3 * k by omega, show o + (95 + 3 * k) + 1 = o + (95 + 3 * k + 1) by omega, e2 _ (by omega) (by omega), show o' + (95 + 3 * k + 1) = o' + 95 + 3 * k + 1 by omega, show o + (95 + 3 * k) + 2 = o + (95 + 3 * k + 2) by omega, e2 _ (by omega) (by omega), show o' + (95 + 3 * k + 2) = o' + 95 + 3 * k + 2 by omega, e 16 k (by unfold VP; omega), e 17 k (by unfold VP; omega), e 18 k (by unfold VP; omega)]; exact h12 k b b'
theorem takeOver_ok {c d : Int} {h : fx_H} (hc : TC c) (hd : TC d) (hcd : d + 19 ≤ c ∨ c + 19 ≤ d) : Ret (f_X4_takeOver FU La_167 c d h) (fun h' => (∀ a i : Int, ¬ (c ≤ a ∧ a ≤ c + 18) → h' a i = h a i) ∧ ∀ o i : Int, VP o i → h' (c + o) i = h (d + o) i) := by
  unfold f_X4_takeOver
  simp (disch := omega) only [up_ne, tc_tg_6 hc, tc_tg_6 hd, tc_tg_7 hc, tc_tg_7 hd, tc_tg_10 hc, tc_tg_10 hd, tc_tg_11 hc, tc_tg_11 hd, tc_tg_12 hc, tc_tg_12 hd, tc_tg_13 hc, tc_tg_13 hd]
  rw [cp_ok (by omega) (by omega) (by omega) (by rw [tc_ln_1 hd]; omega) (by rw [tc_ln_1 hc]; omega), Option.bind_some,
    cp_ok (by omega) (by omega) (by omega) (by rw [tc_ln_2 hd]; omega) (by rw [tc_ln_2 hc]; omega), Option.bind_some,
    cp_ok (by omega) (by omega) (by omega) (by rw [tc_ln_15 hd]; omega) (by rw [tc_ln_15 hc]; omega), Option.bind_some,
    cp_ok (by omega) (by omega) (by omega) (by rw [tc_ln_16 hd]; omega) (by rw [tc_ln_16 hc]; omega), Option.bind_some,
    cp_ok (by omega) (by omega) (by omega) (by rw [tc_ln_17 hd]; omega) (by rw [tc_ln_17 hc]; omega), Option.bind_some,
    cp_ok (by omega) (by omega) (by omega) (by rw [tc_ln_18 hd]; omega) (by rw [tc_ln_18 hc]; omega), Option.bind_some]
  generalize hg : fx_cpy (fx_cpy (fx_cpy (fx_cpy (fx_cpy (fx_cpy (fx_up (fx_up (fx_up (fx_up (fx_up (fx_up h c 0 (h d 0)) c 1 (h d 1)) c 2 (h d 2)) c 3 (h d 3)) c 4 (h d 4)) c 5 (h d 5)) (d + 1) 0 (c + 1) 0 9) (d + 2) 0 (c + 2) 0 5) (d + 15) 0 (c + 15) 0 5) (d + 16) 0 (c + 16) 0 10) (d + 17) 0 (c + 17) 0 10) (d + 18) 0 (c + 18) 0 10 = g
  have G1 : ∀ a i : Int, ¬ (c ≤ a ∧ a ≤ c + 18) → g a i = h a i := fun a i b => by
    subst hg
    rw [cpy_out (by omega), cpy_out (by omega), cpy_out (by omega), cpy_out (by omega), cpy_out (by omega), cpy_out (by omega)]; simp (disch := omega) only [up_ne, up_eq]
  have G2 : ∀ o i : Int, VP o i → o ≤ 3 ∨ 15 ≤ o → g (c + o) i = h (d + o) i := fun o i v b => by
    subst hg
    unfold VP at v
    rcases v with v | v | v | v | v | v | v
    · obtain ⟨rfl, v1, v2⟩ := v
      rw [cpy_out (by omega), cpy_out (by omega), cpy_out (by omega), cpy_out (by omega), cpy_out (by omega), cpy_out (by omega)]
      simp only [Int.add_zero]
      rcases (show i = 0 ∨ i = 1 ∨ i = 2 ∨ i = 3 ∨ i = 4 ∨ i = 5 by omega) with rfl | rfl | rfl | rfl | rfl | rfl <;> simp (disch := omega) only [up_ne, up_eq]
    · obtain ⟨rfl, v1, v2⟩ := v
      rw [cpy_out (by omega), cpy_out (by omega), cpy_out (by omega), cpy_out (by omega), cpy_out (by omega), cpy_in rfl (by omega) (by omega)]
      simp (disch := omega) only [up_ne, up_eq]; simp
    · obtain ⟨rfl, v1, v2⟩ := v
      rw [cpy_out (by omega), cpy_out (by omega), cpy_out (by omega), cpy_out (by omega), cpy_in rfl (by omega) (by omega), cpy_out (by omega)]
      simp (disch := omega) only [up_ne, up_eq]; simp
    · omega
    · omega
    · obtain ⟨rfl, v1, v2⟩ := v
      rw [cpy_out (by omega), cpy_out (by omega), cpy_out (by omega), cpy_in rfl (by omega) (by omega), cpy_out (by omega), cpy_out (by omega)]
      simp (disch := omega) only [up_ne, up_eq]; simp
    · rcases (show o = 16 ∨ o = 17 ∨ o = 18 by omega) with rfl | rfl | rfl
      · rw [cpy_out (by omega), cpy_out (by omega), cpy_in rfl (by omega) (by omega), cpy_out (by omega), cpy_out (by omega), cpy_out (by omega)]
        simp (disch := omega) only [up_ne, up_eq]; simp
      · rw [cpy_out (by omega), cpy_in rfl (by omega) (by omega), cpy_out (by omega), cpy_out (by omega), cpy_out (by omega), cpy_out (by omega)]
        simp (disch := omega) only [up_ne, up_eq]; simp
      · rw [cpy_in rfl (by omega) (by omega), cpy_out (by omega), cpy_out (by omega), cpy_out (by omega), cpy_out (by omega), cpy_out (by omega)]
        simp (disch := omega) only [up_ne, up_eq]; simp
  clear hg
  refine Ret.bind (Ret.mono (loop_for (fun j s => (∀ a i : Int, ¬ (c + 4 ≤ a ∧ a < c + 4 + j) → s a i = g a i) ∧ (∀ q p : Int, 0 ≤ q → q < j → 0 ≤ p → p < 5 → s (c + 4 + q) p = h (d + 4 + q) p)) 5 (FU_gt (by omega)) (by omega) ⟨fun _ _ _ => rfl, fun q p _ _ => by omega⟩ (fun j s b1 b2 ⟨i1, i2⟩ => ?_) (fun s _ => ?_)) (fun r hr => ?_))
  · refine ⟨fx_cpy s (d + 4 + j) 0 (c + 4 + j) 0 5, ?_, fun a i b => ?_, fun q p b3 b4 b5 b6 => ?_⟩
    · unfold s_X4_takeOver_1
      simp only
      rw [if_pos b2, tc_tg_8 hd, rr_ok b1 (by rw [tc_ln_3 hd]; exact b2), Option.bind_some, tc_tg_8 hc, rr_ok b1 (by rw [tc_ln_3 hc]; exact b2), Option.bind_some, tc_doing hc b1 b2, tc_doing hd b1 b2, cp_ok (by omega) (by omega) (by omega) (by rw [tc_lnD hd b1 b2]; omega) (by rw [tc_lnD hc b1 b2]; omega), Option.bind_some, wid (by omega) (by omega)]
    · rw [cpy_out (by omega)]; exact i1 a i (by omega)
    · by_cases e : q = j
      · subst e
        rw [cpy_in rfl (by omega) (by omega), i1 _ _ (by omega), G1 _ _ (by omega)]; simp
      · rw [cpy_out (by omega)]; exact i2 q p b3 (by omega) b5 b6
  · unfold s_X4_takeOver_1
    simp only
    rw [if_neg (by omega)]
  · obtain ⟨r1, g1⟩ := r
    obtain ⟨-, j1, j2⟩ := hr
    simp only at j1 j2 ⊢
    refine Ret.bind (Ret.mono (loop_for (fun j s => (∀ a i : Int, ¬ (c + 10 ≤ a ∧ a < c + 10 + j) → s a i = g1 a i) ∧ (∀ p t : Int, 0 ≤ p → p < j → 0 ≤ t → t < 9 → s (c + 10 + p) t = h (d + 10 + p) t)) 5 (FU_gt (by omega)) (by omega) ⟨fun _ _ _ => rfl, fun q p _ _ => by omega⟩ (fun j s b1 b2 ⟨i1, i2⟩ => ?_) (fun s _ => ?_)) (fun r hr => ?_))
    · refine ⟨fx_cpy s (d + 10 + j) 0 (c + 10 + j) 0 9, ?_, fun a i b => ?_, fun q p b3 b4 b5 b6 => ?_⟩
      · unfold s_X4_takeOver_2
        simp only
        rw [if_pos b2, tc_tg_9 hd, rr_ok b1 (by rw [tc_ln_9 hd]; exact b2), Option.bind_some, tc_tg_9 hc, rr_ok b1 (by rw [tc_ln_9 hc]; exact b2), Option.bind_some, tc_needs hc b1 b2, tc_needs hd b1 b2, cp_ok (by omega) (by omega) (by omega) (by rw [tc_lnN hd b1 b2]; omega) (by rw [tc_lnN hc b1 b2]; omega), Option.bind_some, wid (by omega) (by omega)]
      · rw [cpy_out (by omega)]; exact i1 a i (by omega)
      · by_cases e : q = j
        · subst e
          rw [cpy_in rfl (by omega) (by omega), i1 _ _ (by omega), j1 _ _ (by omega), G1 _ _ (by omega)]; simp
        · rw [cpy_out (by omega)]; exact i2 q p b3 (by omega) b5 b6
    · unfold s_X4_takeOver_2
      simp only
      rw [if_neg (by omega)]
    · obtain ⟨r2, g2⟩ := r
      obtain ⟨-, j3, j4⟩ := hr
      simp only at j3 j4 ⊢
      refine Ret.ok ⟨fun a i b => ?_, fun o i v => ?_⟩
      · rw [j3 a i (by omega), j1 a i (by omega), G1 a i b]
      · by_cases b1 : 4 ≤ o ∧ o ≤ 8
        · have v' : 0 ≤ i ∧ i < 5 := by unfold VP at v; omega
          rw [j3 _ _ (by omega), show c + o = c + 4 + (o - 4) by omega, j2 (o - 4) i (by omega) (by omega) v'.1 v'.2]
          congr 1; omega
        · by_cases b2 : 10 ≤ o ∧ o ≤ 14
          · have v' : 0 ≤ i ∧ i < 9 := by unfold VP at v; omega
            rw [show c + o = c + 10 + (o - 10) by omega, j4 (o - 10) i (by omega) (by omega) v'.1 v'.2]
            congr 1; omega
          · rw [j3 _ _ (by unfold VP at v; omega), j1 _ _ (by unfold VP at v; omega)]
            exact G2 o i v (by unfold VP at v; omega)
section SIM
variable {CL CP : fx_H → Prop} {k : Int} {h : fx_H}
theorem sim_image (hL : FrC CL) (hP : FrC CP) (R : Rel CL CP k h) (hk : k ≤ 1000) (i : Int) : Sm CL CP k (f_X5_image FU La_167 0 i h) (f_X6_image FU La_167 126 i) := by
  by_cases c : 0 ≤ i ∧ i ≤ 1
  · have hci : TC (88 + 19 * i) := by
      rcases (show i = 0 ∨ i = 1 by omega) with rfl | rfl
      · exact TC_88
      · exact TC_107
    obtain ⟨RV, RR, R3, R4, R5, R6, R7⟩ := id R
    obtain ⟨h1, e1, p1, p2⟩ := takeOver_ok (h := h) hci TC_1 (by omega)
    have hx : f_X5_image FU La_167 0 i h = some (1, fx_up h1 40 i 1) := by
      unfold f_X5_image
      rw [ev_within, Option.bind_some, if_pos c, if_neg (by decide), lb_tg_0_2, rr_ok c.1 (by rw [lb_ln_39]; omega), Option.bind_some, lb_im i c.1 (by omega), lb_tg_0_0, e1, Option.bind_some, lb_tg_0_3, wr_ok c.1 (by rw [lb_ln_40]; omega), Option.bind_some]
    obtain ⟨⟨z, h2⟩, e2, -, q1, q2⟩ := loop_for (step := s_X6_image_1 FU La_167 126 i) (Fu := FU) (fun j s => (∀ a b : Int, a ≠ 128 ∨ ¬ (125 * i ≤ b ∧ b < 125 * i + j) → s a b = fx_up h1 40 i 1 a b) ∧ (∀ b : Int, 0 ≤ b → b < j → s 128 (125 * i + b) = fx_up h1 40 i 1 127 b)) 125 (i := 0) (s := fx_up h1 40 i 1) (FU_gt (by omega)) (by omega) ⟨fun _ _ _ => rfl, fun b _ _ => by omega⟩ (fun j s b1 b2 ⟨i1, i2⟩ => by
      refine ⟨fx_up s 128 (125 * i + j) (fx_up h1 40 i 1 127 j), ?_, fun a b b3 => ?_, fun b b3 b4 => ?_⟩
      · unfold s_X6_image_1
        simp only [lb_tg_126_0, lb_tg_126_1]
        rw [if_pos b2, rd127 b1 b2, Option.bind_some, wid (z := 125 * i) (by omega) (by omega), wid (z := 125 * i + j) (by omega) (by omega), wr_ok (by omega) (by rw [lb_ln_128]; omega), Option.bind_some, wid (by omega) (by omega), i1 127 j (by omega)]
      · rw [up_ne (by omega)]; exact i1 a b (by omega)
      · by_cases e : b = j
        · subst e; rw [up_eq rfl rfl]
        · rw [up_ne (by omega)]; exact i2 b b3 (by omega)) (fun s _ => by
      unfold s_X6_image_1
      simp only
      rw [if_neg (by omega)])
    simp only at q1 q2
    have hy : f_X6_image FU La_167 126 i (fx_up h1 40 i 1) = some (1, fx_up h2 129 i 1) := by
      unfold f_X6_image
      rw [ev_in, Option.bind_some, if_pos c, if_neg (by decide), e2, Option.bind_some]
      simp only
      rw [lb_tg_126_2, wr_ok c.1 (by rw [lb_ln_129]; omega), Option.bind_some]
    have F : ∀ a b : Int, ¬ (88 + 19 * i ≤ a ∧ a ≤ 88 + 19 * i + 18) → ¬ (a = 40 ∧ b = i) → ¬ (a = 129 ∧ b = i) → (a ≠ 128 ∨ ¬ (125 * i ≤ b ∧ b < 125 * i + 125)) → fx_up h2 129 i 1 a b = h a b := fun a b c1 c2 c3 c4 => by
      rw [up_ne (by omega), q1 a b (by omega), up_ne (by omega), p1 a b c1]
    refine Ret.eq hx (Ret.eq hy ⟨rfl, ?_⟩)
    show Rel CL CP (k + 1) (fx_up h2 129 i 1)
    generalize hH : fx_up h2 129 i 1 = H at F
    have hb := RV
    unfold TV at hb
    refine ⟨TV_congr (fun a b c1 c2 => F a b (by omega) (by omega) (by omega) (by omega)) RV, TR_congr (fun a b c1 c2 => F a b (by omega) (by omega) (by omega) (by omega)) (fun b c1 c2 => F 127 b (by omega) (by omega) (by omega) (by omega)) ⟨hb.1.2, hb.2.2.2.2.2.1.2⟩ RR, ?_, ?_, RT_congr (fun a b q => F a b (by omega) (by omega) (by omega) (by omega)) (F _ _ (by omega) (by omega) (by omega) (by omega)) R5, RS_congr (fun a b q => F a b (by omega) (by omega) (by omega) (by omega)) R6, ?_⟩
    · intro j j0 j1
      by_cases e : j = i
      · subst e
        have w1 : H 129 j = 1 := by rw [← hH]; simp (disch := omega) only [up_ne, up_eq]
        have w2 : H 40 j = 1 := by rw [← hH, up_ne (by omega), q1 _ _ (by omega)]; simp (disch := omega) only [up_ne, up_eq]
        have w3 : ∀ o b : Int, VP o b → H (88 + 19 * j + o) b = h (1 + o) b := fun o b v => by
          have v' : 0 ≤ o ∧ o ≤ 18 := by unfold VP at v; omega
          rw [← hH, up_ne (by omega), q1 _ _ (by omega), up_ne (by omega)]; exact p2 o b v
        have w4 : ∀ b : Int, 0 ≤ b → b < 125 → H 128 (125 * j + b) = h 127 (0 + b) := fun b c1 c2 => by
          rw [← hH, up_ne (by omega)]
          refine (q2 b c1 c2).trans ?_
          rw [up_ne (by omega), p1 _ _ (by omega), Int.zero_add]
        rw [w1, w2]
        exact ⟨rfl, Or.inr rfl, fun _ => ⟨TV_move w3 RV, TR_move w3 w4 ⟨hb.1.2, hb.2.2.2.2.2.1.2⟩ RR⟩⟩
      · obtain ⟨x1, x2, x3⟩ := R3 j j0 j1
        rw [F 129 j (by omega) (by omega) (by omega) (by omega), F 40 j (by omega) (by omega) (by omega) (by omega)]
        refine ⟨x1, x2, fun q => ?_⟩
        obtain ⟨x4, x5⟩ := x3 q
        have hb' := x4
        unfold TV at hb'
        exact ⟨TV_congr (fun a b c1 c2 => F a b (by omega) (by omega) (by omega) (by omega)) x4, TR_congr (fun a b c1 c2 => F a b (by omega) (by omega) (by omega) (by omega)) (fun b c1 c2 => F 128 b (by omega) (by omega) (by omega) (by omega)) ⟨hb'.1.2, hb'.2.2.2.2.2.1.2⟩ x5⟩
    · unfold RN
      simp (disch := omega) only [F]
      exact R4
    · obtain ⟨⟨r7, r8⟩, ⟨r9, r10⟩, r11, r12⟩ := R7
      unfold RC
      rw [F 0 13 (by omega) (by omega) (by omega) (by omega), F 48 5 (by omega) (by omega) (by omega) (by omega), F 84 4 (by omega) (by omega) (by omega) (by omega)]
      exact ⟨⟨r7, by omega⟩, ⟨r9, fun q => hL h H (fun a b q => F a b (by omega) (by omega) (by omega) (by omega)) (r10 q)⟩, ⟨r11, fun q => hP h H (fun a b q => F a b (by omega) (by omega) (by omega) (by omega)) (r12 q)⟩⟩
  · refine sm_bad hL hP R (z := -2) ?_ (fun g hg => ?_)
    · unfold f_X5_image
      rw [ev_within, Option.bind_some, if_neg c, if_pos rfl]; rfl
    · unfold f_X6_image
      rw [ev_in, Option.bind_some, if_neg c, if_pos rfl, ev_bad]; rfl
theorem sim_from (hL : FrC CL) (hP : FrC CP) (R : Rel CL CP k h) (hk : k ≤ 1000) (i : Int) : Sm CL CP k (f_X5_from FU La_167 0 i h) (f_X6_from FU La_167 126 i) := by
  by_cases c : 0 ≤ i ∧ i ≤ 1
  · have hci : TC (88 + 19 * i) := by
      rcases (show i = 0 ∨ i = 1 by omega) with rfl | rfl
      · exact TC_88
      · exact TC_107
    obtain ⟨RV, RR, R3, R4, R5, R6, R7⟩ := id R
    obtain ⟨x1, x2, x3⟩ := R3 i c.1 (by omega)
    obtain ⟨⟨k1, k2⟩, -⟩ := id R7
    rcases x2 with x2 | x2
    · refine sm_no hL hP R ?_ (fun g hg => ?_)
      · unfold f_X5_from
        rw [ev_within, Option.bind_some, if_pos c, if_neg (by decide), lb_tg_0_3, rd_ok c.1 (by rw [lb_ln_40]; omega), Option.bind_some, x2, if_pos rfl]; rfl
      · unfold f_X6_from
        rw [ev_in, Option.bind_some, if_pos c, if_neg (by decide), lb_tg_126_2, rd_ok c.1 (by rw [lb_ln_129]; omega), Option.bind_some, hg _ _ (by omega), x1, x2, if_pos rfl, ev_no]; rfl
    · obtain ⟨x4, x5⟩ := x3 x2
      obtain ⟨h1, e1, p1, p2⟩ := takeOver_ok (h := fx_up h 0 13 (h 0 13 + 1)) TC_1 hci (by omega)
      have hx : f_X5_from FU La_167 0 i h = some (1, h1) := by
        unfold f_X5_from
        rw [ev_within, Option.bind_some, if_pos c, if_neg (by decide), lb_tg_0_3, rd_ok c.1 (by rw [lb_ln_40]; omega), Option.bind_some, x2, if_neg (by decide), lb_tg_0_2, rr_ok c.1 (by rw [lb_ln_39]; omega), Option.bind_some, lb_im i c.1 (by omega), lb_tg_0_0, wid (by omega) (by omega), e1, Option.bind_some]
      obtain ⟨⟨z, h2⟩, e2, -, q1, q2⟩ := loop_for (step := s_X6_from_1 FU La_167 126 i) (Fu := FU) (fun j s => (∀ a b : Int, a ≠ 127 ∨ ¬ (0 ≤ b ∧ b < j) → s a b = h1 a b) ∧ (∀ b : Int, 0 ≤ b → b < j → s 127 b = h1 128 (125 * i + b))) 125 (i := 0) (s := h1) (FU_gt (by omega)) (by omega) ⟨fun _ _ _ => rfl, fun b _ _ => by omega⟩ (fun j s b1 b2 ⟨i1, i2⟩ => by
        refine ⟨fx_up s 127 j (h1 128 (125 * i + j)), ?_, fun a b b3 => ?_, fun b b3 b4 => ?_⟩
        · unfold s_X6_from_1
          simp only [lb_tg_126_0, lb_tg_126_1]
          rw [if_pos b2, wid (z := 125 * i) (by omega) (by omega), wid (z := 125 * i + j) (by omega) (by omega), rd_ok (by omega) (by rw [lb_ln_128]; omega), Option.bind_some, wr127 b1 b2, Option.bind_some, wid (by omega) (by omega), i1 128 _ (by omega)]
        · rw [up_ne (by omega)]; exact i1 a b (by omega)
        · by_cases e : b = j
          · subst e; rw [up_eq rfl rfl]
          · rw [up_ne (by omega)]; exact i2 b b3 (by omega)) (fun s _ => by
        unfold s_X6_from_1
        simp only
        rw [if_neg (by omega)])
      have hy : f_X6_from FU La_167 126 i h1 = some (1, h2) := by
        unfold f_X6_from
        rw [ev_in, Option.bind_some, if_pos c, if_neg (by decide), lb_tg_126_2, rd_ok c.1 (by rw [lb_ln_129]; omega), Option.bind_some, p1 _ _ (by omega), up_ne (by omega), x1, x2, if_neg (by decide), e2, Option.bind_some]
      simp only at q1 q2
      have hb := x4
      unfold TV at hb
      have w3 : ∀ o b : Int, VP o b → h2 (1 + o) b = h (88 + 19 * i + o) b := fun o b v => by
        have v' : 0 ≤ o ∧ o ≤ 18 := by unfold VP at v; omega
        rw [q1 _ _ (by omega), p2 o b v, up_ne (by omega)]
      have w4 : ∀ b : Int, 0 ≤ b → b < 125 → h2 127 (0 + b) = h 128 (125 * i + b) := fun b c1 c2 => by
        rw [Int.zero_add, q2 b c1 c2, p1 _ _ (by omega), up_ne (by omega)]
      refine sm_town R hx (y' := fun _ => h2) hy (fun a b c1 c2 c3 => ?_) ?_ (TV_move w3 x4) (TR_move w3 w4 ⟨hb.1.2, hb.2.2.2.2.2.1.2⟩ x5)
      · rw [q1 _ _ (by omega), p1 _ _ (by omega)]; simp (disch := omega) only [up_ne, up_eq]
      · rw [q1 _ _ (by omega), p1 _ _ (by omega)]; simp (disch := omega) only [up_ne, up_eq]
  · refine sm_bad hL hP R (z := -2) ?_ (fun g hg => ?_)
    · unfold f_X5_from
      rw [ev_within, Option.bind_some, if_neg c, if_pos rfl]; rfl
    · unfold f_X6_from
      rw [ev_in, Option.bind_some, if_neg c, if_pos rfl, ev_bad]; rfl
end SIM
