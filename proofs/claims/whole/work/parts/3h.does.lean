-- needs: 3a 3b 3c 3d 3e 3f
theorem cpy_in {h : fx_H} {s sp d dp n a i : Int} (e : a = d) (h0 : dp ≤ i) (h1 : i < dp + n) : fx_cpy h s sp d dp n a i = h s (sp + (i - dp)) := by unfold fx_cpy; rw [if_pos ⟨e, h0, h1⟩]
theorem cpy_out {h : fx_H} {s sp d dp n a i : Int} (e : a ≠ d ∨ i < dp ∨ dp + n ≤ i) : fx_cpy h s sp d dp n a i = h a i := by
  unfold fx_cpy
  rw [if_neg (fun q => by omega)]
theorem remember_ok {c p q t s : Int} {h : fx_H} (hc : TC c) (h0 : 0 ≤ h c 5) (hs : (s = 0 ∧ h c 5 < 10) ∨ (s = 1 ∧ h c 5 = 10)) : Ret (f_X4_rememberDoing FU La_167 c p q t h) (fun h' => h' c 5 = h c 5 - s + 1 ∧ (∀ a i : Int, ¬ (a = c ∧ i = 5) → ¬ (c + 16 ≤ a ∧ a ≤ c + 18) → h' a i = h a i) ∧ (∀ j : Int, 0 ≤ j → j < h c 5 - s → h' (c + 16) j = h (c + 16) (j + s) ∧ h' (c + 17) j = h (c + 17) (j + s) ∧ h' (c + 18) j = h (c + 18) (j + s)) ∧ h' (c + 16) (h c 5 - s) = p ∧ h' (c + 17) (h c 5 - s) = q ∧ h' (c + 18) (h c 5 - s) = t) := by
  unfold f_X4_rememberDoing f_X4_forgetOldest
  simp only [tc_tg_11 hc, tc_tg_12 hc, tc_tg_13 hc]
  have l16 := tc_ln_16 hc
  have l17 := tc_ln_17 hc
  have l18 := tc_ln_18 hc
  rcases hs with ⟨rfl, h1⟩ | ⟨rfl, h1⟩
  · rw [if_neg (by omega), Option.bind_some, wr_ok (by omega) (by omega), Option.bind_some]
    simp (disch := omega) only [up_ne]
    rw [wr_ok (by omega) (by omega), Option.bind_some]
    simp (disch := omega) only [up_ne]
    rw [wr_ok (by omega) (by omega), Option.bind_some]
    simp (disch := omega) only [up_ne, wid]
    refine Ret.ok ⟨?_, fun a i b1 b2 => ?_, fun j b1 b2 => ?_, ?_, ?_, ?_⟩
    · simp (disch := omega) only [up_ne, up_eq]; omega
    · simp (disch := omega) only [up_ne, up_eq]
    · simp (disch := omega) only [up_ne, up_eq]; simp
    · simp (disch := omega) only [up_ne, up_eq]
    · simp (disch := omega) only [up_ne, up_eq]
    · simp (disch := omega) only [up_ne, up_eq]
  · rw [if_pos (by omega), cp_ok (by omega) (by omega) (by omega) (by omega) (by omega), Option.bind_some, cp_ok (by omega) (by omega) (by omega) (by omega) (by omega), Option.bind_some, cp_ok (by omega) (by omega) (by omega) (by omega) (by omega), Option.bind_some, Option.bind_some, Option.bind_some]
    simp (disch := omega) only [up_eq]
    rw [wr_ok (by omega) (by omega), Option.bind_some]
    simp (disch := omega) only [up_ne, up_eq]
    rw [wr_ok (by omega) (by omega), Option.bind_some]
    simp (disch := omega) only [up_ne, up_eq]
    rw [wr_ok (by omega) (by omega), Option.bind_some]
    simp (disch := omega) only [up_ne, up_eq, wid]
    refine Ret.ok ⟨?_, fun a i b1 b2 => ?_, fun j b1 b2 => ?_, ?_, ?_, ?_⟩
    · simp (disch := omega) only [up_ne, up_eq]; omega
    · simp (disch := omega) only [up_ne, up_eq]
      rw [cpy_out (by omega), cpy_out (by omega), cpy_out (by omega)]
    · simp (disch := omega) only [up_ne, up_eq]
      rw [cpy_out (by omega), cpy_out (by omega), cpy_in rfl (by omega) (by omega), cpy_out (by omega), cpy_in rfl (by omega) (by omega), cpy_out (by omega), cpy_in rfl (by omega) (by omega), cpy_out (by omega), cpy_out (by omega)]
      simp [Int.add_comm]
    · simp (disch := omega) only [up_ne, up_eq]
    · simp (disch := omega) only [up_ne, up_eq]
    · simp (disch := omega) only [up_ne, up_eq]
theorem shift_ok (g : fx_H) : Ret (fx_loop (s_X6_does_1 FU La_167 126) FU (0, g)) (fun r => (∀ b i : Int, b ≠ 127 ∨ ¬ (95 ≤ i ∧ i < 122) → r.2 b i = g b i) ∧ ∀ j : Int, 0 ≤ j → j < 27 → r.2 127 (95 + j) = g 127 (98 + j)) := by
  refine Ret.mono (loop_for (fun j s => (∀ b i : Int, b ≠ 127 ∨ ¬ (95 ≤ i ∧ i < 95 + j) → s b i = g b i) ∧ (∀ q : Int, 0 ≤ q → q < j → s 127 (95 + q) = g 127 (98 + q))) 27 (FU_gt (by omega)) (by omega) ⟨fun _ _ _ => rfl, fun q _ _ => by omega⟩ (fun j s b1 b2 ⟨i1, i2⟩ => ?_) (fun s _ => ?_)) (fun r hr => ?_)
  · refine ⟨fx_up s 127 (95 + j) (g 127 (98 + j)), ?_, fun b i c => ?_, fun q b3 b4 => ?_⟩
    · unfold s_X6_does_1
      simp only [lb_tg_126_0]
      rw [if_pos b2, wid (by omega) (by omega), rd127 (by omega) (by omega), Option.bind_some, wid (by omega) (by omega), wr127 (by omega) (by omega), Option.bind_some, wid (by omega) (by omega), i1 _ _ (by omega)]
    · rw [up_ne (by omega)]; exact i1 b i (by omega)
    · by_cases e : q = j
      · subst e; simp (disch := omega) only [up_ne, up_eq]
      · simp (disch := omega) only [up_ne, up_eq]; exact i2 q b3 (by omega)
  · unfold s_X6_does_1
    simp only
    rw [if_neg (by omega)]
  · exact ⟨fun b i c => hr.2.1 b i (by omega), hr.2.2⟩
theorem mdoes_ok {p q t s : Int} {g : fx_H} (hp : 0 ≤ p ∧ p < g 127 10) (hq : 0 ≤ q ∧ q < g 127 11) (ht : t = -1 ∨ (0 ≤ t ∧ t < g 127 0)) (hn : g 127 10 ≤ 5 ∧ g 127 11 ≤ 5 ∧ g 127 0 ≤ 9 ∧ 0 ≤ g 127 0) (h0 : 0 ≤ g 127 94) (hs : (s = 0 ∧ g 127 94 < 10) ∨ (s = 1 ∧ g 127 94 = 10)) : Ret (f_X6_does FU La_167 126 p q t g) (fun r => r.1 = g 127 (19 + 5 * p + q) ∧ (∀ b i : Int, b ≠ 127 ∨ ¬ (94 ≤ i ∧ i < 125 ∨ i = 19 + 5 * p + q) → r.2 b i = g b i) ∧ r.2 127 94 = g 127 94 - s + 1 ∧ r.2 127 (19 + 5 * p + q) = t ∧ (∀ j : Int, 0 ≤ j → j < g 127 94 - s → r.2 127 (95 + 3 * j) = g 127 (95 + 3 * (j + s)) ∧ r.2 127 (95 + 3 * j + 1) = g 127 (95 + 3 * (j + s) + 1) ∧ r.2 127 (95 + 3 * j + 2) = g 127 (95 + 3 * (j + s) + 2)) ∧ r.2 127 (95 + 3 * (g 127 94 - s)) = p ∧ r.2 127 (95 + 3 * (g 127 94 - s) + 1) = q ∧ r.2 127 (95 + 3 * (g 127 94 - s) + 2) = g 127 (19 + 5 * p + q)) := by
  unfold f_X6_does
  simp (disch := omega) only [ev_isOne, ev_isHour, ev_isThing, Option.bind_some, ite10, lb_tg_126_0]
  have e1 : (if ¬ (0 ≤ p ∧ p < g 127 10) then some true else if ¬ (0 ≤ q ∧ q < g 127 11) then some true else if ¬ t = -1 then (if ¬ (0 ≤ t ∧ t < g 127 0) then some true else some false) else some false) = some false := by
    rcases ht with rfl | ht
    · simp [hp, hq]
    · simp [hp, hq, ht]
  rw [e1, Option.bind_some]
  simp only [Bool.false_eq_true, if_false]
  rw [rd127 (by omega) (by omega), Option.bind_some]
  have room : Ret (if g 127 94 = 10 then (fx_loop (s_X6_does_1 FU La_167 126) FU (0, g)).bind fun x => (fx_wr La_167 x.2 127 94 9).bind fun h46 => some h46 else some g) (fun g1 => (∀ b i : Int, b ≠ 127 ∨ ¬ (94 ≤ i ∧ i < 125) → g1 b i = g b i) ∧ g1 127 94 = g 127 94 - s ∧ ∀ j : Int, 0 ≤ j → j < 3 * (g 127 94 - s) → g1 127 (95 + j) = g 127 (95 + j + 3 * s)) := by
    rcases hs with ⟨rfl, h1⟩ | ⟨rfl, h1⟩
    · rw [if_neg (by omega)]
      exact Ret.ok ⟨fun _ _ _ => rfl, by omega, fun j _ _ => by simp⟩
    · rw [if_pos h1]
      refine Ret.bind (Ret.mono (shift_ok g) (fun r hr => ?_))
      rw [wr127 (by omega) (by omega), Option.bind_some]
      refine Ret.ok ⟨fun b i c => ?_, ?_, fun j b1 b2 => ?_⟩
      · simp (disch := omega) only [up_ne, up_eq]; exact hr.1 b i (by omega)
      · simp (disch := omega) only [up_ne, up_eq]; omega
      · simp (disch := omega) only [up_ne, up_eq]
        rw [hr.2 j b1 (by omega)]
        congr 1
        omega
  refine Ret.bind (Ret.mono room (fun g1 hg => ?_))
  obtain ⟨i1, i2, i3⟩ := hg
  simp (disch := omega) only [wid]
  rw [rd127 (by omega) (by omega), Option.bind_some, rd127 (by omega) (by omega), Option.bind_some, i2, i1 127 (19 + 5 * p + q) (by omega)]
  simp (disch := omega) only [wid]
  rw [wr127 (by omega) (by omega), Option.bind_some, wr127 (by omega) (by omega), Option.bind_some, wr127 (by omega) (by omega), Option.bind_some, rd127 (by omega) (by omega), Option.bind_some]
  simp (disch := omega) only [up_ne, i2, wid]
  rw [wr127 (by omega) (by omega), Option.bind_some, wr127 (by omega) (by omega), Option.bind_some]
  refine Ret.ok ⟨rfl, fun b i c => ?_, ?_, ?_, fun j b1 b2 => ?_, ?_, ?_, ?_⟩
  · simp (disch := omega) only [up_ne, up_eq]; exact i1 b i (by omega)
  · simp (disch := omega) only [up_ne, up_eq]
  · simp (disch := omega) only [up_ne, up_eq]
  · simp (disch := omega) only [up_ne, up_eq]
    rw [i3 (3 * j) (by omega) (by omega), show 95 + 3 * j + 1 = 95 + (3 * j + 1) by omega, show 95 + 3 * j + 2 = 95 + (3 * j + 2) by omega, i3 (3 * j + 1) (by omega) (by omega), i3 (3 * j + 2) (by omega) (by omega)]
    refine ⟨?_, ?_, ?_⟩ <;> congr 1 <;> omega
  · simp (disch := omega) only [up_ne, up_eq]
  · simp (disch := omega) only [up_ne, up_eq]
  · simp (disch := omega) only [up_ne, up_eq]
section SIM
variable {CL CP : fx_H → Prop} {k : Int} {h : fx_H}
theorem sim_does (hL : FrC CL) (hP : FrC CP) (R : Rel CL CP k h) (hk : k ≤ 1000) (p q t : Int) : Sm CL CP k (f_X5_does FU La_167 0 p q t h) (f_X6_does FU La_167 126 p q t) := by
  obtain ⟨RV, RR, R3, R4, R5, R6, R7⟩ := id R
  have RV' := RV
  have RR' := RR
  unfold TV at RV'
  unfold TR at RR'
  obtain ⟨⟨v1, v1'⟩, ⟨v2, v2'⟩, ⟨v3, v3'⟩, ⟨v4, v4'⟩, ⟨v5, v5'⟩, ⟨v6, v6'⟩, v7, v8, v9, v10, v11, v12, v13⟩ := RV'
  obtain ⟨r1, r2, r3, r4, r5, r6, r7, r8, r9, r10, r11, r12⟩ := RR'
  simp only [Int.zero_add] at r1 r2 r3 r4 r5 r6 r7 r8 r9 r10 r11 r12
  obtain ⟨⟨k1, k2⟩, -⟩ := id R7
  by_cases c0 : (t = -1 ∨ (0 ≤ t ∧ t < h 1 0)) ∧ (0 ≤ p ∧ p < h 1 2) ∧ (0 ≤ q ∧ q < h 1 3)
  · obtain ⟨ct, cp, cq⟩ := c0
    obtain ⟨s, hs⟩ : ∃ s : Int, (s = 0 ∧ h 1 5 < 10) ∨ (s = 1 ∧ h 1 5 = 10) := by
      by_cases c : h 1 5 < 10
      · exact ⟨0, Or.inl ⟨rfl, c⟩⟩
      · exact ⟨1, Or.inr ⟨rfl, by omega⟩⟩
    have e5 : fx_up h 0 13 (h 0 13 + 1) 1 5 = h 1 5 := by simp (disch := omega) only [up_ne, up_eq]
    obtain ⟨h1, e1, p1, p2, p3, p4, p5, p6⟩ := remember_ok (p := p) (q := q) (t := h (5 + q) p) (s := s) (h := fx_up h 0 13 (h 0 13 + 1)) TC_1 (by omega) (by omega)
    rw [e5] at p1 p3 p4 p5 p6
    have w9 := v9 q p cq.1 (by omega) cp.1 (by omega)
    rw [show (1 : Int) + 4 + q = 5 + q by omega] at w9
    generalize ht' : (if t = -1 then (9 : Int) else t) = t'
    have ht9 : t = de t' ∧ 0 ≤ t' ∧ t' ≤ 9 ∧ (t' = 9 ∨ t' < h 1 0) := by
      subst ht'
      unfold de
      rcases ct with rfl | ct
      · simp
      · rw [if_neg (by omega), if_neg (by omega)]
        exact ⟨rfl, by omega, by omega, by omega⟩
    have hx : f_X5_does FU La_167 0 p q t h = some (de (h (5 + q) p), fx_up h1 (5 + q) p t') := by
      unfold f_X5_does
      have a1 : ((if t = -1 then some true else if ¬ ¬ (0 ≤ t ∧ t < h 1 0) then some true else some false).bind fun b4 => if b4 = true then some (1 : Int) else some 0) = some 1 := by
        rcases ct with rfl | ct
        · simp
        · simp [ct]
      have a2 : (if (1 : Int) = 0 then some true else if ¬ (0 ≤ p ∧ p < h 1 2) then some true else if ¬ (0 ≤ q ∧ q < h 1 3) then some true else some false) = some false := by simp [cp, cq]
      have a3 : (if t = -1 then some (9 : Int) else some t) = some t' := by rw [← ht']; split <;> rfl
      have a4 : ∀ g : fx_H, f_X5_shown FU La_167 (h (5 + q) p) g = some (de (h (5 + q) p)) := fun g => by
        unfold f_X5_shown de
        split <;> rfl
      simp (disch := omega) only [lb_tg_0_0, ev_hasThing, ev_hasPerson, ev_hasHour, Option.bind_some, ite10, tc_tg_8 TC_1, wid, a1, a2, a3, a4, Bool.false_eq_true, if_false]
      rw [rr_ok cq.1 (by rw [show (1 : Int) + 3 = 4 from rfl, lb_ln_4]; omega), Option.bind_some, tc_doing TC_1 cq.1 (by omega), show (1 : Int) + 4 + q = 5 + q by omega, rd_ok cp.1 (by rw [show (5 : Int) + q = 1 + 4 + q by omega, tc_lnD TC_1 cq.1 (by omega)]; omega), Option.bind_some, up_ne (by omega), e1, Option.bind_some, Option.bind_some, wr_ok cp.1 (by rw [show (5 : Int) + q = 1 + 4 + q by omega, tc_lnD TC_1 cq.1 (by omega)]; omega), Option.bind_some, a4, Option.bind_some]
    have f2 : ∀ a i : Int, ¬ (1 ≤ a ∧ a ≤ 19) → ¬ (a = 0 ∧ i = 13) → fx_up h1 (5 + q) p t' a i = h a i := fun a i b1 b2 => by
      rw [up_ne (by omega), p2 a i (by omega) (by omega), up_ne (by omega)]
    have F : ∀ i : Int, fx_up h1 (5 + q) p t' 127 i = h 127 i := fun i => f2 127 i (by omega) (by omega)
    obtain ⟨⟨z, h2⟩, e2, q1, q2, q3, q4, q5, q6, q7, q8⟩ := mdoes_ok (p := p) (q := q) (t := t) (s := s) (g := fx_up h1 (5 + q) p t') (by rw [F]; omega) (by rw [F]; omega) (by rw [F]; omega) (by rw [F, F, F]; omega) (by rw [F]; omega) (by rw [F]; omega)
    simp only [F] at q1 q2 q3 q4 q5 q6 q7 q8
    have w19 := r9 q p cq.1 (by omega) cp.1 (by omega)
    rw [show (1 : Int) + 4 + q = 5 + q by omega] at w19
    rw [r6] at q3 q5 q6 q7 q8
    rw [w19] at q1 q8
    subst q1
    -- the class's cells behind both calls
    have m1 : ∀ i : Int, i ≠ 5 → h2 1 i = h 1 i := fun i b => by rw [q2 _ _ (by omega), up_ne (by omega), p2 _ _ (by omega) (by omega), up_ne (by omega)]
    have m2 : h2 1 5 = h 1 5 - s + 1 := by rw [q2 _ _ (by omega), up_ne (by omega), p1]
    have m3 : ∀ a i : Int, 2 ≤ a → a ≤ 16 → ¬ (a = 5 + q ∧ i = p) → h2 a i = h a i := fun a i b1 b2 b3 => by rw [q2 _ _ (by omega), up_ne (by omega), p2 _ _ (by omega) (by omega), up_ne (by omega)]
    have m4 : h2 (5 + q) p = t' := by rw [q2 _ _ (by omega), up_eq rfl rfl]
    have m5 : ∀ a i : Int, 17 ≤ a → a ≤ 19 → h2 a i = h1 a i := fun a i b1 b2 => by rw [q2 _ _ (by omega), up_ne (by omega)]
    have m6 : ∀ j : Int, 0 ≤ j → j < h 1 5 - s → h2 17 j = h 17 (j + s) ∧ h2 18 j = h 18 (j + s) ∧ h2 19 j = h 19 (j + s) := fun j b1 b2 => by
      obtain ⟨x1, x2, x3⟩ := p3 j b1 b2
      rw [m5 _ _ (by omega) (by omega), m5 18 _ (by omega) (by omega), m5 19 _ (by omega) (by omega)]
      refine ⟨x1.trans (up_ne (by omega)), x2.trans (up_ne (by omega)), x3.trans (up_ne (by omega))⟩
    refine sm_town R hx (y' := fun _ => h2) e2 (fun a i b1 b2 b3 => ?_) ?_ ?_ ?_
    · show h2 a i = h a i
      rw [q2 a i (by omega)]; exact f2 a i b1 b3
    · show h2 0 13 = h 0 13 + 1
      rw [q2 _ _ (by omega), up_ne (by omega), p2 _ _ (by omega) (by omega)]; simp (disch := omega) only [up_ne, up_eq]
    · unfold TV
      simp only [m1 0 (by omega), m1 1 (by omega), m1 2 (by omega), m1 3 (by omega), m1 4 (by omega), m2]
      refine ⟨by omega, by omega, by omega, by omega, by omega, by omega, fun t a b => ?_, fun q' a b => ?_, fun q' p' a b a' b' => ?_, fun p' t a b a' b' => ?_, fun p a b => ?_, fun p a b => ?_, fun j a b => ?_⟩
      · rw [m3 _ _ (by omega) (by omega) (by omega)]; exact v7 t a b
      · rw [m3 _ _ (by omega) (by omega) (by omega)]; exact v8 q' a b
      · by_cases e : q' = q ∧ p' = p
        · obtain ⟨rfl, rfl⟩ := e
          rw [show (1 : Int) + 4 + q' = 5 + q' by omega, m4]; exact ht9.2
        · rw [m3 _ _ (by omega) (by omega) (by omega)]; exact v9 q' p' a b a' b'
      · rw [m3 _ _ (by omega) (by omega) (by omega)]; exact v10 p' t a b a' b'
      · rw [sumI_congr (g := fun t => h (1 + 10 + p) t) (fun t _ _ => m3 _ _ (by omega) (by omega) (by omega))]; exact v11 p a b
      · rw [m3 _ _ (by omega) (by omega) (by omega)]; exact v12 p a b
      · simp only [show (1 : Int) + 16 = 17 from rfl, show (1 : Int) + 17 = 18 from rfl, show (1 : Int) + 18 = 19 from rfl] at v13 p4 p5 p6 ⊢
        by_cases e : j = h 1 5 - s
        · subst e
          rw [m5 17 _ (by omega) (by omega), m5 18 _ (by omega) (by omega), m5 19 _ (by omega) (by omega), p4, p5, p6]
          exact ⟨cp.1, cp.2, cq.1, cq.2, w9⟩
        · obtain ⟨x1, x2, x3⟩ := m6 j a (by omega)
          rw [x1, x2, x3]
          exact v13 (j + s) (by omega) (by omega)
    · unfold TR
      simp only [Int.zero_add, m1 0 (by omega), m1 1 (by omega), m1 2 (by omega), m1 3 (by omega), m1 4 (by omega), m2]
      have n1 : ∀ i : Int, ¬ (94 ≤ i ∧ i < 125 ∨ i = 19 + 5 * p + q) → h2 127 i = h 127 i := fun i b => by rw [q2 127 i (Or.inr b)]; exact F i
      refine ⟨?_, ?_, ?_, ?_, ?_, ?_, fun t a b => ?_, fun q' a b => ?_, fun q' p' a b a' b' => ?_, fun p' t a b a' b' => ?_, fun p' a b => ?_, fun j a b => ?_⟩
      · rw [n1 _ (by omega)]; exact r1
      · rw [n1 _ (by omega)]; exact r2
      · rw [n1 _ (by omega)]; exact r3
      · rw [n1 _ (by omega)]; exact r4
      · rw [n1 _ (by omega)]; exact r5
      · exact q3
      · rw [n1 _ (by omega), m3 _ _ (by omega) (by omega) (by omega)]; exact r7 t a b
      · rw [n1 _ (by omega), m3 _ _ (by omega) (by omega) (by omega)]; exact r8 q' a b
      · by_cases e : q' = q ∧ p' = p
        · obtain ⟨rfl, rfl⟩ := e
          rw [show (1 : Int) + 4 + q' = 5 + q' by omega, m4, q4]; exact ht9.1
        · rw [n1 _ (by omega), m3 _ _ (by omega) (by omega) (by omega)]; exact r9 q' p' a b a' b'
      · rw [n1 _ (by omega), m3 _ _ (by omega) (by omega) (by omega)]; exact r10 p' t a b a' b'
      · rw [n1 _ (by omega), m3 _ _ (by omega) (by omega) (by omega)]; exact r11 p' a b
      · simp only [show (1 : Int) + 16 = 17 from rfl, show (1 : Int) + 17 = 18 from rfl, show (1 : Int) + 18 = 19 from rfl] at r12 p4 p5 p6 ⊢
        by_cases e : j = h 1 5 - s
        · subst e
          rw [m5 17 _ (by omega) (by omega), m5 18 _ (by omega) (by omega), m5 19 _ (by omega) (by omega), p4, p5, p6]
          exact ⟨q6, q7, q8⟩
        · obtain ⟨x1, x2, x3⟩ := m6 j a (by omega)
          obtain ⟨y1, y2, y3⟩ := q5 j a (by omega)
          rw [x1, x2, x3, y1, y2, y3]
          exact r12 (j + s) (by omega) (by omega)
  · refine sm_bad hL hP R (z := -10) ?_ (fun g hg => ?_)
    · unfold f_X5_does
      simp (disch := omega) only [lb_tg_0_0, ev_hasThing, ev_hasPerson, ev_hasHour, Option.bind_some, ite10, f_X5_refuseBad]
      by_cases d : t = -1 ∨ (0 ≤ t ∧ t < h 1 0)
      · have a1 : ((if t = -1 then some true else if ¬ ¬ (0 ≤ t ∧ t < h 1 0) then some true else some false).bind fun b4 => if b4 = true then some (1 : Int) else some 0) = some 1 := by
          rcases d with rfl | d
          · simp
          · simp [d]
        rw [a1]
        by_cases d2 : 0 ≤ p ∧ p < h 1 2
        · have d3 : ¬ (0 ≤ q ∧ q < h 1 3) := fun z => c0 ⟨d, d2, z⟩
          simp [d2, d3]
        · simp [d2]
      · have a1 : ((if t = -1 then some true else if ¬ ¬ (0 ≤ t ∧ t < h 1 0) then some true else some false).bind fun b4 => if b4 = true then some (1 : Int) else some 0) = some 0 := by
          have d1 : ¬ t = -1 := fun z => d (Or.inl z)
          have d2 : ¬ (0 ≤ t ∧ t < h 1 0) := fun z => d (Or.inr z)
          simp [d1, d2]
        rw [a1]
        simp
    · have g0 : g 127 0 = h 1 0 := by rw [hg _ _ (by omega)]; exact r1
      have g1 : g 127 10 = h 1 2 := by rw [hg _ _ (by omega)]; exact r3
      have g2 : g 127 11 = h 1 3 := by rw [hg _ _ (by omega)]; exact r4
      unfold f_X6_does
      simp (disch := omega) only [ev_isThing, ev_isHour, ev_isOne, Option.bind_some, ite10, ev_bad, g0, g1, g2]
      by_cases d2 : 0 ≤ p ∧ p < h 1 2
      · by_cases d3 : 0 ≤ q ∧ q < h 1 3
        · have d4 : ¬ t = -1 := fun z => c0 ⟨Or.inl z, d2, d3⟩
          have d5 : ¬ (0 ≤ t ∧ t < h 1 0) := fun z => c0 ⟨Or.inr z, d2, d3⟩
          simp [d2, d3, d4, d5]
        · simp [d2, d3]
      · simp [d2]
end SIM
