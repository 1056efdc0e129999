-- needs: 7i
theorem settle_L {Λ : fx_L} {c n m : Int} {h : fx_H} (hc : TC c) (e7 : fx_tg Λ c 7 = c + 2) (e8 : fx_tg Λ c 8 = c + 3) (e9 : fx_tg Λ c 9 = c + 9) (e10 : fx_tg Λ c 10 = c + 15) (l2 : fx_ln Λ (c + 2) = 5) (l15 : fx_ln Λ (c + 15) = 5) (l3 : fx_ln Λ (c + 3) = 5) (l9 : fx_ln Λ (c + 9) = 5) (d : ∀ i : Int, 0 ≤ i → i < 5 → fx_tg Λ (c + 3) i = c + 4 + i ∧ fx_ln Λ (c + 4 + i) = 5) (nn : ∀ i : Int, 0 ≤ i → i < 5 → fx_tg Λ (c + 9) i = c + 10 + i ∧ fx_ln Λ (c + 10 + i) = 9) : f_X4_settle FU Λ c n m h = f_X4_settle FU La_167 c n m h := by
  have s1 : s_X4_settle_1 FU Λ c = s_X4_settle_1 FU La_167 c := funext (fun ⟨q, h⟩ => by
    unfold s_X4_settle_1
    simp only
    rw [e8, tc_tg_8 hc]
    by_cases a : q < 5
    · rw [if_pos a, if_pos a]
      by_cases b : 0 ≤ q
      · rw [rr_ok b (by rw [l3]; exact a), rr_ok b (by rw [tc_ln_3 hc]; exact a), Option.bind_some, Option.bind_some, (d q b a).1, tc_doing hc b a, ev_fill (d q b a).2 (by omega) (by omega), ev_fill (tc_lnD hc b a) (by omega) (by omega)]
      · rw [show fx_rr Λ (c + 3) q = none from if_neg (fun z => b z.1), show fx_rr La_167 (c + 3) q = none from if_neg (fun z => b z.1), Option.bind_none, Option.bind_none]
    · rw [if_neg a, if_neg a])
  have s2 : s_X4_settle_2 FU Λ c = s_X4_settle_2 FU La_167 c := funext (fun ⟨q, h⟩ => by
    unfold s_X4_settle_2
    simp only
    rw [e9, tc_tg_9 hc]
    by_cases a : q < 5
    · rw [if_pos a, if_pos a]
      by_cases b : 0 ≤ q
      · rw [rr_ok b (by rw [l9]; exact a), rr_ok b (by rw [tc_ln_9 hc]; exact a), Option.bind_some, Option.bind_some, (nn q b a).1, tc_needs hc b a, ev_fill (nn q b a).2 (by omega) (by omega), ev_fill (tc_lnN hc b a) (by omega) (by omega)]
      · rw [show fx_rr Λ (c + 9) q = none from if_neg (fun z => b z.1), show fx_rr La_167 (c + 9) q = none from if_neg (fun z => b z.1), Option.bind_none, Option.bind_none]
    · rw [if_neg a, if_neg a])
  unfold f_X4_settle
  rw [s1, s2, e7, e10, tc_tg_7 hc, tc_tg_10 hc, ev_fill l2 (by omega) (by omega), ev_fill (tc_ln_2 hc) (by omega) (by omega), Option.bind_some, Option.bind_some, ev_fill l15 (by omega) (by omega), ev_fill (tc_ln_15 hc) (by omega) (by omega)]
/-- a town just begun -/
def CB (c : Int) (h : fx_H) : Prop := (h c 0 = 0 ∧ h c 1 = 4 ∧ h c 2 = 3 ∧ h c 3 = 4 ∧ h c 4 = 0 ∧ h c 5 = 0) ∧ (∀ q : Int, 0 ≤ q → q < 5 → h (c + 2) q = 0) ∧ (∀ q p : Int, 0 ≤ q → q < 5 → 0 ≤ p → p < 5 → h (c + 4 + q) p = 9) ∧ (∀ p t : Int, 0 ≤ p → p < 5 → 0 ≤ t → t < 9 → h (c + 10 + p) t = 0) ∧ (∀ p : Int, 0 ≤ p → p < 5 → h (c + 15) p = 0)
theorem begin_L {Λ : fx_L} {c : Int} {h : fx_H} (hc : TC c) (es : ∀ h : fx_H, f_X4_settle FU Λ c 3 4 h = f_X4_settle FU La_167 c 3 4 h) : ∃ h1 : fx_H, f_X4_begin FU Λ c h = some h1 ∧ (∀ a i : Int, ¬ (c ≤ a ∧ a ≤ c + 18) → h1 a i = h a i) ∧ CB c h1 := by
  obtain ⟨h1, e1, p1, ⟨p2, p3, p4, p5, p6, p7⟩, p8, p9, p10, p11, p12⟩ := settle_ok (n := 3) (m := 4) (h := fx_up (fx_up h c 0 0) c 1 4) hc
  refine ⟨h1, ?_, fun a i y => ?_, ⟨?_, ?_, p4, p5, p6, p7⟩, p9, p10, p11, p12⟩
  · unfold f_X4_begin
    rw [es, e1]; rfl
  · rw [p1 a i y, up_ne (by omega), up_ne (by omega)]
  · rw [p2]; simp (disch := omega) only [up_ne, up_eq]
  · rw [p3]; simp (disch := omega) only [up_ne, up_eq]
theorem i5D {P : Int → Prop} (h0 : P 0) (h1 : P 1) (h2 : P 2) (h3 : P 3) (h4 : P 4) : ∀ i : Int, 0 ≤ i → i < 5 → P i := fun i a b => by
  rcases int5 a b with rfl | rfl | rfl | rfl | rfl
  · exact h0
  · exact h1
  · exact h2
  · exact h3
  · exact h4
theorem es_1 (h : fx_H) : f_X4_settle FU La_19 1 3 4 h = f_X4_settle FU La_167 1 3 4 h := settle_L TC_1 (by decide +kernel) (by decide +kernel) (by decide +kernel) (by decide +kernel) (by decide +kernel) (by decide +kernel) (by decide +kernel) (by decide +kernel) (i5D (by decide +kernel) (by decide +kernel) (by decide +kernel) (by decide +kernel) (by decide +kernel)) (i5D (by decide +kernel) (by decide +kernel) (by decide +kernel) (by decide +kernel) (by decide +kernel))
theorem es_20 (h : fx_H) : f_X4_settle FU La_38 20 3 4 h = f_X4_settle FU La_167 20 3 4 h := settle_L TC_20 (by decide +kernel) (by decide +kernel) (by decide +kernel) (by decide +kernel) (by decide +kernel) (by decide +kernel) (by decide +kernel) (by decide +kernel) (i5D (by decide +kernel) (by decide +kernel) (by decide +kernel) (by decide +kernel) (by decide +kernel)) (i5D (by decide +kernel) (by decide +kernel) (by decide +kernel) (by decide +kernel) (by decide +kernel))
theorem es_88 (h : fx_H) : f_X4_settle FU La_109 88 3 4 h = f_X4_settle FU La_167 88 3 4 h := settle_L TC_88 (by decide +kernel) (by decide +kernel) (by decide +kernel) (by decide +kernel) (by decide +kernel) (by decide +kernel) (by decide +kernel) (by decide +kernel) (i5D (by decide +kernel) (by decide +kernel) (by decide +kernel) (by decide +kernel) (by decide +kernel)) (i5D (by decide +kernel) (by decide +kernel) (by decide +kernel) (by decide +kernel) (by decide +kernel))
theorem es_107 (h : fx_H) : f_X4_settle FU La_128 107 3 4 h = f_X4_settle FU La_167 107 3 4 h := settle_L TC_107 (by decide +kernel) (by decide +kernel) (by decide +kernel) (by decide +kernel) (by decide +kernel) (by decide +kernel) (by decide +kernel) (by decide +kernel) (i5D (by decide +kernel) (by decide +kernel) (by decide +kernel) (by decide +kernel) (by decide +kernel)) (i5D (by decide +kernel) (by decide +kernel) (by decide +kernel) (by decide +kernel) (by decide +kernel))
theorem z_ne {h : fx_H} {n a i : Int} (e : a ≠ n) : fx_z h n a i = h a i := if_neg e
theorem z_eq {h : fx_H} {n a i : Int} (e : a = n) : fx_z h n a i = 0 := if_pos e
theorem zg_lt {h : fx_H} {n a i : Int} (e : a < n) : fx_zg h n a i = h a i := if_neg (by omega)
theorem zg_ge {h : fx_H} {n a i : Int} (e : n ≤ a) : fx_zg h n a i = 0 := if_pos e
theorem lb58 : fx_ln La_58 46 = 5 := by decide +kernel
theorem init_C : ∃ h : fx_H, fi_X5_init_1 FU (fx_z (fun _ _ => 0) 0) = some h ∧ CB 1 h ∧ (∀ i : Int, h 0 i = if i = 1000009 then 1 else 0) ∧ (∀ i : Int, h 40 i = 0) ∧ (∀ i : Int, h 41 i = 0) ∧ (∀ p : Int, 0 ≤ p → p < 5 → h 46 p = 9) ∧ h 48 5 = -1 ∧ (∀ a i : Int, 79 ≤ a → a ≤ 83 → h a i = 0) ∧ h 84 4 = -1 := by
  unfold fi_X5_init_1
  obtain ⟨h1, e1, p1, q1⟩ := begin_L (h := fx_z (fx_z (fx_z (fx_z (fx_zg (fx_zg (fx_z (fx_z (fx_z (fx_z (fun _ _ => 0) 0) 1) 2) 3) 4) 10) 16) 17) 18) 19) TC_1 es_1
  have r1 : ∀ i : Int, h1 0 i = 0 := fun i => by
    rw [p1 0 i (by omega)]
    simp (disch := omega) only [z_ne, zg_lt, z_eq]
  rw [show fi_X4_init_2 FU (fx_z (fx_z (fun _ _ => 0) 0) 1) = some h1 by unfold fi_X4_init_2; rw [e1]; rfl, Option.bind_some]
  obtain ⟨h3, e3, p3, q3⟩ := begin_L (h := fx_z (fx_z (fx_z (fx_z (fx_zg (fx_zg (fx_z (fx_z (fx_z h1 20) 21) 22) 23) 29) 35) 36) 37) 38) TC_20 es_20
  have r3 : ∀ a i : Int, a < 20 → h3 a i = h1 a i := fun a i y => by
    rw [p3 a i (by omega)]
    simp (disch := omega) only [z_ne, zg_lt, z_eq]
  rw [show fi_X4_init_3 FU (fx_z h1 20) = some h3 by unfold fi_X4_init_3; rw [e3]; rfl, Option.bind_some]
  unfold fi_X3_init_4
  rw [Option.bind_some]
  have r5 : ∀ a i : Int, a < 20 → fx_z (fx_z (fx_z (fx_z h3 39) 40) 41) 42 a i = h1 a i := fun a i y => by
    simp (disch := omega) only [z_ne, zg_lt, z_eq]
    exact r3 a i y
  have r5a : ∀ a i : Int, a = 40 ∨ a = 41 → fx_z (fx_z (fx_z (fx_z h3 39) 40) 41) 42 a i = 0 := fun a i y => by
    rcases y with rfl | rfl
    · simp (disch := omega) only [z_ne, zg_lt, z_eq]
    · simp (disch := omega) only [z_ne, zg_lt, z_eq]
  generalize fx_z (fx_z (fx_z (fx_z h3 39) 40) 41) 42 = h5 at r5 r5a
  unfold fi_X0_init_5
  rw [ev_fill lb58 (by omega) (by omega), Option.bind_some, Option.bind_some]
  have r7 : ∀ a i : Int, a < 43 → fl (fx_z (fx_z (fx_z (fx_z (fx_z h5 43) 44) 45) 46) 47) 46 5 9 a i = h5 a i := fun a i y => by
    rw [fl_out (by omega)]
    simp (disch := omega) only [z_ne, zg_lt, z_eq]
  have r7a : ∀ p : Int, 0 ≤ p → p < 5 → fl (fx_z (fx_z (fx_z (fx_z (fx_z h5 43) 44) 45) 46) 47) 46 5 9 46 p = 9 := fun p a b => fl_in rfl a b
  generalize fl (fx_z (fx_z (fx_z (fx_z (fx_z h5 43) 44) 45) 46) 47) 46 5 9 = h7 at r7 r7a
  unfold fi_X1_init_6
  rw [Option.bind_some]
  have r9 : ∀ a i : Int, a < 48 → fx_zg (fx_z (fx_z (fx_z (fx_z (fx_z (fx_zg (fx_up (fx_zg (fx_zg (fx_zg (fx_z h7 48) 49) 55) 61) 48 5 (-1)) 67) 73) 74) 75) 76) 77) 78 a i = h7 a i := fun a i y => by simp (disch := omega) only [z_ne, zg_lt, z_eq, up_ne]
  have r9a : fx_zg (fx_z (fx_z (fx_z (fx_z (fx_z (fx_zg (fx_up (fx_zg (fx_zg (fx_zg (fx_z h7 48) 49) 55) 61) 48 5 (-1)) 67) 73) 74) 75) 76) 77) 78 48 5 = -1 := by simp (disch := omega) only [z_ne, zg_lt, z_eq, up_eq]
  have r9b : ∀ a i : Int, 79 ≤ a → a ≤ 83 → fx_zg (fx_z (fx_z (fx_z (fx_z (fx_z (fx_zg (fx_up (fx_zg (fx_zg (fx_zg (fx_z h7 48) 49) 55) 61) 48 5 (-1)) 67) 73) 74) 75) 76) 77) 78 a i = 0 := fun a i y _ => zg_ge (by omega)
  generalize fx_zg (fx_z (fx_z (fx_z (fx_z (fx_z (fx_zg (fx_up (fx_zg (fx_zg (fx_zg (fx_z h7 48) 49) 55) 61) 48 5 (-1)) 67) 73) 74) 75) 76) 77) 78 = h9 at r9 r9a r9b
  unfold fi_X2_init_7
  rw [Option.bind_some]
  have r11 : ∀ a i : Int, a < 84 → fx_up (fx_z (fx_z (fx_z (fx_z h9 84) 85) 86) 87) 84 4 (-1) a i = h9 a i := fun a i y => by simp (disch := omega) only [z_ne, zg_lt, z_eq, up_ne]
  have r11a : fx_up (fx_z (fx_z (fx_z (fx_z h9 84) 85) 86) 87) 84 4 (-1) 84 4 = -1 := up_eq rfl rfl
  generalize fx_up (fx_z (fx_z (fx_z (fx_z h9 84) 85) 86) 87) 84 4 (-1) = h11 at r11 r11a
  obtain ⟨h13, e13, p13, -⟩ := begin_L (h := fx_z (fx_z (fx_z (fx_z (fx_zg (fx_zg (fx_z (fx_z (fx_z h11 88) 89) 90) 91) 97) 103) 104) 105) 106) TC_88 es_88
  have r13 : ∀ a i : Int, a < 88 → h13 a i = h11 a i := fun a i y => by
    rw [p13 a i (by omega)]
    simp (disch := omega) only [z_ne, zg_lt, z_eq]
  rw [show fi_X4_init_8 FU (fx_z h11 88) = some h13 by unfold fi_X4_init_8; rw [e13]; rfl, Option.bind_some]
  obtain ⟨h15, e15, p15, -⟩ := begin_L (h := fx_z (fx_z (fx_z (fx_z (fx_zg (fx_zg (fx_z (fx_z (fx_z h13 107) 108) 109) 110) 116) 122) 123) 124) 125) TC_107 es_107
  have r15 : ∀ a i : Int, a < 88 → h15 a i = h11 a i := fun a i y => by
    rw [p15 a i (by omega)]
    simp (disch := omega) only [z_ne, zg_lt, z_eq]
    exact r13 a i y
  rw [show fi_X4_init_9 FU (fx_z h13 107) = some h15 by unfold fi_X4_init_9; rw [e15]; rfl, Option.bind_some]
  have t1 : ∀ a i : Int, a < 20 → h15 a i = h1 a i := fun a i y => by rw [r15 a i (by omega), r11 a i (by omega), r9 a i (by omega), r7 a i (by omega), r5 a i y]
  have t2 : ∀ a i : Int, 1 ≤ a → a < 20 → fx_up h15 0 1000009 1 a i = h1 a i := fun a i x y => by rw [up_ne (by omega), t1 a i y]
  refine ⟨_, rfl, ?_, fun i => ?_, fun i => ?_, fun i => ?_, fun p a b => ?_, ?_, fun a i x y => ?_, ?_⟩
  · obtain ⟨⟨c1, c2, c3, c4, c5, c6⟩, c7, c8, c9, c10⟩ := q1
    refine ⟨?_, fun q a b => ?_, fun q p a b a' b' => ?_, fun p t a b a' b' => ?_, fun p a b => ?_⟩
    · simp (disch := omega) only [t2]; exact ⟨c1, c2, c3, c4, c5, c6⟩
    · rw [t2 _ _ (by omega) (by omega)]; exact c7 q a b
    · rw [t2 _ _ (by omega) (by omega)]; exact c8 q p a b a' b'
    · rw [t2 _ _ (by omega) (by omega)]; exact c9 p t a b a' b'
    · rw [t2 _ _ (by omega) (by omega)]; exact c10 p a b
  · by_cases e : i = 1000009
    · rw [if_pos e, up_eq rfl e]
    · rw [if_neg e, up_ne (by omega), t1 _ _ (by omega), r1]
  · rw [up_ne (by omega), r15 _ _ (by omega), r11 _ _ (by omega), r9 _ _ (by omega), r7 _ _ (by omega), r5a _ _ (by omega)]
  · rw [up_ne (by omega), r15 _ _ (by omega), r11 _ _ (by omega), r9 _ _ (by omega), r7 _ _ (by omega), r5a _ _ (by omega)]
  · rw [up_ne (by omega), r15 _ _ (by omega), r11 _ _ (by omega), r9 _ _ (by omega), r7a p a b]
  · rw [up_ne (by omega), r15 _ _ (by omega), r11 _ _ (by omega), r9a]
  · rw [up_ne (by omega), r15 _ _ (by omega), r11 _ _ (by omega), r9b _ _ x y]
  · rw [up_ne (by omega), r15 _ _ (by omega), r11a]
theorem init_R : ∃ h3 : fx_H, ((fi_X5_init_1 FU (fx_z (fun _ _ => 0) 0)).bind fun h1 => fi_X6_init_10 FU (fx_z h1 126)) = some h3 ∧ Rel CLp CPp 0 h3 := by
  obtain ⟨h, e0, ⟨⟨c1, c2, c3, c4, c5, c6⟩, c7, c8, c9, c10⟩, d0, d1, d2, d3, d4, d5, d6⟩ := init_C
  rw [e0, Option.bind_some]
  unfold fi_X6_init_10
  have u0 : ∀ a i : Int, a < 126 → (fx_z (fx_z (fx_z (fx_z (fx_z (fx_z (fx_z (fx_z (fx_z (fx_z (fx_z (fx_z (fx_z (fx_up (fx_z (fx_z (fx_z (fx_z (fx_z h 126) 127) 128) 129) 130) 126 1000005 1) 131) 132) 133) 134) 135) 136) 137) 138) 139) 140) 141) 142) 143) a i = h a i := fun a i y => by simp (disch := omega) only [z_ne, up_ne]
  have u1 : ∀ i : Int, (fx_z (fx_z (fx_z (fx_z (fx_z (fx_z (fx_z (fx_z (fx_z (fx_z (fx_z (fx_z (fx_z (fx_up (fx_z (fx_z (fx_z (fx_z (fx_z h 126) 127) 128) 129) 130) 126 1000005 1) 131) 132) 133) 134) 135) 136) 137) 138) 139) 140) 141) 142) 143) 126 i = if i = 1000005 then 1 else 0 := fun i => by
    simp (disch := omega) only [z_ne]
    by_cases e : i = 1000005
    · rw [if_pos e, up_eq rfl e]
    · rw [if_neg e, up_ne (by omega)]; simp (disch := omega) only [z_ne, z_eq]
  have u2 : ∀ a i : Int, a = 127 ∨ a = 129 ∨ a = 130 → (fx_z (fx_z (fx_z (fx_z (fx_z (fx_z (fx_z (fx_z (fx_z (fx_z (fx_z (fx_z (fx_z (fx_up (fx_z (fx_z (fx_z (fx_z (fx_z h 126) 127) 128) 129) 130) 126 1000005 1) 131) 132) 133) 134) 135) 136) 137) 138) 139) 140) 141) 142) 143) a i = 0 := fun a i y => by
    rcases y with rfl | rfl | rfl
    · simp (disch := omega) only [z_ne, up_ne, z_eq]
    · simp (disch := omega) only [z_ne, up_ne, z_eq]
    · simp (disch := omega) only [z_ne, up_ne, z_eq]
  generalize (fx_z (fx_z (fx_z (fx_z (fx_z (fx_z (fx_z (fx_z (fx_z (fx_z (fx_z (fx_z (fx_z (fx_up (fx_z (fx_z (fx_z (fx_z (fx_z h 126) 127) 128) 129) 130) 126 1000005 1) 131) 132) 133) 134) 135) 136) 137) 138) 139) 140) 141) 142) 143) = w at u0 u1 u2
  rw [wr127 (by omega) (by omega), Option.bind_some]
  obtain ⟨g, e5, q1, ⟨q2, q3, q4, q5⟩, q6, q7, q8, q9⟩ := begin_ok (a := 127) (n := 3) (m := 4) (g := fx_up w 127 12 4) (by rw [lb_ln_127]; omega)
  rw [e5]
  have gl : ∀ a i : Int, a < 126 → g a i = h a i := fun a i y => by rw [q1 a i (by omega), up_ne (by omega), u0 a i y]
  have g6 : ∀ i : Int, g 126 i = if i = 1000005 then 1 else 0 := fun i => by rw [q1 _ i (by omega), up_ne (by omega), u1]
  have gz : ∀ a i : Int, a = 129 ∨ a = 130 → g a i = 0 := fun a i y => by rw [q1 a i (by omega), up_ne (by omega), u2 a i (by omega)]
  have z0 : g 127 0 = 0 := by rw [q6 0 (by omega), up_ne (by omega), u2 _ _ (by omega)]
  have z12 : g 127 12 = 4 := by rw [q6 12 (by omega), up_eq rfl rfl]
  have s0 : g 1 0 = 0 := by rw [gl _ _ (by omega)]; exact c1
  have s1 : g 1 1 = 4 := by rw [gl _ _ (by omega)]; exact c2
  have s2 : g 1 2 = 3 := by rw [gl _ _ (by omega)]; exact c3
  have s3 : g 1 3 = 4 := by rw [gl _ _ (by omega)]; exact c4
  have s4 : g 1 4 = 0 := by rw [gl _ _ (by omega)]; exact c5
  have s5 : g 1 5 = 0 := by rw [gl _ _ (by omega)]; exact c6
  refine ⟨g, rfl, ?_, ?_, ?_, ?_, ?_, ?_, ?_⟩
  · unfold TV
    refine ⟨by omega, by omega, by omega, by omega, by omega, by omega, fun t a b => by omega, fun q a b => ?_, fun q p a b a' b' => ?_, fun p t a b a' b' => ?_, fun p a b => ?_, fun p a b => ?_, fun j a b => by omega⟩
    · rw [gl (1 + 2) q (by omega), c7 q a b]; omega
    · rw [gl (1 + 4 + q) p (by omega), c8 q p a b a' b']; omega
    · rw [gl (1 + 10 + p) t (by omega), c9 p t a b a' b']; omega
    · rw [sum_zero (fun t a' b' => by rw [gl (1 + 10 + p) t (by omega)]; exact c9 p t a b a' (by omega))]; omega
    · rw [gl (1 + 15) p (by omega), c10 p a b]; omega
  · unfold TR
    simp only [Int.zero_add]
    refine ⟨by omega, by omega, by omega, by omega, by omega, by omega, fun t a b => by omega, fun q a b => ?_, fun q p a b a' b' => ?_, fun p t a b a' b' => ?_, fun p a b => ?_, fun j a b => by omega⟩
    · rw [gl (1 + 2) q (by omega), c7 q a b]; exact (q7 q a b).1
    · rw [gl (1 + 4 + q) p (by omega), c8 q p a b a' b', show (19 : Int) + 5 * p + q = 19 + (5 * p + q) by omega, q8 _ (by omega) (by omega)]; rfl
    · rw [gl (1 + 10 + p) t (by omega), c9 p t a b a' b', show (44 : Int) + 9 * p + t = 44 + (9 * p + t) by omega, q9 _ (by omega) (by omega)]
    · rw [gl (1 + 15) p (by omega), c10 p a b]; exact (q7 p a b).2
  · intro i a b
    rw [gz 129 i (by omega), gl 40 i (by omega), d1]
    exact ⟨rfl, Or.inl rfl, fun z => absurd z (by decide)⟩
  · unfold RN
    simp (disch := omega) only [gl, gz, g6, d0]
    decide
  · unfold RT
    rw [g6, gl 41 1 (by omega), d2]
    exact ⟨⟨rfl, by omega, by omega⟩, fun i a b => by omega⟩
  · exact ⟨fun p a b => by rw [gl _ _ (by omega)]; exact d3 p a b, fun p q a b _ _ => by rw [gl _ _ (by omega)]; exact d5 _ _ (by omega) (by omega)⟩
  · unfold RC
    rw [gl 0 13 (by omega), gl 48 5 (by omega), gl 84 4 (by omega), d0, d4, d6]
    exact ⟨by decide, ⟨by decide, fun z => absurd z (by decide)⟩, by decide, fun z => absurd z (by decide)⟩
