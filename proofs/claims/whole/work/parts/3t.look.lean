-- needs: 3s
section SIM
variable {CL CP : fx_H → Prop} {k : Int} {h : fx_H}
theorem KPsit {h h' : fx_H} (e : ∀ a i : Int, ¬ (a = 43 ∧ (i = 4 ∨ i = 5)) → a ≠ 44 → a ≠ 45 → h' a i = h a i) : ∀ a i : Int, KP a i → h' a i = h a i := fun a i z => by
  unfold KP at z
  exact e a i (by omega) (by omega) (by omega)
theorem RSsit {h h' : fx_H} (e : ∀ a i : Int, ¬ (a = 43 ∧ (i = 4 ∨ i = 5)) → a ≠ 44 → a ≠ 45 → h' a i = h a i) (r : RS h) : RS h' := RS_congr (fun a i z => e a i (by omega) (by omega) (by omega)) r
theorem TVsit {h h' : fx_H} (e : ∀ a i : Int, ¬ (a = 43 ∧ (i = 4 ∨ i = 5)) → a ≠ 44 → a ≠ 45 → h' a i = h a i) (r : TV 1 h) : TV 1 h' := TV_congr (fun a i _ _ => e a i (by omega) (by omega) (by omega)) r
/-- class and reference refuse alike -/
theorem sm_bad2 (hL : FrL CL) (hP : FrP CP) (R : Rel CL CP k h) {x : Option (Int × fx_H)} {y : fx_H → Option (Int × fx_H)} {z : Int} (hx : x = some (z, fx_up h 0 10 (fx_w (h 0 10 + 1)))) (hy : ∀ g : fx_H, (∀ a i : Int, a ≠ 0 → g a i = h a i) → y g = some (z, fx_up g 130 0 (fx_w (g 130 0 + 1)))) : Sm CL CP k x y := sm_bad (FrL_C hL) (FrP_C hP) R hx hy
theorem sim_at (hL : FrL CL) (hP : FrP CP) (R : Rel CL CP k h) (t : Int) : Sm CL CP k (f_X5_at FU La_167 0 t h) (f_X6_at FU La_167 126 t) := by
  obtain ⟨RV, RR, R3, R4, R5, R6, R7⟩ := id R
  have RV' := RV
  have RR' := RR
  unfold TV at RV'
  unfold TR at RR'
  obtain ⟨⟨v1, v1'⟩, ⟨v2, v2'⟩, ⟨v3, v3'⟩, ⟨v4, v4'⟩, ⟨v5, v5'⟩, ⟨v6, v6'⟩, v7, v8, v9, v10, v11, v12, v13⟩ := RV'
  obtain ⟨r1, r2, r3, r4, r5, r6, r7, r8, r9, r10, r11, r12⟩ := RR'
  simp only [Int.zero_add] at r1 r2 r3 r4 r5 r6 r7 r8 r9 r10 r11 r12
  obtain ⟨⟨k1, k2⟩, -⟩ := id R7
  by_cases c : 0 ≤ t ∧ t < h 1 0
  · refine sm_look hL hP R (smT h (h 1 1) (-1) t) ?_ (fun g r2 rs kp => ?_)
    · unfold f_X5_at
      simp only [lb_tg_0_0, lb_tg_0_5, lb_tg_43_0]
      rw [ev_hasThing v1 v1', Option.bind_some, if_pos c, if_neg (by decide)]
      obtain ⟨h1, e1, e2, c1, c2, c3, c4⟩ := sit_ok (line := h 1 1) (fr := -1) RV R6
      rw [e1, Option.bind_some, rd44 c.1 (by omega), Option.bind_some]
      exact Ret.ok ⟨c4 t (Or.inl c), KPsit e2, RSsit e2 R6⟩
    · unfold f_X6_at
      have g0 : g 127 0 = h 1 0 := r2.1
      rw [ev_isThing (by omega) (by omega), g0, Option.bind_some, if_pos c, if_neg (by decide)]
      obtain ⟨g1, e1, e2, e3⟩ := layNow_ok RV r2
      rw [e1, Option.bind_some, lb_tg_126_7, rd132 c.1 (by omega), Option.bind_some]
      exact Ret.ok ⟨(e3 t c.1 c.2).1, fun a i z => e2 a i (by omega) (by omega)⟩
  · refine sm_bad2 hL hP R (z := -2) ?_ (fun g hg => ?_)
    · unfold f_X5_at
      simp only [lb_tg_0_0]
      rw [ev_hasThing v1 v1', Option.bind_some, if_neg c, if_pos rfl]
      rfl
    · unfold f_X6_at
      have g0 : g 127 0 = h 1 0 := by rw [hg 127 0 (by omega)]; exact r1
      rw [ev_isThing (by omega) (by omega), g0, Option.bind_some, if_neg c, if_pos rfl, ev_bad]
      rfl
/-- the look of person and hour -/
theorem ph_cl {h : fx_H} {p q : Int} (v3 : 1 ≤ h 1 2) (v3' : h 1 2 ≤ 5) (v4 : 1 ≤ h 1 3) (v4' : h 1 3 ≤ 5) : ((f_X4_hasPerson FU La_167 1 p h).bind fun v5 => if v5 = 0 then some true else (f_X4_hasHour FU La_167 1 q h).bind fun v8 => if v8 = 0 then some true else some false) = some (decide (¬ ((0 ≤ p ∧ p < h 1 2) ∧ (0 ≤ q ∧ q < h 1 3)))) := by
  rw [ev_hasPerson v3 v3', Option.bind_some]
  by_cases c1 : 0 ≤ p ∧ p < h 1 2
  · rw [if_pos c1, if_neg (by decide), ev_hasHour v4 v4', Option.bind_some]
    by_cases c2 : 0 ≤ q ∧ q < h 1 3
    · rw [if_pos c2, if_neg (by decide), decide_eq_false (by simp [c1, c2])]
    · rw [if_neg c2, if_pos rfl, decide_eq_true (by simp only [c2, and_false, not_false_eq_true])]
  · rw [if_neg c1, if_pos rfl, decide_eq_true (by simp only [c1, false_and, not_false_eq_true])]
theorem ph_rf {g : fx_H} {p q : Int} (v3 : 1 ≤ g 127 10) (v3' : g 127 10 ≤ 5) (v4 : 1 ≤ g 127 11) (v4' : g 127 11 ≤ 5) : ((f_X6_isOne FU La_167 126 p g).bind fun v5 => if v5 = 0 then some true else (f_X6_isHour FU La_167 126 q g).bind fun v8 => if v8 = 0 then some true else some false) = some (decide (¬ ((0 ≤ p ∧ p < g 127 10) ∧ (0 ≤ q ∧ q < g 127 11)))) := by
  rw [ev_isOne v3 v3', Option.bind_some]
  by_cases c1 : 0 ≤ p ∧ p < g 127 10
  · rw [if_pos c1, if_neg (by decide), ev_isHour v4 v4', Option.bind_some]
    by_cases c2 : 0 ≤ q ∧ q < g 127 11
    · rw [if_pos c2, if_neg (by decide), decide_eq_false (by simp [c1, c2])]
    · rw [if_neg c2, if_pos rfl, decide_eq_true (by simp only [c2, and_false, not_false_eq_true])]
  · rw [if_neg c1, if_pos rfl, decide_eq_true (by simp only [c1, false_and, not_false_eq_true])]
theorem kd_rf {h g : fx_H} (r : TR2 h g) {n : Int} (n5 : n ≤ 5) : ∀ hr : Int, 0 ≤ hr → hr < n → g 127 (14 + hr) = kdF h hr := fun hr a b => by
  unfold kdF
  rw [if_pos (by omega)]
  exact r.2.2.2.2.2.2.1 hr a (by omega)
/-- the reference, its court sitting and what is done in hand -/
theorem rf_pays {h g : fx_H} {sm : Int → Int} {p hr : Int} (v : TV 1 h) (r : TR2 h g) (s9 : sm 9 = -1) (hs : SOK sm (h 1 0) g) (hh : HOK (h 1 0) 5 g) (p0 : 0 ≤ p) (p1 : p < h 1 2) (r0 : 0 ≤ hr) (r5 : hr < 5) : f_X6_paysOf FU La_167 126 p hr g = some (FI sm (kdF h hr) (hn g hr) (AH (hn g) hr) (h 1 2) (h 1 4) p (hn g hr p)) := by
  have rk := kd_rf r (Int.le_refl 5)
  unfold TV at v
  obtain ⟨⟨v1, v1'⟩, ⟨v2, v2'⟩, ⟨v3, v3'⟩, ⟨v4, v4'⟩, ⟨v5, v5'⟩, -⟩ := v
  exact ev_paysOf v1' v3' r.2.2.1 r.2.2.2.2.1 (rk hr r0 r5) s9 hs (HOK_le v3' hh) p0 p1 r0 r5 ⟨v5, v5'⟩
theorem rf_paysIn {h g : fx_H} {sm : Int → Int} {p n : Int} (v : TV 1 h) (r : TR2 h g) (s9 : sm 9 = -1) (hs : SOK sm (h 1 0) g) (hh : HOK (h 1 0) 5 g) (p0 : 0 ≤ p) (p1 : p < h 1 2) (n0 : 0 ≤ n) (n5 : n ≤ 5) : f_X6_paysIn FU La_167 126 p n g = some (PI sm (kdF h) (hn g) (AH (hn g)) (h 1 2) (h 1 4) p n) := by
  have rk := kd_rf r n5
  unfold TV at v
  obtain ⟨⟨v1, v1'⟩, ⟨v2, v2'⟩, ⟨v3, v3'⟩, ⟨v4, v4'⟩, ⟨v5, v5'⟩, -⟩ := v
  exact ev_paysIn v1' v3' r.2.2.1 r.2.2.2.2.1 rk s9 hs (HOK_le v3' hh) p0 p1 n0 n5 ⟨v5, v5'⟩
theorem rf_allIn {h g : fx_H} {sm : Int → Int} {n : Int} (v : TV 1 h) (r : TR2 h g) (s9 : sm 9 = -1) (hs : SOK sm (h 1 0) g) (hh : HOK (h 1 0) 5 g) (n0 : 0 ≤ n) (n5 : n ≤ 5) : f_X6_allIn FU La_167 126 n g = some (AI sm (kdF h) (hn g) (AH (hn g)) (h 1 2) (h 1 4) n) := by
  have rk := kd_rf r n5
  unfold TV at v
  obtain ⟨⟨v1, v1'⟩, ⟨v2, v2'⟩, ⟨v3, v3'⟩, ⟨v4, v4'⟩, ⟨v5, v5'⟩, -⟩ := v
  exact ev_allIn v1' v3' r.2.2.1 r.2.2.2.2.1 rk s9 hs (HOK_le v3' hh) n0 n5 ⟨v5, v5'⟩
theorem FI_day {sm : Int → Int} {k P ri p t : Int} {D D' : Int → Int → Int} {hr n : Int} (r0 : 0 ≤ hr) (r1 : hr < n) (e : ∀ hr q : Int, 0 ≤ hr → hr < n → 0 ≤ q → q < P → ¬ q = p → D hr q = D' hr q) (hri : 0 ≤ ri ∧ ri < P) : FI sm k (D hr) (AH D hr) P ri p t = FI sm k (D' hr) (AH D' hr) P ri p t := by
  refine FI_congr rfl (fun q x y z => by rw [e hr q r0 r1 x y z]; exact ⟨rfl, rfl⟩) (fun q x y z => ?_) hri
  unfold AH
  by_cases c : 0 < hr
  · rw [if_pos c, if_pos c, e (hr - 1) q (by omega) (by omega) x y z]
  · rw [if_neg c, if_neg c]
theorem sim_pays (hL : FrL CL) (hP : FrP CP) (R : Rel CL CP k h) (p q : Int) : Sm CL CP k (f_X5_pays FU La_167 0 p q h) (f_X6_pays FU La_167 126 p q) := by
  obtain ⟨RV, RR, R3, R4, R5, R6, R7⟩ := id R
  have RV' := RV
  have RR' := RR
  unfold TV at RV'
  unfold TR at RR'
  obtain ⟨⟨v1, v1'⟩, ⟨v2, v2'⟩, ⟨v3, v3'⟩, ⟨v4, v4'⟩, ⟨v5, v5'⟩, ⟨v6, v6'⟩, v7, v8, v9, v10, v11, v12, v13⟩ := RV'
  obtain ⟨r1, r2, r3, r4, r5, r6, r7, r8, r9, r10, r11, r12⟩ := RR'
  simp only [Int.zero_add] at r1 r2 r3 r4 r5 r6 r7 r8 r9 r10 r11 r12
  obtain ⟨⟨k1, k2⟩, -⟩ := id R7
  by_cases c : (0 ≤ p ∧ p < h 1 2) ∧ (0 ≤ q ∧ q < h 1 3)
  · refine sm_look hL hP R (FI (smT h (h 1 1) (-1)) (kdF h q) (dF h 4 q) (AH (dF h 4) q) (h 1 2) (h 1 4) p (dF h 4 q p)) ?_ (fun g r2 rs kp => ?_)
    · unfold f_X5_pays
      simp only [lb_tg_0_0, lb_tg_0_5]
      rw [ph_cl v3 v3' v4 v4', Option.bind_some, decide_eq_false (not_not_intro c), if_neg (by decide)]
      obtain ⟨h1, e1, e2, cc⟩ := sit_ok (line := h 1 1) (fr := -1) RV R6
      have vv := TVsit e2 RV
      have hk : kdF h1 = kdF h := by funext x; unfold kdF; rw [e2 _ _ (by omega) (by omega) (by omega)]
      have hd : ∀ r s : Int, 0 ≤ r → r < 5 → dF h1 4 r s = dF h 4 r s := fun r s a b => by unfold dF; exact e2 _ _ (by omega) (by omega) (by omega)
      have D := DOK_congr (d := 4) (h' := h1) (fun a i z z' => e2 a i (by omega) (by omega) (by omega)) (DOK_town RV)
      have D1 := D q p c.2.1 (by omega) c.1.1 (by omega)
      rw [e1, Option.bind_some, tc_tg_8 TC_1, show (1 : Int) + 3 = 4 from rfl, dc_rr dc_4 c.2.1 (by omega), Option.bind_some, rdl (dc_ln dc_4 c.2.1 (by omega)) c.1.1 (by omega), Option.bind_some, ev_fineIn vv cc D (by omega) v3' v1' c.2.1 (by omega) (by omega) ⟨v5, v5'⟩, Option.bind_some]
      refine Ret.ok ⟨?_, KPsit e2, RSsit e2 R6⟩
      show FI _ (kdF h1 q) _ _ _ _ _ (dF h1 4 q p) = _
      rw [hk, hd q p c.2.1 (by omega)]
      exact FI_day (n := 5) c.2.1 (by omega) (fun r s a b _ _ _ => hd r s a b) ⟨v5, v5'⟩
    · unfold f_X6_pays
      have g2 : g 127 10 = h 1 2 := r2.2.2.1
      have g3 : g 127 11 = h 1 3 := r2.2.2.2.1
      rw [ph_rf (by omega) (by omega) (by omega) (by omega), g2, g3, Option.bind_some, decide_eq_false (not_not_intro c), if_neg (by decide)]
      obtain ⟨g1, e1, e2, e3⟩ := layNow_ok RV r2
      obtain ⟨g4, e4, e5, e6⟩ := takeDone_ok (g := g1)
      have r21 : TR2 h g1 := TR2_congr (fun i => e2 _ _ (by omega) (by omega)) r2
      have r22 : TR2 h g4 := TR2_congr (fun i => e5 _ _ (by omega)) r21
      obtain ⟨hh1, hh2⟩ := hand_done RV r21 e6
      rw [e1, Option.bind_some, e4, Option.bind_some, rf_pays RV r22 (SM_9 _ _) (SOK_congr (fun i => e5 _ _ (by omega)) e3) hh1 c.1.1 c.1.2 c.2.1 (by omega), Option.bind_some]
      refine Ret.ok ⟨?_, fun a i z => by show g4 a i = g a i; rw [e5 a i (by omega), e2 a i (by omega) (by omega)]⟩
      show FI (smT h (h 1 1) (-1)) _ _ _ _ _ _ (hn g4 q p) = _
      rw [hh2 q p c.2.1 (by omega) c.1.1 (by omega)]
      exact FI_day (n := 5) c.2.1 (by omega) (fun r s a b a' b' _ => hh2 r s a b a' (by omega)) ⟨v5, v5'⟩
  · refine sm_bad2 hL hP R (z := -2) ?_ (fun g hg => ?_)
    · unfold f_X5_pays
      simp only [lb_tg_0_0]
      rw [ph_cl v3 v3' v4 v4', Option.bind_some, decide_eq_true c, if_pos rfl]
      rfl
    · unfold f_X6_pays
      have g2 : g 127 10 = h 1 2 := by rw [hg 127 10 (by omega)]; exact r3
      have g3 : g 127 11 = h 1 3 := by rw [hg 127 11 (by omega)]; exact r4
      rw [ph_rf (by omega) (by omega) (by omega) (by omega), g2, g3, Option.bind_some, decide_eq_true c, if_pos rfl, ev_bad]
      rfl
/-- all fines, of the class -/
theorem cl_all {h : fx_H} (v : TV 1 h) (rs : RS h) (fr : Int) : Ret (f_X5_allFines FU La_167 0 fr h) (fun r => r.1 = AI (smT h (h 1 1) fr) (kdF h) (dF h 4) (AH (dF h 4)) (h 1 2) (h 1 4) (h 1 3) ∧ ∀ a i : Int, ¬ (a = 43 ∧ (i = 4 ∨ i = 5)) → a ≠ 44 → a ≠ 45 → r.2 a i = h a i) := by
  have vv := v
  unfold TV at vv
  obtain ⟨⟨v1, v1'⟩, ⟨v2, v2'⟩, ⟨v3, v3'⟩, ⟨v4, v4'⟩, ⟨v5, v5'⟩, -⟩ := vv
  unfold f_X5_allFines
  simp only [lb_tg_0_0, lb_tg_0_5]
  obtain ⟨h1, e1, e2, cc⟩ := sit_ok (line := h 1 1) (fr := fr) v rs
  have hk : kdF h1 = kdF h := by funext x; unfold kdF; rw [e2 _ _ (by omega) (by omega) (by omega)]
  have hd : ∀ r s : Int, 0 ≤ r → r < 5 → dF h1 4 r s = dF h 4 r s := fun r s a b => by unfold dF; exact e2 _ _ (by omega) (by omega) (by omega)
  have D := DOK_congr (d := 4) (h' := h1) (fun a i z z' => e2 a i (by omega) (by omega) (by omega)) (DOK_town v)
  rw [e1, Option.bind_some, tc_tg_8 TC_1, show (1 : Int) + 3 = 4 from rfl, e2 1 3 (by omega) (by omega) (by omega), ev_finesOf (TVsit e2 v) dc_4 cc D (by omega) v3' v1' (by omega) v4' ⟨v5, v5'⟩, Option.bind_some, hk]
  exact Ret.ok ⟨AI_congr (fun r s a b _ _ => hd r s a (by omega)) ⟨v5, v5'⟩, e2⟩
theorem sim_all (hL : FrL CL) (hP : FrP CP) (R : Rel CL CP k h) : Sm CL CP k (f_X5_all FU La_167 0 h) (f_X6_all FU La_167 126) := by
  obtain ⟨RV, RR, R3, R4, R5, R6, R7⟩ := id R
  have RV' := RV
  have RR' := RR
  unfold TV at RV'
  unfold TR at RR'
  obtain ⟨⟨v1, v1'⟩, ⟨v2, v2'⟩, ⟨v3, v3'⟩, ⟨v4, v4'⟩, ⟨v5, v5'⟩, ⟨v6, v6'⟩, v7, v8, v9, v10, v11, v12, v13⟩ := RV'
  obtain ⟨r1, r2, r3, r4, r5, r6, r7, r8, r9, r10, r11, r12⟩ := RR'
  simp only [Int.zero_add] at r1 r2 r3 r4 r5 r6 r7 r8 r9 r10 r11 r12
  obtain ⟨⟨k1, k2⟩, -⟩ := id R7
  refine sm_look hL hP R (AI (smT h (h 1 1) (-1)) (kdF h) (dF h 4) (AH (dF h 4)) (h 1 2) (h 1 4) (h 1 3)) ?_ (fun g r2 rs kp => ?_)
  · unfold f_X5_all
    obtain ⟨⟨a, h1⟩, e1, e2, e3⟩ := cl_all RV R6 (-1)
    rw [e1, Option.bind_some]
    exact Ret.ok ⟨e2, KPsit e3, RSsit e3 R6⟩
  · unfold f_X6_all
    obtain ⟨g1, e1, e2, e3⟩ := layNow_ok RV r2
    obtain ⟨g4, e4, e5, e6⟩ := takeDone_ok (g := g1)
    have r21 : TR2 h g1 := TR2_congr (fun i => e2 _ _ (by omega) (by omega)) r2
    have r22 : TR2 h g4 := TR2_congr (fun i => e5 _ _ (by omega)) r21
    obtain ⟨hh1, hh2⟩ := hand_done RV r21 e6
    rw [e1, Option.bind_some, e4, Option.bind_some, ev_hours, Option.bind_some, r22.2.2.2.1, rf_allIn RV r22 (SM_9 _ _) (SOK_congr (fun i => e5 _ _ (by omega)) e3) hh1 (by omega) v4', Option.bind_some]
    refine Ret.ok ⟨?_, fun a i z => by show g4 a i = g a i; rw [e5 a i (by omega), e2 a i (by omega) (by omega)]⟩
    exact AI_congr (fun r s a b a' b' => hh2 r s a (by omega) a' (by omega)) ⟨v5, v5'⟩
theorem sim_name (hL : FrL CL) (hP : FrP CP) (R : Rel CL CP k h) (t : Int) : Sm CL CP k (f_X5_name FU La_167 0 t h) (f_X6_name FU La_167 126 t) := by
  obtain ⟨RV, RR, R3, R4, R5, R6, R7⟩ := id R
  have RV' := RV
  have RR' := RR
  unfold TV at RV'
  unfold TR at RR'
  obtain ⟨⟨v1, v1'⟩, ⟨v2, v2'⟩, ⟨v3, v3'⟩, ⟨v4, v4'⟩, ⟨v5, v5'⟩, ⟨v6, v6'⟩, v7, v8, v9, v10, v11, v12, v13⟩ := RV'
  obtain ⟨r1, r2, r3, r4, r5, r6, r7, r8, r9, r10, r11, r12⟩ := RR'
  simp only [Int.zero_add] at r1 r2 r3 r4 r5 r6 r7 r8 r9 r10 r11 r12
  obtain ⟨⟨k1, k2⟩, -⟩ := id R7
  by_cases c : 0 ≤ t ∧ t < h 1 0
  · have x1 := AI_b (sm := smT h (h 1 1) (-1)) (kd := kdF h) (D := dF h 4) (A := AH (dF h 4)) (P := h 1 2) (ri := h 1 4) (n := h 1 3) (by omega) v3' (by omega) v4'
    have x2 := AI_b (sm := smT h (h 1 1) t) (kd := kdF h) (D := dF h 4) (A := AH (dF h 4)) (P := h 1 2) (ri := h 1 4) (n := h 1 3) (by omega) v3' (by omega) v4'
    refine sm_look hL hP R (AI (smT h (h 1 1) (-1)) (kdF h) (dF h 4) (AH (dF h 4)) (h 1 2) (h 1 4) (h 1 3) - AI (smT h (h 1 1) t) (kdF h) (dF h 4) (AH (dF h 4)) (h 1 2) (h 1 4) (h 1 3)) ?_ (fun g r2 rs kp => ?_)
    · unfold f_X5_name
      simp only [lb_tg_0_0]
      rw [ev_hasThing v1 v1', Option.bind_some, if_pos c, if_neg (by decide)]
      obtain ⟨⟨a, h1⟩, e1, e2, e3⟩ := cl_all RV R6 (-1)
      simp only at e2 e3
      obtain ⟨⟨a', h2⟩, e4, e5, e6⟩ := cl_all (TVsit e3 RV) (RSsit e3 R6) t
      simp only at e5 e6
      have s1 : smT h1 (h1 1 1) t = smT h (h 1 1) t := by
        unfold smT
        rw [e3 1 1 (by omega) (by omega) (by omega), show h1 2 = h 2 from funext fun i => e3 2 i (by omega) (by omega) (by omega)]
      have hk : kdF h1 = kdF h := by funext x; unfold kdF; rw [e3 _ _ (by omega) (by omega) (by omega)]
      rw [s1, hk, e3 1 2 (by omega) (by omega) (by omega), e3 1 3 (by omega) (by omega) (by omega), e3 1 4 (by omega) (by omega) (by omega), AI_congr (D' := dF h 4) (fun r s a b _ _ => by unfold dF; exact e3 _ _ (by omega) (by omega) (by omega)) ⟨v5, v5'⟩] at e5
      rw [e1, Option.bind_some]
      simp only
      rw [e4, Option.bind_some]
      refine Ret.ok ⟨?_, fun a i z => by show h2 a i = h a i; rw [KPsit e6 a i z, KPsit e3 a i z], RSsit e6 (RSsit e3 R6)⟩
      simp only
      rw [e2, e5, wid (by omega) (by omega)]
    · unfold f_X6_name
      have g0 : g 127 0 = h 1 0 := r2.1
      rw [ev_isThing (by omega) (by omega), g0, Option.bind_some, if_pos c, if_neg (by decide)]
      obtain ⟨g1, e1, e2, e3⟩ := takeDone_ok (g := g)
      have r21 : TR2 h g1 := TR2_congr (fun i => e2 _ _ (by omega)) r2
      obtain ⟨hh1, hh2⟩ := hand_done RV r2 e3
      obtain ⟨g4, e4, e5, e6⟩ := layNow_ok RV r21
      have r22 : TR2 h g4 := TR2_congr (fun i => e5 _ _ (by omega) (by omega)) r21
      have n4 : hn g4 = hn g1 := by funext a b; unfold hn; rw [e5 _ _ (by omega) (by omega)]
      have H4 : HOK (h 1 0) 5 g4 := fun q hr a b a' b' => by rw [e5 _ _ (by omega) (by omega)]; exact hh1 q hr a b a' b'
      obtain ⟨g7, e7, e8, e9⟩ := layLine_ok (fr := t) RV r22 v2
      have r23 : TR2 h g7 := TR2_congr (fun i => e8 _ _ (by omega) (by omega)) r22
      have n7 : hn g7 = hn g1 := by rw [← n4]; funext a b; unfold hn; rw [e8 _ _ (by omega) (by omega)]
      have H7 : HOK (h 1 0) 5 g7 := fun q hr a b a' b' => by rw [e8 _ _ (by omega) (by omega)]; exact H4 q hr a b a' b'
      rw [e1, Option.bind_some, e4, Option.bind_some, ev_hours, Option.bind_some, r22.2.2.2.1, rf_allIn RV r22 (SM_9 _ _) e6 H4 (by omega) v4', Option.bind_some, lb_tg_126_0, rd127 (by omega) (by omega), Option.bind_some, r22.2.1, e7, Option.bind_some, ev_hours, Option.bind_some, r23.2.2.2.1, rf_allIn RV r23 (SM_9 _ _) e9 H7 (by omega) v4', Option.bind_some]
      refine Ret.ok ⟨?_, fun a i z => by show g7 a i = g a i; rw [e8 a i (by omega) (by omega), e5 a i (by omega) (by omega), e2 a i (by omega)]⟩
      show fx_w (_ - _) = _
      rw [n4, n7, AI_congr (D' := dF h 4) (fun r s a b a' b' => hh2 r s a (by omega) a' (by omega)) ⟨v5, v5'⟩, AI_congr (sm := SM (uF (h 2) t) (h 1 1)) (D' := dF h 4) (fun r s a b a' b' => hh2 r s a (by omega) a' (by omega)) ⟨v5, v5'⟩]
      exact wid (by unfold smT at x1 x2; omega) (by unfold smT at x1 x2; omega)
  · refine sm_bad2 hL hP R (z := -1000) ?_ (fun g hg => ?_)
    · unfold f_X5_name
      simp only [lb_tg_0_0]
      rw [ev_hasThing v1 v1', Option.bind_some, if_neg c, if_pos rfl]
      rfl
    · unfold f_X6_name
      have g0 : g 127 0 = h 1 0 := by rw [hg 127 0 (by omega)]; exact r1
      rw [ev_isThing (by omega) (by omega), g0, Option.bind_some, if_neg c, if_pos rfl, ev_bad]
      rfl
end SIM
