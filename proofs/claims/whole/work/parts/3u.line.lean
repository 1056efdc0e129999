-- needs: 3t
/-- a loop whose state bears a counter -/
theorem loop_ix {S E : Type} {step : S → Option (S ⊕ E)} (ix : S → Int) (inv : Int → S → Prop) (n : Int) {Fu : Nat} {i : Int} {s : S} {Q : E → Prop} (hF : (n - i).toNat < Fu) (hs : ix s = i) (hi : i ≤ n) (h0 : inv i s)
    (hb : ∀ (j : Int) (s : S), ix s = j → i ≤ j → j < n → inv j s → ∃ s', step s = some (.inl s') ∧ ix s' = j + 1 ∧ inv (j + 1) s') (he : ∀ s : S, ix s = n → inv n s → ∃ e, step s = some (.inr e) ∧ Q e) : Ret (fx_loop step Fu s) Q := by
  refine loop_ret (fun q => i ≤ ix q ∧ ix q ≤ n ∧ inv (ix q) q) (fun q => (n - ix q).toNat) (fun q hq => ?_) Fu s ⟨by omega, by omega, by rw [hs]; exact h0⟩ (by rw [hs]; exact hF)
  obtain ⟨h1, h2, h3⟩ := hq
  by_cases hj : ix q < n
  · obtain ⟨s', e, e2, hs'⟩ := hb (ix q) q rfl h1 hj h3
    exact Or.inl ⟨s', e, ⟨by omega, by omega, by rw [e2]; exact hs'⟩, by omega⟩
  · have : ix q = n := by omega
    obtain ⟨e, e1, e2⟩ := he q this (by rw [this] at h3; exact h3)
    exact Or.inr ⟨e, e1, e2⟩
/-- the first of the least; the first of the most -/
def am (b0 : Int) (f : Int → Int) : Nat → Int × Int
  | 0 => (b0, 1000000)
  | n + 1 => if f n < (am b0 f n).2 then ((n : Int), f n) else am b0 f n
def ax (f : Int → Int) : Nat → Int × Int
  | 0 => (-1, 0)
  | n + 1 => if (ax f n).2 < f n then ((n : Int), f n) else ax f n
def mn (f : Int → Int) : Nat → Int
  | 0 => 1000000
  | n + 1 => if f n < mn f n then f n else mn f n
theorem am_s (b0 : Int) (f : Int → Int) {j : Int} (h : 0 ≤ j) : am b0 f (j + 1).toNat = if f j < (am b0 f j.toNat).2 then (j, f j) else am b0 f j.toNat := by
  rw [show (j + 1).toNat = j.toNat + 1 by omega]
  show (if f (j.toNat : Nat) < (am b0 f j.toNat).2 then (((j.toNat : Nat) : Int), f (j.toNat : Nat)) else am b0 f j.toNat) = _
  rw [show ((j.toNat : Nat) : Int) = j by omega]
theorem ax_s (f : Int → Int) {j : Int} (h : 0 ≤ j) : ax f (j + 1).toNat = if (ax f j.toNat).2 < f j then (j, f j) else ax f j.toNat := by
  rw [show (j + 1).toNat = j.toNat + 1 by omega]
  show (if (ax f j.toNat).2 < f (j.toNat : Nat) then (((j.toNat : Nat) : Int), f (j.toNat : Nat)) else ax f j.toNat) = _
  rw [show ((j.toNat : Nat) : Int) = j by omega]
theorem mn_s (f : Int → Int) {j : Int} (h : 0 ≤ j) : mn f (j + 1).toNat = if f j < mn f j.toNat then f j else mn f j.toNat := by
  rw [show (j + 1).toNat = j.toNat + 1 by omega]
  show (if f (j.toNat : Nat) < mn f j.toNat then f (j.toNat : Nat) else mn f j.toNat) = _
  rw [show ((j.toNat : Nat) : Int) = j by omega]
theorem sumI_cut {f : Int → Int} {m : Nat} : ∀ {n : Nat}, m ≤ n → (∀ i : Int, m ≤ i → i < n → f i = 0) → sumI n f = sumI m f
  | 0, h, _ => by rw [show m = 0 by omega]
  | n + 1, h, z => by
    by_cases c : m = n + 1
    · rw [c]
    · rw [sumI_succ, sumI_cut (n := n) (by omega) (fun i a b => z i a (by omega)), z n (by omega) (by omega), Int.add_zero]
section SIM
variable {CL CP : fx_H → Prop} {k : Int} {h : fx_H}
theorem ev_finesOfOne {h : fx_H} {sm : Int → Int} {p T P ri n : Int} (v : TV 1 h) (hC : CT sm T P ri h) (hD : DOK T h 4) (P5 : P ≤ 5) (T9 : T ≤ 9) (hn : h 1 3 = n) (n0 : 0 ≤ n) (n5 : n ≤ 5) (p0 : 0 ≤ p) (p1 : p < P) (hri : 0 ≤ ri ∧ ri < P) : f_X5_finesOfOne FU La_167 0 p h = some (PI sm (kdF h) (dF h 4) (AH (dF h 4)) P ri p n) := by
  unfold f_X5_finesOfOne
  rw [sloop (f := fun hr => FI sm (kdF h hr) (dF h 4 hr) (AH (dF h 4) hr) P ri p (dF h 4 hr p)) n0 (by omega) (fun i _ _ => ⟨(FI_b p0 p1 P5).1, by have := (FI_b (sm := sm) (k := kdF h i) (nw := dF h 4 i) (ah := AH (dF h 4) i) (ri := ri) (t := dF h 4 i p) p0 p1 P5).2; omega⟩) (fun z i z0 z1 i0 i1 => by
    have := FI_b (sm := sm) (k := kdF h i) (nw := dF h 4 i) (ah := AH (dF h 4) i) (ri := ri) (t := dF h 4 i p) p0 p1 P5
    have D1 := hD i p i0 (by omega) p0 (by omega)
    unfold s_X5_finesOfOne_1
    simp only [lb_tg_0_0, lb_tg_0_5, tc_tg_8 TC_1]
    rw [hn, if_pos i1, show (1 : Int) + 3 = 4 from rfl, dc_rr dc_4 i0 (by omega), Option.bind_some, rdl (dc_ln dc_4 i0 (by omega)) p0 (by omega), Option.bind_some, ev_fineIn v hC hD (by omega) P5 T9 i0 (by omega) (by omega) hri, Option.bind_some]
    show some (Sum.inl (fx_w (z + FI sm (kdF h i) (dF h 4 i) (AH (dF h 4) i) P ri p (dF h 4 i p)), fx_w (i + 1))) = _
    rw [wid (by omega) (by omega), wid (by omega) (by omega)]) (fun z => by
    unfold s_X5_finesOfOne_1
    simp only [lb_tg_0_0]
    rw [hn, if_neg (by omega)])]
  rfl
theorem sim_line (hL : FrL CL) (hP : FrP CP) (R : Rel CL CP k h) (p : Int) : Sm CL CP k (f_X5_line FU La_167 0 p h) (f_X6_line FU La_167 126 p) := by
  obtain ⟨RV, RR, R3, R4, R5, R6, R7⟩ := id R
  have RV' := RV
  have RR' := RR
  unfold TV at RV'
  unfold TR at RR'
  obtain ⟨⟨v1, v1'⟩, ⟨v2, v2'⟩, ⟨v3, v3'⟩, ⟨v4, v4'⟩, ⟨v5, v5'⟩, ⟨v6, v6'⟩, v7, v8, v9, v10, v11, v12, v13⟩ := RV'
  obtain ⟨r1, r2, r3, r4, r5, r6, r7, r8, r9, r10, r11, r12⟩ := RR'
  simp only [Int.zero_add] at r1 r2 r3 r4 r5 r6 r7 r8 r9 r10 r11 r12
  obtain ⟨⟨k1, k2⟩, -⟩ := id R7
  by_cases c : 0 ≤ p ∧ p < h 1 2
  · generalize hf : (fun j : Int => PI (smT h j (-1)) (kdF h) (dF h 4) (AH (dF h 4)) (h 1 2) (h 1 4) p (h 1 3)) = f
    refine sm_look hL hP R (am 0 f (Int.toNat 5)).1 ?_ (fun g r2 rs kp => ?_)
    · unfold f_X5_line
      simp only [lb_tg_0_0]
      rw [ev_hasPerson v3 v3', Option.bind_some, if_pos c, if_neg (by decide)]
      refine Ret.bind (Ret.mono (loop_ix (fun s => s.2.2.1) (fun j s => (s.1, s.2.1) = am 0 f j.toNat ∧ ∀ a i : Int, ¬ (a = 43 ∧ (i = 4 ∨ i = 5)) → a ≠ 44 → a ≠ 45 → s.2.2.2 a i = h a i) 5 (i := 0) (Q := fun e => e.1 = (am 0 f (Int.toNat 5)).1 ∧ ∀ a i : Int, ¬ (a = 43 ∧ (i = 4 ∨ i = 5)) → a ≠ 44 → a ≠ 45 → e.2.2.2 a i = h a i) (FU_gt (by omega)) rfl (by omega) ⟨rfl, fun _ _ _ _ _ => rfl⟩ (fun j s ej b1 b2 ⟨i1, i2⟩ => ?_) (fun s es ⟨i1, i2⟩ => ?_)) (fun r hr => ?_))
      · obtain ⟨b, l, ln, s⟩ := s
        simp only at ej i1 i2
        subst ej
        unfold s_X5_line_1
        simp only [lb_tg_0_0, lb_tg_0_5]
        have vs := TVsit i2 RV
        have s2 : s 2 = h 2 := funext fun i => i2 2 i (by omega) (by omega) (by omega)
        obtain ⟨h1, e1, e2, cc⟩ := sit_ok (line := ln) (fr := -1) vs (RSsit i2 R6)
        have e3 : ∀ a i : Int, ¬ (a = 43 ∧ (i = 4 ∨ i = 5)) → a ≠ 44 → a ≠ 45 → h1 a i = h a i := fun a i x y z => by rw [e2 a i x y z, i2 a i x y z]
        have smE : smT s ln (-1) = smT h ln (-1) := by unfold smT; rw [s2]
        rw [smE, i2 1 0 (by omega) (by omega) (by omega), i2 1 2 (by omega) (by omega) (by omega), i2 1 4 (by omega) (by omega) (by omega)] at cc
        have hk : kdF h1 = kdF h := by funext x; unfold kdF; rw [e3 _ _ (by omega) (by omega) (by omega)]
        have D := DOK_congr (d := 4) (h' := h1) (fun a i z z' => e3 a i (by omega) (by omega) (by omega)) (DOK_town RV)
        rw [if_pos (by omega), e1, Option.bind_some, ev_finesOfOne (TVsit e3 RV) cc D v3' v1' (e3 1 3 (by omega) (by omega) (by omega)) (by omega) v4' c.1 c.2 ⟨v5, v5'⟩, Option.bind_some, hk, PI_congr (D' := dF h 4) c.1 c.2 (fun r s a b _ _ => by unfold dF; exact e3 _ _ (by omega) (by omega) (by omega)) ⟨v5, v5'⟩]
        rw [show PI (smT h ln (-1)) (kdF h) (dF h 4) (AH (dF h 4)) (h 1 2) (h 1 4) p (h 1 3) = f ln by rw [← hf], wid (z := ln + 1) (by omega) (by omega), am_s 0 f b1, ← i1]
        simp only
        by_cases z : f ln < l
        · rw [if_pos z, if_pos z]; exact ⟨_, rfl, rfl, rfl, e3⟩
        · rw [if_neg z, if_neg z]; exact ⟨_, rfl, rfl, rfl, e3⟩
      · obtain ⟨b, l, ln, s⟩ := s
        simp only at es i1 i2
        subst es
        unfold s_X5_line_1
        simp only
        rw [if_neg (by omega)]
        exact ⟨_, rfl, by rw [← i1], i2⟩
      · obtain ⟨b, l, ln, s⟩ := r
        simp only at hr ⊢
        exact Ret.ok ⟨hr.1, KPsit hr.2, RSsit hr.2 R6⟩
    · unfold f_X6_line
      have g2 : g 127 10 = h 1 2 := r2.2.2.1
      rw [ev_isOne (by omega) (by omega), g2, Option.bind_some, if_pos c, if_neg (by decide)]
      obtain ⟨g1, e1, e2, e3⟩ := takeDone_ok (g := g)
      have r21 : TR2 h g1 := TR2_congr (fun i => e2 _ _ (by omega)) r2
      obtain ⟨hh1, hh2⟩ := hand_done RV r2 e3
      rw [e1, Option.bind_some]
      refine Ret.bind (Ret.mono (loop_ix (fun s => s.2.2.1) (fun j s => (s.1, s.2.1) = am 0 f j.toNat ∧ ∀ a i : Int, a ≠ 131 → a ≠ 132 → s.2.2.2 a i = g1 a i) 5 (i := 0) (Q := fun e => e.1 = (am 0 f (Int.toNat 5)).1 ∧ ∀ a i : Int, a ≠ 131 → a ≠ 132 → e.2.2.2 a i = g1 a i) (FU_gt (by omega)) rfl (by omega) ⟨rfl, fun _ _ _ _ => rfl⟩ (fun j s ej b1 b2 ⟨i1, i2⟩ => ?_) (fun s es ⟨i1, i2⟩ => ?_)) (fun r hr => ?_))
      · obtain ⟨b, l, ln, s⟩ := s
        simp only at ej i1 i2
        subst ej
        unfold s_X6_line_1
        simp only
        have rs1 : TR2 h s := TR2_congr (fun i => i2 _ _ (by omega) (by omega)) r21
        obtain ⟨g7, e7, e8, e9⟩ := layLine_ok (line := ln) (fr := -1) RV rs1 b1
        have r23 : TR2 h g7 := TR2_congr (fun i => e8 _ _ (by omega) (by omega)) rs1
        have n7 : hn g7 = hn g1 := by funext a b; unfold hn; rw [e8 _ _ (by omega) (by omega), i2 _ _ (by omega) (by omega)]
        have H7 : HOK (h 1 0) 5 g7 := fun q hr a b a' b' => by rw [e8 _ _ (by omega) (by omega), i2 _ _ (by omega) (by omega)]; exact hh1 q hr a b a' b'
        rw [if_pos b2, e7, Option.bind_some, ev_hours, Option.bind_some, r23.2.2.2.1, rf_paysIn RV r23 (SM_9 _ _) e9 H7 c.1 c.2 (by omega) v4', Option.bind_some, n7, PI_congr (D' := dF h 4) c.1 c.2 (fun r s a b a' b' => hh2 r s a (by omega) a' (by omega)) ⟨v5, v5'⟩]
        rw [show PI (SM (uF (h 2) (-1)) ln) (kdF h) (dF h 4) (AH (dF h 4)) (h 1 2) (h 1 4) p (h 1 3) = f ln by rw [← hf]; rfl, wid (z := ln + 1) (by omega) (by omega), am_s 0 f b1, ← i1]
        simp only
        by_cases z : f ln < l
        · simp only [if_pos z]; exact ⟨_, rfl, rfl, rfl, fun a i x y => by show g7 a i = g1 a i; rw [e8 a i x y, i2 a i x y]⟩
        · simp only [if_neg z]; exact ⟨_, rfl, rfl, rfl, fun a i x y => by show g7 a i = g1 a i; rw [e8 a i x y, i2 a i x y]⟩
      · obtain ⟨b, l, ln, s⟩ := s
        simp only at es i1 i2
        subst es
        unfold s_X6_line_1
        simp only
        rw [if_neg (by omega)]
        exact ⟨_, rfl, by rw [← i1], i2⟩
      · obtain ⟨b, l, ln, s⟩ := r
        simp only at hr ⊢
        exact Ret.ok ⟨hr.1, fun a i z => by show s a i = g a i; rw [hr.2 a i (by omega) (by omega), e2 a i (by omega)]⟩
  · refine sm_bad2 hL hP R (z := -2) ?_ (fun g hg => ?_)
    · unfold f_X5_line
      simp only [lb_tg_0_0]
      rw [ev_hasPerson v3 v3', Option.bind_some, if_neg c, if_pos rfl]
      rfl
    · unfold f_X6_line
      have g2 : g 127 10 = h 1 2 := by rw [hg 127 10 (by omega)]; exact r3
      rw [ev_isOne (by omega) (by omega), g2, Option.bind_some, if_neg c, if_pos rfl, ev_bad]
      rfl
theorem sim_better (hL : FrL CL) (hP : FrP CP) (R : Rel CL CP k h) (p q : Int) : Sm CL CP k (f_X5_better FU La_167 0 p q h) (f_X6_better FU La_167 126 p q) := by
  obtain ⟨RV, RR, R3, R4, R5, R6, R7⟩ := id R
  have RV' := RV
  have RR' := RR
  unfold TV at RV'
  unfold TR at RR'
  obtain ⟨⟨v1, v1'⟩, ⟨v2, v2'⟩, ⟨v3, v3'⟩, ⟨v4, v4'⟩, ⟨v5, v5'⟩, ⟨v6, v6'⟩, v7, v8, v9, v10, v11, v12, v13⟩ := RV'
  obtain ⟨r1, r2, r3, r4, r5, r6, r7, r8, r9, r10, r11, r12⟩ := RR'
  simp only [Int.zero_add] at r1 r2 r3 r4 r5 r6 r7 r8 r9 r10 r11 r12
  obtain ⟨⟨k1, k2⟩, -⟩ := id R7
  by_cases c : (0 ≤ p ∧ p < h 1 2) ∧ (0 ≤ q ∧ q < h 1 3)
  · generalize hf : (fun t : Int => FI (smT h (h 1 1) (-1)) (kdF h q) (dF h 4 q) (AH (dF h 4) q) (h 1 2) (h 1 4) p t) = f
    refine sm_look hL hP R (am (-1) f (h 1 0).toNat).1 ?_ (fun g r2 rs kp => ?_)
    · unfold f_X5_better
      simp only [lb_tg_0_0, lb_tg_0_5]
      rw [ph_cl v3 v3' v4 v4', Option.bind_some, decide_eq_false (not_not_intro c), if_neg (by decide)]
      obtain ⟨h1, e1, e2, cc⟩ := sit_ok (line := h 1 1) (fr := -1) RV R6
      have vv := TVsit e2 RV
      have hk : kdF h1 = kdF h := by funext x; unfold kdF; rw [e2 _ _ (by omega) (by omega) (by omega)]
      have D := DOK_congr (d := 4) (h' := h1) (fun a i z z' => e2 a i (by omega) (by omega) (by omega)) (DOK_town RV)
      rw [e1, Option.bind_some]
      refine Ret.bind (Ret.mono (loop_ix (fun s => s.2.2) (fun j s => (s.1, s.2.1) = am (-1) f j.toNat) (h 1 0) (i := 0) (Q := fun e => e.1 = (am (-1) f (h 1 0).toNat).1) (FU_gt (by omega)) rfl (by omega) rfl (fun j s ej b1 b2 i1 => ?_) (fun s es i1 => ?_)) (fun r hr => ?_))
      · obtain ⟨b, l, t⟩ := s
        simp only at ej i1
        subst ej
        unfold s_X5_better_1
        simp only [lb_tg_0_0, lb_tg_0_5]
        rw [e2 1 0 (by omega) (by omega) (by omega), if_pos b2, ev_fineIn vv cc D (by omega) v3' v1' c.2.1 (by omega) (Or.inl ⟨b1, b2⟩) ⟨v5, v5'⟩, Option.bind_some, hk, FI_day (D' := dF h 4) (n := 5) c.2.1 (by omega) (fun r s a b _ _ _ => by unfold dF; exact e2 _ _ (by omega) (by omega) (by omega)) ⟨v5, v5'⟩]
        rw [show FI (smT h (h 1 1) (-1)) (kdF h q) (dF h 4 q) (AH (dF h 4) q) (h 1 2) (h 1 4) p t = f t by rw [← hf], wid (z := t + 1) (by omega) (by omega), am_s (-1) f b1, ← i1]
        simp only
        by_cases z : f t < l
        · rw [if_pos z, if_pos z]; exact ⟨_, rfl, rfl, rfl⟩
        · rw [if_neg z, if_neg z]; exact ⟨_, rfl, rfl, rfl⟩
      · obtain ⟨b, l, t⟩ := s
        simp only at es i1
        subst es
        unfold s_X5_better_1
        simp only [lb_tg_0_0]
        rw [e2 1 0 (by omega) (by omega) (by omega), if_neg (by omega)]
        exact ⟨_, rfl, by rw [← i1]⟩
      · obtain ⟨b, l, t⟩ := r
        simp only at hr ⊢
        exact Ret.ok ⟨hr, KPsit e2, RSsit e2 R6⟩
    · unfold f_X6_better
      have g2 : g 127 10 = h 1 2 := r2.2.2.1
      have g3 : g 127 11 = h 1 3 := r2.2.2.2.1
      rw [ph_rf (by omega) (by omega) (by omega) (by omega), g2, g3, Option.bind_some, decide_eq_false (not_not_intro c), if_neg (by decide)]
      obtain ⟨g1, e1, e2, e3⟩ := layNow_ok RV r2
      obtain ⟨g4, e4, e5, e6⟩ := takeDone_ok (g := g1)
      have r21 : TR2 h g1 := TR2_congr (fun i => e2 _ _ (by omega) (by omega)) r2
      have r22 : TR2 h g4 := TR2_congr (fun i => e5 _ _ (by omega)) r21
      obtain ⟨hh1, hh2⟩ := hand_done RV r21 e6
      have s4 := SOK_congr (g' := g4) (fun i => e5 _ _ (by omega)) e3
      rw [e1, Option.bind_some, e4, Option.bind_some]
      refine Ret.bind (Ret.mono (loop_ix (fun s => s.2.2.1) (fun j s => (s.1, s.2.1) = am (-1) f j.toNat ∧ (∀ a i : Int, ¬ (a = 133 ∧ i = 5 * p + q) → s.2.2.2 a i = g4 a i) ∧ (-1 ≤ s.2.2.2 133 (5 * p + q) ∧ s.2.2.2 133 (5 * p + q) < h 1 0)) (h 1 0) (i := 0) (Q := fun e => e.1 = (am (-1) f (h 1 0).toNat).1 ∧ ∀ a i : Int, a ≠ 133 → e.2.2.2 a i = g4 a i) (FU_gt (by omega)) rfl (by omega) ⟨rfl, fun _ _ _ => rfl, hh1 p q c.1.1 (by omega) c.2.1 (by omega)⟩ (fun j s ej b1 b2 ⟨i1, i2, i3⟩ => ?_) (fun s es ⟨i1, i2, i3⟩ => ?_)) (fun r hr => ?_))
      · obtain ⟨b, l, t, s⟩ := s
        simp only at ej i1 i2 i3
        subst ej
        unfold s_X6_better_1
        simp only [lb_tg_126_8]
        rw [ev_things, Option.bind_some, i2 127 0 (by omega), r22.1, if_pos b2, wid (z := 5 * p) (by omega) (by omega), wid (z := 5 * p + q) (by omega) (by omega), wrl lb_ln_133 (by omega) (by omega), Option.bind_some]
        have u1 : ∀ a i : Int, ¬ (a = 133 ∧ i = 5 * p + q) → fx_up s 133 (5 * p + q) t a i = g4 a i := fun a i z => by rw [up_ne (by omega)]; exact i2 a i z
        have u2 : fx_up s 133 (5 * p + q) t 133 (5 * p + q) = t := up_eq rfl rfl
        generalize fx_up s 133 (5 * p + q) t = s' at u1 u2
        have r23 : TR2 h s' := TR2_congr (fun i => u1 _ _ (by omega)) r22
        have H7 : HOK (h 1 0) 5 s' := fun q' hr a b a' b' => by
          by_cases z : 5 * q' + hr = 5 * p + q
          · rw [z, u2]; omega
          · rw [u1 _ _ (by omega)]; exact hh1 q' hr a b a' b'
        have nt : hn s' q p = t := by unfold hn; rw [u2, en_i (by omega)]
        rw [rf_pays RV r23 (SM_9 _ _) (SOK_congr (fun i => u1 _ _ (by omega)) s4) H7 c.1.1 c.1.2 c.2.1 (by omega), Option.bind_some, nt, FI_day (D' := dF h 4) (n := 5) c.2.1 (by omega) (fun r s a b a' b' y => by
          rw [← hh2 r s a b a' (by omega)]
          unfold hn
          rw [u1 _ _ (by omega)]) ⟨v5, v5'⟩]
        rw [show FI (SM (uF (h 2) (-1)) (h 1 1)) (kdF h q) (dF h 4 q) (AH (dF h 4) q) (h 1 2) (h 1 4) p t = f t by rw [← hf]; rfl, wid (z := t + 1) (by omega) (by omega), am_s (-1) f b1, ← i1]
        simp only
        by_cases z : f t < l
        · simp only [if_pos z]; exact ⟨_, rfl, rfl, rfl, u1, by show -1 ≤ s' 133 (5 * p + q) ∧ s' 133 (5 * p + q) < h 1 0; omega⟩
        · simp only [if_neg z]; exact ⟨_, rfl, rfl, rfl, u1, by show -1 ≤ s' 133 (5 * p + q) ∧ s' 133 (5 * p + q) < h 1 0; omega⟩
      · obtain ⟨b, l, t, s⟩ := s
        simp only at es i1 i2 i3
        subst es
        unfold s_X6_better_1
        simp only
        rw [ev_things, Option.bind_some, i2 127 0 (by omega), r22.1, if_neg (by omega)]
        exact ⟨_, rfl, by rw [← i1], fun a i z => i2 a i (by omega)⟩
      · obtain ⟨b, l, t, s⟩ := r
        simp only at hr ⊢
        exact Ret.ok ⟨hr.1, fun a i z => by show s a i = g a i; rw [hr.2 a i (by omega), e5 a i (by omega), e2 a i (by omega) (by omega)]⟩
  · refine sm_bad2 hL hP R (z := -2) ?_ (fun g hg => ?_)
    · unfold f_X5_better
      simp only [lb_tg_0_0]
      rw [ph_cl v3 v3' v4 v4', Option.bind_some, decide_eq_true c, if_pos rfl]
      rfl
    · unfold f_X6_better
      have g2 : g 127 10 = h 1 2 := by rw [hg 127 10 (by omega)]; exact r3
      have g3 : g 127 11 = h 1 3 := by rw [hg 127 11 (by omega)]; exact r4
      rw [ph_rf (by omega) (by omega) (by omega) (by omega), g2, g3, Option.bind_some, decide_eq_true c, if_pos rfl, ev_bad]
      rfl
end SIM
