-- needs: 4i
theorem TR2_h {h h2 g : fx_H} (P5 : h 1 2 ≤ 5) (e : ∀ a i : Int, 1 ≤ a → a ≤ 19 → h2 a i = h a i) (r : TR2 h g) : TR2 h2 g := by
  obtain ⟨r1, r2, r3, r4, r5, r6, r7, r8, r9, r10⟩ := r
  have e1 : ∀ i : Int, h2 1 i = h 1 i := fun i => e 1 i (by omega) (by omega)
  unfold TR2
  simp only [e1]
  exact ⟨r1, r2, r3, r4, r5, fun t a b => by rw [r6 t a b, e _ _ (by omega) (by omega)], fun q a b => by rw [r7 q a b, e _ _ (by omega) (by omega)], fun q p a b a' b' => by rw [r8 q p a b a' b', e _ _ (by omega) (by omega)], fun p t a b a' b' => by rw [r9 p t a b a' b', e _ _ (by omega) (by omega)], fun p a b => by rw [r10 p a b, e _ _ (by omega) (by omega)]⟩
/-- after its court has sat and its rows are written, the class's heap is as well as it was -/
theorem prep2 {h : fx_H} (v : TV 1 h) (rs : RS h) {n : Int} (n1 : 1 ≤ n) (n5 : n ≤ 5) : ∃ h1 h2 : fx_H, f_X0_sit FU La_167 43 1 (h 1 1) (-1) h = some h1 ∧ h1 1 3 = h 1 3 ∧ f_X1_writeRows FU La_167 48 1 n h1 = some h2 ∧ (∀ a i : Int, ¬ (43 ≤ a ∧ a ≤ 45) → ¬ (68 ≤ a ∧ a ≤ 74) → h2 a i = h a i) ∧ TV 1 h2 ∧ RS h2 ∧ CT (smT h2 (h2 1 1) (-1)) (h2 1 0) (h2 1 2) (h2 1 4) h2 ∧ RWC h2 h2 n := by
  obtain ⟨h1, h2, e1, e2, e3, f, c, w⟩ := prep_cl v rs n1 n5
  have P5 : h 1 2 ≤ 5 := by unfold TV at v; exact v.2.2.1.2
  have hs : smT h2 (h2 1 1) (-1) = smT h (h 1 1) (-1) := by
    unfold smT
    rw [f 1 1 (by omega) (by omega), show h2 2 = h 2 from funext fun i => f 2 i (by omega) (by omega)]
  refine ⟨h1, h2, e1, e2, e3, f, TV_congr (fun a i _ _ => f a i (by omega) (by omega)) v, RS_congr (fun a i _ => f a i (by omega) (by omega)) rs, ?_, fun p a b => ?_⟩
  · rw [hs, f 1 0 (by omega) (by omega), f 1 2 (by omega) (by omega), f 1 4 (by omega) (by omega)]; exact c
  · rw [f 1 2 (by omega) (by omega)] at b
    rw [ndF_congr (h := h) (s := h2) (p := p) (fun i => f _ _ (by omega) (by omega))]
    exact w p a b
theorem DW_town {h : fx_H} (v : TV 1 h) : DW (h 1 0) (dF h 4) := fun hr q a b a' b' => DOK_town v hr q a b a' b'
section SIM
variable {CL CP : fx_H → Prop} {k : Int} {h : fx_H}
theorem sim_rests (hL : FrL CL) (hP : FrP CP) (R : Rel CL CP k h) (what : Int) : Sm CL CP k (f_X5_rests FU La_167 0 what h) (f_X6_rests FU La_167 126 what) := by
  obtain ⟨RV, RR, R3, R4, R5, R6, R7⟩ := id R
  by_cases c : 0 ≤ what ∧ what ≤ 1
  · have H1 : 1 ≤ h 1 3 ∧ h 1 3 ≤ 5 := by unfold TV at RV; exact RV.2.2.2.1
    have P5 : h 1 2 ≤ 5 := by unfold TV at RV; exact RV.2.2.1.2
    obtain ⟨h1, h2, e1, e2, e3, f, V, RS2, C2, W2⟩ := prep2 RV R6 H1.1 H1.2
    have vv := V
    unfold TV at vv
    obtain ⟨⟨v1, v1'⟩, ⟨v2, v2'⟩, ⟨v3, v3'⟩, ⟨v4, v4'⟩, ⟨v5, v5'⟩, -⟩ := vv
    have h3E : h2 1 3 = h 1 3 := f 1 3 (by omega) (by omega)
    rw [← h3E] at W2
    have hN : NW (h2 1 0) (h2 1 2) (h2 1 3) (ndF h2) := fun q a b => by
      obtain ⟨d1, d2, -⟩ := nd_ok V a (show q < 5 by omega)
      exact ⟨d1, d2⟩
    have Wr : ∀ r : Nat, DW (h2 1 0) (RNd (smT h2 (h2 1 1) (-1)) (kdF h2) (ndF h2) (h2 1 2) (h2 1 4) (h2 1 3) (dF h2 4) r) := RNd_w (by omega) hN v4 v4' (DW_town V)
    generalize hRN : RNd (smT h2 (h2 1 1) (-1)) (kdF h2) (ndF h2) (h2 1 2) (h2 1 4) (h2 1 3) (dF h2 4) = RN at Wr
    have RN0 : RN 0 = dF h2 4 := by rw [← hRN]; rfl
    have RNs : ∀ r : Nat, RN (r + 1) = (rnd (smT h2 (h2 1 1) (-1)) (kdF h2) (ndF h2) (h2 1 2) (h2 1 4) (h2 1 3) (RN r) (h2 1 2).toNat).1 := fun r => by rw [← hRN]; rfl
    generalize hfl : (fun r : Nat => (rnd (smT h2 (h2 1 1) (-1)) (kdF h2) (ndF h2) (h2 1 2) (h2 1 4) (h2 1 3) (RN r) (h2 1 2).toNat).2) = fl
    have fl1 : ∀ r : Nat, (rnd (smT h2 (h2 1 1) (-1)) (kdF h2) (ndF h2) (h2 1 2) (h2 1 4) (h2 1 3) (RN r) (h2 1 2).toNat).2 = fl r := fun r => by rw [← hfl]
    generalize hq : fst0 fl 21 0 = q
    refine sm_look hL hP R (if what = 0 then q else if q = -1 then -5 else AI (smT h2 (h2 1 1) (-1)) (kdF h2) (RN (q.toNat + 1)) (AH (RN (q.toNat + 1))) (h2 1 2) (h2 1 4) (h2 1 3)) ?_ (fun g r2 rs kp => ?_)
    · unfold f_X5_rests
      simp only [lb_tg_0_0, lb_tg_0_5, lb_tg_0_6]
      rw [ev_within, Option.bind_some, if_pos c, if_neg (by decide), e1, Option.bind_some]
      unfold f_X1_roundOfRest
      simp only [tc_tg_8 TC_1, lb_tg_48_0]
      rw [e2, ← h3E, show (1 : Int) + 3 = 4 from rfl]
      rw [← h3E] at e3
      rw [e3, Option.bind_some]
      obtain ⟨h3, e4, k1, k2⟩ := copyDay_ok (h := h2) cd_town cd_day (by omega)
      rw [e4, Option.bind_some]
      have F3 : CF h2 h3 := fun a i x y => k1 a i (by omega)
      have P3 : P9 h3 := fun a b x y x' y' => by rw [k1 _ _ (by omega)]; exact RS2.2 a b x y x' y'
      have key : Ret (fx_loop (s_X1_roundOfRest_1 FU La_167 48 1 43) FU (0, h3)) (fun e => ∃ h' : fx_H, (e = .inr (q, h') ∧ q ≠ -1 ∧ CD (RN (q.toNat + 1)) h' ∨ q = -1 ∧ ∃ r : Int, e = .inl (r, h')) ∧ CF h2 h' ∧ P9 h') := by
        refine loop_ret (fun s => 0 ≤ s.1 ∧ s.1 ≤ 21 ∧ fst0 fl (21 - s.1).toNat s.1.toNat = q ∧ CF h2 s.2 ∧ P9 s.2 ∧ CD (RN s.1.toNat) s.2) (fun s => (21 - s.1).toNat) (fun s hs => ?_) FU _ ⟨Int.le_refl 0, by show (0 : Int) ≤ 21; decide, hq, F3, P3, fun hr x a b a' b' => by show h3 _ _ = RN 0 _ _; rw [k2 hr x a b a' b', RN0]; rfl⟩ (FU_gt (by show (21 - (0 : Int)).toNat < _; decide))
        obtain ⟨r, s⟩ := s
        obtain ⟨s1, s2, s3, s4, s5, s6⟩ := hs
        simp only at s1 s2 s3 s4 s5 s6
        unfold s_X1_roundOfRest_1
        simp only
        by_cases z : r ≤ 20
        · obtain ⟨⟨x, w⟩, e5, w1, w2, w3, w4⟩ := round_cl V rfl rfl rfl rfl C2 W2 s4 s5 s6 (Wr r.toNat)
          simp only at w1 w2 w3 w4
          rw [if_pos z, e5, Option.bind_some]
          simp only
          rw [fl1] at w1
          rw [← RNs] at w4
          rw [show (21 - r).toNat = (20 - r).toNat + 1 by omega] at s3
          have s3 : (if fl r.toNat = 0 then ((r.toNat : Nat) : Int) else fst0 fl (20 - r).toNat (r.toNat + 1)) = q := s3
          by_cases y : fl r.toNat = 0
          · rw [if_pos y] at s3
            rw [if_pos (by omega)]
            refine Or.inr ⟨_, rfl, w, Or.inl ⟨?_, by omega, ?_⟩, w2, w3⟩
            · rw [← s3, show ((r.toNat : Nat) : Int) = r by omega]
            · rw [← s3, show (((r.toNat : Nat) : Int)).toNat = r.toNat by omega]; exact w4
          · rw [if_neg y] at s3
            rw [if_neg (by omega), wid (by omega) (by omega)]
            refine Or.inl ⟨_, rfl, ⟨by show 0 ≤ r + 1; omega, by show r + 1 ≤ 21; omega, ?_, w2, w3, ?_⟩, by show (21 - (r + 1)).toNat < (21 - r).toNat; omega⟩
            · show fst0 fl (21 - (r + 1)).toNat (r + 1).toNat = q
              rw [show (21 - (r + 1)).toNat = (20 - r).toNat by omega, show (r + 1).toNat = r.toNat + 1 by omega]; exact s3
            · show CD (RN (r + 1).toNat) w
              rw [show (r + 1).toNat = r.toNat + 1 by omega]; exact w4
        · rw [if_neg z]
          rw [show (21 - r).toNat = 0 by omega] at s3
          exact Or.inr ⟨_, rfl, s, Or.inr ⟨s3.symm, r, rfl⟩, s4, s5⟩
      obtain ⟨e, e5, h', ee, F', P'⟩ := key
      have KPh : ∀ a i : Int, KP a i → h' a i = h a i := fun a i z => by
        unfold KP at z
        rw [F' a i (by omega) (by omega), f a i (by omega) (by omega)]
      have RSh : RS h' := ⟨fun p a b => by rw [F' _ _ (by omega) (by omega)]; exact RS2.1 p a b, P'⟩
      rw [e5]
      rcases ee with ⟨rfl, qn, D'⟩ | ⟨qn, r, rfl⟩
      · simp only [Option.bind_some]
        by_cases z : what = 0
        · rw [if_pos z, if_pos z]; exact Ret.ok ⟨rfl, KPh, RSh⟩
        · rw [if_neg z, if_neg z, if_neg qn, if_neg qn]
          have Vh : TV 1 h' := TV_congr (fun a i _ _ => F' a i (by omega) (by omega)) V
          have kE : kdF h' = kdF h2 := by funext x; unfold kdF; rw [F' _ _ (by omega) (by omega)]
          rw [F' 1 3 (by omega) (by omega), ev_finesOf Vh dc_49 (CT_congr (fun a i z => F' a i (by omega) (by omega)) C2) (fun hr x a b a' b' => by rw [show (49 : Int) + 1 + hr = 50 + hr by omega, D' hr x a b a' b']; exact Wr _ hr x a b a' b') (by omega) v3' v1' (by omega) v4' ⟨v5, v5'⟩, Option.bind_some, Option.bind_some, kE]
          refine Ret.ok ⟨?_, KPh, RSh⟩
          exact AI_congr (fun hr x a b a' b' => by unfold dF; rw [show (49 : Int) + 1 + hr = 50 + hr by omega]; exact D' hr x a (by omega) a' (by omega)) ⟨v5, v5'⟩
      · simp only [Option.bind_some]
        by_cases z : what = 0
        · rw [if_pos z, if_pos z]; exact Ret.ok ⟨qn.symm, KPh, RSh⟩
        · rw [if_neg z, if_neg z, if_pos trivial, if_pos qn]; exact Ret.ok ⟨rfl, KPh, RSh⟩
    · have r2' : TR2 h2 g := TR2_h P5 (fun a i a0 a1 => f a i (by omega) (by omega)) r2
      obtain ⟨g1, g2, x1, x2, x3, x4, x5, x6, x7⟩ := prep_rf V r2' v4 v4'
      obtain ⟨g3, y1, y2, y3⟩ := takeDone_ok (g := g2)
      unfold f_X6_rests
      rw [ev_in, Option.bind_some, if_pos c, if_neg (by decide), x1, Option.bind_some, ev_hours, Option.bind_some, x2, x3, Option.bind_some, y1, Option.bind_some]
      have F3 : RF g2 g3 := fun a i x y z => y2 a i x
      have D3 : HD (dF h2 4) g3 := fun hr x a b a' b' => by
        rw [y3 _ (by omega) (by omega), show (19 : Int) + (5 * x + hr) = 19 + 5 * x + hr by omega, x5.2.2.2.2.2.2.2.1 hr x a b a' b']; rfl
      have key : Ret (fx_loop (s_X6_rests_1 FU La_167 126 what) FU (0, g3)) (fun e => ∃ g' : fx_H, (e = .inr ((if what = 0 then q else if q = -1 then -5 else AI (smT h2 (h2 1 1) (-1)) (kdF h2) (RN (q.toNat + 1)) (AH (RN (q.toNat + 1))) (h2 1 2) (h2 1 4) (h2 1 3)), g') ∨ q = -1 ∧ ∃ r : Int, e = .inl (r, g')) ∧ RF g2 g') := by
        refine loop_ret (fun s => 0 ≤ s.1 ∧ s.1 ≤ 21 ∧ fst0 fl (21 - s.1).toNat s.1.toNat = q ∧ RF g2 s.2 ∧ HD (RN s.1.toNat) s.2) (fun s => (21 - s.1).toNat) (fun s hs => ?_) FU _ ⟨Int.le_refl 0, by show (0 : Int) ≤ 21; decide, hq, F3, by show HD (RN 0) g3; rw [RN0]; exact D3⟩ (FU_gt (by show (21 - (0 : Int)).toNat < _; decide))
        obtain ⟨r, s⟩ := s
        obtain ⟨s1, s2, s3, s4, s5⟩ := hs
        simp only at s1 s2 s3 s4 s5
        unfold s_X6_rests_1
        simp only
        by_cases z : r ≤ 20
        · obtain ⟨⟨x, y, w⟩, e5, w1, w2, w3⟩ := round_rf V x5 (SM_9 _ _) x6 x7 s4 s5 (Wr r.toNat)
          simp only at w1 w2 w3
          rw [if_pos z, e5, Option.bind_some]
          simp only
          rw [show (rnd (SM (uF (h2 2) (-1)) (h2 1 1)) (kdF h2) (ndF h2) (h2 1 2) (h2 1 4) (h2 1 3) (RN r.toNat) (h2 1 2).toNat).2 = fl r.toNat from fl1 _] at w1
          rw [show (rnd (SM (uF (h2 2) (-1)) (h2 1 1)) (kdF h2) (ndF h2) (h2 1 2) (h2 1 4) (h2 1 3) (RN r.toNat) (h2 1 2).toNat).1 = RN (r.toNat + 1) from (RNs _).symm] at w3
          rw [show (21 - r).toNat = (20 - r).toNat + 1 by omega] at s3
          have s3 : (if fl r.toNat = 0 then ((r.toNat : Nat) : Int) else fst0 fl (20 - r).toNat (r.toNat + 1)) = q := s3
          by_cases y : fl r.toNat = 0
          · rw [if_pos y] at s3
            have qE : q.toNat = r.toNat := by omega
            rw [if_pos (by omega)]
            by_cases u : what = 0
            · rw [if_pos u, if_pos u]
              exact Or.inr ⟨_, rfl, w, Or.inl (by rw [← s3, show ((r.toNat : Nat) : Int) = r by omega]), w2⟩
            · have rw2 : TR2 h2 w := TR2_congr (fun i => w2 _ _ (by omega) (by omega) (by omega)) x5
              obtain ⟨hh1, hh2⟩ := HD_hn w3 (Wr _) v1
              rw [if_neg u, if_neg u, if_neg (show ¬ q = -1 by omega), ev_hours, Option.bind_some, rw2.2.2.2.1, rf_allIn V rw2 (SM_9 _ _) (SOK_congr (fun i => w2 _ _ (by omega) (by omega) (by omega)) x6) hh1 (by omega) v4', Option.bind_some, Option.bind_some, qE]
              refine Or.inr ⟨_, rfl, w, Or.inl ?_, w2⟩
              rw [AI_congr (D' := RN (r.toNat + 1)) (fun hr x a b a' b' => hh2 hr x a (by omega) a' (by omega)) ⟨v5, v5'⟩]
              rfl
          · rw [if_neg y] at s3
            rw [if_neg (by omega), wid (by omega) (by omega)]
            refine Or.inl ⟨_, rfl, ⟨by show 0 ≤ r + 1; omega, by show r + 1 ≤ 21; omega, ?_, w2, ?_⟩, by show (21 - (r + 1)).toNat < (21 - r).toNat; omega⟩
            · show fst0 fl (21 - (r + 1)).toNat (r + 1).toNat = q
              rw [show (21 - (r + 1)).toNat = (20 - r).toNat by omega, show (r + 1).toNat = r.toNat + 1 by omega]; exact s3
            · show HD (RN (r + 1).toNat) w
              rw [show (r + 1).toNat = r.toNat + 1 by omega]; exact w3
        · rw [if_neg z]
          rw [show (21 - r).toNat = 0 by omega] at s3
          exact Or.inr ⟨_, rfl, s, Or.inr ⟨s3.symm, r, rfl⟩, s4⟩
      obtain ⟨e, e5, g', ee, F'⟩ := key
      have fr : ∀ a i : Int, ¬ (131 ≤ a ∧ a ≤ 140) → g' a i = g a i := fun a i z => by rw [F' a i (by omega) (by omega) (by omega), x4 a i (by omega) (by omega)]
      rw [e5]
      rcases ee with rfl | ⟨qn, r, rfl⟩
      · exact Ret.ok ⟨rfl, fr⟩
      · simp only [Option.bind_some]
        by_cases z : what = 0
        · rw [if_pos z, if_pos z]; exact Ret.ok ⟨qn.symm, fr⟩
        · rw [if_neg z, if_neg z, if_pos qn]; exact Ret.ok ⟨rfl, fr⟩
  · refine sm_bad2 hL hP R (z := -10) ?_ (fun g hg => ?_)
    · unfold f_X5_rests
      rw [ev_within, Option.bind_some, if_neg c, if_pos rfl]
      rfl
    · unfold f_X6_rests
      rw [ev_in, Option.bind_some, if_neg c, if_pos rfl, ev_bad]
      rfl
end SIM
