-- needs: 3u
section SIM
variable {CL CP : fx_H → Prop} {k : Int} {h : fx_H}
/-- the singers -/
def sg (t m q : Int) : Int := if q < m then t else 9
theorem sim_choir (hL : FrL CL) (hP : FrP CP) (R : Rel CL CP k h) (t m : Int) : Sm CL CP k (f_X5_choir FU La_167 0 t m h) (f_X6_choir FU La_167 126 t m) := by
  obtain ⟨RV, RR, R3, R4, R5, R6, R7⟩ := id R
  have RV' := RV
  have RR' := RR
  unfold TV at RV'
  unfold TR at RR'
  obtain ⟨⟨v1, v1'⟩, ⟨v2, v2'⟩, ⟨v3, v3'⟩, ⟨v4, v4'⟩, ⟨v5, v5'⟩, ⟨v6, v6'⟩, v7, v8, v9, v10, v11, v12, v13⟩ := RV'
  obtain ⟨r1, r2, r3, r4, r5, r6, r7, r8, r9, r10, r11, r12⟩ := RR'
  simp only [Int.zero_add] at r1 r2 r3 r4 r5 r6 r7 r8 r9 r10 r11 r12
  obtain ⟨⟨k1, k2⟩, -⟩ := id R7
  by_cases c : (0 ≤ t ∧ t < h 1 0) ∧ (1 ≤ m ∧ m ≤ h 1 2)
  · generalize hf : (fun q : Int => sumI (h 1 2).toNat (fun p => FI (smT h (h 1 1) (-1)) (kdF h q) (sg t m) (fun _ => 9) (h 1 2) (h 1 4) p (sg t m p))) = f
    have sgv : ∀ q : Int, (0 ≤ sg t m q ∧ sg t m q ≤ 9) ∧ (0 ≤ sg t m q ∧ sg t m q < h 1 0 ∨ sg t m q = 9) := fun q => by unfold sg; split <;> omega
    refine sm_look hL hP R (mn f (h 1 3).toNat) ?_ (fun g r2 rs kp => ?_)
    · unfold f_X5_choir
      simp only [lb_tg_0_0, lb_tg_0_5]
      rw [ev_hasThing v1 v1', Option.bind_some, if_pos c.1, if_neg (by decide), ev_within, Option.bind_some, if_pos c.2, if_neg (by decide), Option.bind_some, if_neg (by decide)]
      obtain ⟨h1, e1, e2, cc⟩ := sit_ok (line := h 1 1) (fr := -1) RV R6
      have vv := TVsit e2 RV
      rw [e1, Option.bind_some]
      unfold f_X0_leastOfChoir
      refine Ret.bind (Ret.bind (Ret.mono (loop_for (fun j s => (∀ a i : Int, a ≠ 47 → s a i = h1 a i) ∧ ∀ q : Int, 0 ≤ q → q < j → s 47 q = sg t m q) 5 (FU_gt (by omega)) (by omega) ⟨fun _ _ _ => rfl, fun _ _ _ => by omega⟩ (fun j s b1 b2 ⟨i1, i2⟩ => ?_) (fun s _ => ?_)) (fun r hr => ?_)))
      · unfold s_X0_leastOfChoir_1
        simp only [lb_tg_43_3]
        rw [if_pos b2, show (if j < m then some t else some (9 : Int)) = some (sg t m j) by unfold sg; split <;> rfl, Option.bind_some, wrl lb_ln_47 b1 b2, Option.bind_some, wid (by omega) (by omega)]
        refine ⟨_, rfl, fun a i b => ?_, fun q b b' => ?_⟩
        · rw [up_ne (by omega)]; exact i1 a i b
        · by_cases e : q = j
          · subst e; simp (disch := omega) only [up_ne, up_eq]
          · simp (disch := omega) only [up_ne, up_eq]; exact i2 q b (by omega)
      · unfold s_X0_leastOfChoir_1
        simp only
        rw [if_neg (by omega)]
      · obtain ⟨r1, s⟩ := r
        obtain ⟨-, i1, i2⟩ := hr
        simp only at i1 i2 ⊢
        have e3 : ∀ a i : Int, ¬ (a = 43 ∧ (i = 4 ∨ i = 5)) → a ≠ 44 → a ≠ 45 → a ≠ 47 → s a i = h a i := fun a i x y z w => by rw [i1 a i w, e2 a i x y z]
        have vs : TV 1 s := TV_congr (fun a i _ _ => e3 a i (by omega) (by omega) (by omega) (by omega)) RV
        obtain ⟨c1, c2, c3, c4⟩ := CT_congr (h' := s) (fun a i z => i1 a i (by omega)) cc
        have hk : kdF s = kdF h := by funext x; unfold kdF; rw [e3 _ _ (by omega) (by omega) (by omega) (by omega)]
        refine Ret.bind (Ret.mono (loop_ix (fun s => s.2) (fun j s => s.1 = mn f j.toNat) (h 1 3) (i := 0) (Q := fun e => e.1 = mn f (h 1 3).toNat) (FU_gt (by omega)) rfl (by omega) rfl (fun j w ej b1 b2 w1 => ?_) (fun w ew w1 => ?_)) (fun r hr => ?_))
        · obtain ⟨l, q⟩ := w
          simp only at ej w1
          subst ej
          unfold s_X0_leastOfChoir_2
          simp only [lb_tg_43_3, lb_tg_43_2]
          rw [e3 1 3 (by omega) (by omega) (by omega) (by omega), if_pos b2, ev_kindOf vs, Option.bind_some, ev_finesOfHour c1 c2 (by omega) v3' lb_ln_47 lb_ln_46 (fun q a b => by rw [i2 q a (by omega)]; exact (sgv q).1) (fun q a b => by rw [c3 q a (by omega)]; omega) ⟨v5, v5'⟩, Option.bind_some]
          rw [sumI_congr (f := fun p => FI (s 44) (kdF s q) (s 47) (s 46) (h 1 2) (h 1 4) p (s 47 p)) (g := fun p => FI (smT h (h 1 1) (-1)) (kdF h q) (sg t m) (fun _ => 9) (h 1 2) (h 1 4) p (sg t m p)) (fun p p0 p1 => by
            rw [hk, i2 p p0 (by omega)]
            exact FI_congr (c4 _ (sgv p).2) (fun q a b _ => by rw [i2 q a (by omega)]; exact ⟨rfl, c4 _ (sgv q).2⟩) (fun q a b _ => by rw [c3 q a (by omega)]; exact c4 9 (Or.inr rfl)) ⟨v5, v5'⟩)]
          rw [show sumI (h 1 2).toNat (fun p => FI (smT h (h 1 1) (-1)) (kdF h q) (sg t m) (fun _ => 9) (h 1 2) (h 1 4) p (sg t m p)) = f q by rw [← hf], wid (z := q + 1) (by omega) (by omega)]
          refine ⟨_, rfl, rfl, ?_⟩
          show min l (f q) = _
          rw [mn_s f b1, ← w1]
          by_cases z : f q < l
          · rw [if_pos z, Int.min_eq_right (by omega)]
          · rw [if_neg z, Int.min_eq_left (by omega)]
        · obtain ⟨l, q⟩ := w
          simp only at ew w1
          subst ew
          unfold s_X0_leastOfChoir_2
          simp only
          rw [e3 1 3 (by omega) (by omega) (by omega) (by omega), if_neg (by omega)]
          exact ⟨_, rfl, w1⟩
        · obtain ⟨l, q⟩ := r
          simp only at hr ⊢
          exact Ret.ok (Ret.ok ⟨hr, fun a i z => e3 a i (by unfold KP at z; omega) (by unfold KP at z; omega) (by unfold KP at z; omega) (by unfold KP at z; omega), RS_congr (fun a i z => e3 a i (by omega) (by omega) (by omega) (by omega)) R6⟩)
    · unfold f_X6_choir
      have g0 : g 127 0 = h 1 0 := r2.1
      have g2 : g 127 10 = h 1 2 := r2.2.2.1
      rw [ev_isThing (by omega) (by omega), g0, Option.bind_some, if_pos c.1, if_neg (by decide), ev_people, Option.bind_some, g2, ev_in, Option.bind_some, if_pos c.2, if_neg (by decide), Option.bind_some, if_neg (by decide)]
      obtain ⟨g1, e1, e2, e3⟩ := layNow_ok RV r2
      have r21 : TR2 h g1 := TR2_congr (fun i => e2 _ _ (by omega) (by omega)) r2
      rw [e1, Option.bind_some]
      refine Ret.bind (Ret.mono (loop_ix (fun s => s.2.1) (fun j s => s.1 = mn f j.toNat ∧ ∀ a i : Int, a ≠ 133 → s.2.2 a i = g1 a i) (h 1 3) (i := 0) (Q := fun e => e.1 = mn f (h 1 3).toNat ∧ ∀ a i : Int, a ≠ 133 → e.2.2 a i = g1 a i) (FU_gt (by omega)) rfl (by omega) ⟨rfl, fun _ _ _ => rfl⟩ (fun j w ej b1 b2 ⟨w1, w2⟩ => ?_) (fun w ew ⟨w1, w2⟩ => ?_)) (fun r hr => ?_))
      · obtain ⟨l, q, s⟩ := w
        simp only at ej w1 w2
        subst ej
        unfold s_X6_choir_1
        simp only
        rw [ev_hours, Option.bind_some, w2 127 11 (by omega), r21.2.2.2.1, if_pos b2]
        obtain ⟨g4, e4, e5, e6⟩ := takeNothing_ok (g := s)
        rw [e4, Option.bind_some]
        have key : Ret (fx_loop (s_X6_choir_2 FU La_167 126 t m q) FU (0, g4)) (fun r => (∀ a i : Int, a ≠ 133 → r.2 a i = g4 a i) ∧ (∀ x y : Int, 0 ≤ x → x < 5 → 0 ≤ y → y < 5 → r.2 133 (5 * x + y) = if y = q ∧ x < m then t else -1)) := by
          refine Ret.mono (loop_for (fun j s => (∀ a i : Int, a ≠ 133 → s a i = g4 a i) ∧ (∀ x y : Int, 0 ≤ x → x < 5 → 0 ≤ y → y < 5 → s 133 (5 * x + y) = if y = q ∧ x < j then t else -1)) m (FU_gt (by omega)) (by omega) ⟨fun _ _ _ => rfl, fun x y a b a' b' => by rw [if_neg (by omega), e6 _ (by omega) (by omega)]⟩ (fun j s b1 b2 ⟨i1, i2⟩ => ?_) (fun s _ => ?_)) (fun r hr => hr.2)
          · unfold s_X6_choir_2
            simp only [lb_tg_126_8]
            rw [if_pos b2, wid (z := 5 * j) (by omega) (by omega), wid (z := 5 * j + q) (by omega) (by omega), wrl lb_ln_133 (by omega) (by omega), Option.bind_some, wid (by omega) (by omega)]
            refine ⟨_, rfl, fun a i b => ?_, fun x y a b a' b' => ?_⟩
            · rw [up_ne (by omega)]; exact i1 a i b
            · by_cases e : x = j ∧ y = q
              · rw [up_eq rfl (by omega), if_pos (by omega)]
              · rw [up_ne (by omega), i2 x y a b a' b']
                exact ite_iff (by omega)
          · unfold s_X6_choir_2
            simp only
            rw [if_neg (by omega)]
        obtain ⟨⟨x, s'⟩, e7, e8, e9⟩ := key
        simp only at e8 e9
        rw [e7, Option.bind_some]
        simp only
        have r23 : TR2 h s' := TR2_congr (fun i => by rw [e8 _ _ (by omega), e5 _ _ (by omega), w2 _ _ (by omega)]) r21
        have S7 := SOK_congr (g' := s') (fun i => by rw [e8 _ _ (by omega), e5 _ _ (by omega), w2 _ _ (by omega)]) e3
        have H7 : HOK (h 1 0) 5 s' := fun x y a b a' b' => by
          rw [e9 x y a b a' b']
          split <;> omega
        have n7 : ∀ x y : Int, 0 ≤ x → x < 5 → 0 ≤ y → y < 5 → hn s' y x = if y = q then sg t m x else 9 := fun x y a b a' b' => by
          unfold hn sg
          rw [e9 x y a b a' b']
          by_cases z : y = q ∧ x < m
          · rw [if_pos z, if_pos z.1, if_pos z.2, en_i (by omega)]
          · rw [if_neg z]
            by_cases z2 : y = q
            · rw [if_pos z2, if_neg (by omega)]; rfl
            · rw [if_neg z2]; rfl
        rw [sloop (f := fun p => FI (smT h (h 1 1) (-1)) (kdF h q) (sg t m) (fun _ => 9) (h 1 2) (h 1 4) p (sg t m p)) (n := m) (by omega) (by omega) (fun i a b => ⟨(FI_b a (by omega) v3').1, by have := (FI_b (sm := smT h (h 1 1) (-1)) (k := kdF h q) (nw := sg t m) (ah := fun _ => 9) (P := h 1 2) (ri := h 1 4) (t := sg t m i) a (by omega) v3').2; omega⟩) (fun z i z0 z1 i0 i1 => by
          have := FI_b (sm := smT h (h 1 1) (-1)) (k := kdF h q) (nw := sg t m) (ah := fun _ => 9) (P := h 1 2) (ri := h 1 4) (t := sg t m i) i0 (by omega) v3'
          unfold s_X6_choir_3
          simp only
          rw [if_pos i1, rf_pays RV r23 (SM_9 _ _) S7 H7 i0 (by omega) b1 (by omega), Option.bind_some, n7 i q i0 (by omega) b1 (by omega), if_pos rfl]
          rw [show FI (SM (uF (h 2) (-1)) (h 1 1)) (kdF h q) (hn s' q) (AH (hn s') q) (h 1 2) (h 1 4) i (sg t m i) = FI (smT h (h 1 1) (-1)) (kdF h q) (sg t m) (fun _ => 9) (h 1 2) (h 1 4) i (sg t m i) from FI_congr rfl (fun x a b _ => by rw [n7 x q a (by omega) b1 (by omega), if_pos rfl]; exact ⟨rfl, rfl⟩) (fun x a b _ => by
            unfold AH
            by_cases y : 0 < q
            · rw [if_pos y, n7 x (q - 1) a (by omega) (by omega) (by omega), if_neg (by omega)]; rfl
            · rw [if_neg y]; rfl) ⟨v5, v5'⟩, wid (by omega) (by omega), wid (by omega) (by omega)]) (fun z => by
          unfold s_X6_choir_3
          simp only
          rw [if_neg (by omega)]), Option.bind_some]
        simp only
        rw [← sumI_cut (m := m.toNat) (n := (h 1 2).toNat) (by omega) (fun i a b => by
          have : sg t m i = 9 := by unfold sg; rw [if_neg (by omega)]
          simp only [this]
          unfold FI
          rw [if_pos (by omega)])]
        rw [show sumI (h 1 2).toNat (fun p => FI (smT h (h 1 1) (-1)) (kdF h q) (sg t m) (fun _ => 9) (h 1 2) (h 1 4) p (sg t m p)) = f q by rw [← hf], wid (z := q + 1) (by omega) (by omega)]
        by_cases z : f q < l
        · rw [if_pos z]
          refine ⟨_, rfl, rfl, ?_, fun a i z => by show s' a i = g1 a i; rw [e8 _ _ z, e5 _ _ z, w2 _ _ z]⟩
          show f q = _
          rw [mn_s f b1, ← w1, if_pos z]
        · rw [if_neg z]
          refine ⟨_, rfl, rfl, ?_, fun a i z => by show s' a i = g1 a i; rw [e8 _ _ z, e5 _ _ z, w2 _ _ z]⟩
          show l = _
          rw [mn_s f b1, ← w1, if_neg z]
      · obtain ⟨l, q, s⟩ := w
        simp only at ew w1 w2
        subst ew
        unfold s_X6_choir_1
        simp only
        rw [ev_hours, Option.bind_some, w2 127 11 (by omega), r21.2.2.2.1, if_neg (by omega)]
        exact ⟨_, rfl, w1, w2⟩
      · obtain ⟨l, q, s⟩ := r
        simp only at hr ⊢
        exact Ret.ok ⟨hr.1, fun a i z => by show s a i = g a i; rw [hr.2 a i (by omega), e2 a i (by omega) (by omega)]⟩
  · refine sm_bad2 hL hP R (z := -2) ?_ (fun g hg => ?_)
    · unfold f_X5_choir
      simp only [lb_tg_0_0]
      rw [ev_hasThing v1 v1', Option.bind_some, ev_within, Option.bind_some]
      by_cases c1 : 0 ≤ t ∧ t < h 1 0
      · rw [if_pos c1, if_neg (by decide), if_neg (fun z => c ⟨c1, z⟩), if_pos rfl]
        rfl
      · rw [if_neg c1, if_pos rfl]
        rfl
    · unfold f_X6_choir
      have g0 : g 127 0 = h 1 0 := by rw [hg 127 0 (by omega)]; exact r1
      have g2 : g 127 10 = h 1 2 := by rw [hg 127 10 (by omega)]; exact r3
      rw [ev_isThing (by omega) (by omega), g0, Option.bind_some, ev_people, Option.bind_some, g2, ev_in, Option.bind_some, ev_bad]
      by_cases c1 : 0 ≤ t ∧ t < h 1 0
      · rw [if_pos c1, if_neg (by decide), if_neg (fun z => c ⟨c1, z⟩), if_pos rfl]
        rfl
      · rw [if_neg c1, if_pos rfl]
        rfl
/-- whether one did what another did in the hour ahead -/
def cpF (h : fx_H) (p q r : Int) : Int := if ¬ dF h 4 r q = 9 ∧ dF h 4 (r + 1) p = dF h 4 r q then 1 else 0
theorem cpF_01 (h : fx_H) (p q r : Int) : 0 ≤ cpF h p q r ∧ cpF h p q r ≤ 1 := by unfold cpF; split <;> omega
def cpS (h : fx_H) (p q : Int) : Int := if q = p then 0 else sumI (h 1 3 - 1).toNat (cpF h p q)
theorem sim_copied (hL : FrL CL) (hP : FrP CP) (R : Rel CL CP k h) (p : Int) : Sm CL CP k (f_X5_copied FU La_167 0 p h) (f_X6_copied FU La_167 126 p) := by
  obtain ⟨RV, RR, R3, R4, R5, R6, R7⟩ := id R
  have RV' := RV
  have RR' := RR
  unfold TV at RV'
  unfold TR at RR'
  obtain ⟨⟨v1, v1'⟩, ⟨v2, v2'⟩, ⟨v3, v3'⟩, ⟨v4, v4'⟩, ⟨v5, v5'⟩, ⟨v6, v6'⟩, v7, v8, v9, v10, v11, v12, v13⟩ := RV'
  obtain ⟨r1, r2, r3, r4, r5, r6, r7, r8, r9, r10, r11, r12⟩ := RR'
  simp only [Int.zero_add] at r1 r2 r3 r4 r5 r6 r7 r8 r9 r10 r11 r12
  obtain ⟨⟨k1, k2⟩, -⟩ := id R7
  by_cases c : 0 ≤ p ∧ p < h 1 2
  · refine sm_look hL hP R (ax (cpS h p) (h 1 2).toNat).1 ?_ (fun g r2 rs kp => ?_)
    · unfold f_X5_copied
      simp only [lb_tg_0_0]
      rw [ev_hasPerson v3 v3', Option.bind_some, if_pos c, if_neg (by decide)]
      refine Ret.bind (Ret.mono (loop_ix (fun s => s.2.2) (fun j s => (s.1, s.2.1) = ax (cpS h p) j.toNat) (h 1 2) (i := 0) (Q := fun e => e.1 = (ax (cpS h p) (h 1 2).toNat).1) (FU_gt (by omega)) rfl (by omega) rfl (fun j s ej b1 b2 i1 => ?_) (fun s es i1 => ?_)) (fun r hr => ?_))
      · obtain ⟨b, l, q⟩ := s
        simp only at ej i1
        subst ej
        unfold s_X5_copied_1
        simp only [lb_tg_0_0]
        have key : (if q = p then some (0 : Int) else (f_X5_timesCopied FU La_167 0 p q h).bind fun v18 => some v18) = some (cpS h p q) := by
          unfold cpS
          by_cases e : q = p
          · rw [if_pos e, if_pos e]
          · rw [if_neg e, if_neg e]
            unfold f_X5_timesCopied
            have lp := loop_seq (step := s_X5_timesCopied_1 FU La_167 0 p q h) (fun j => (sumI j (cpF h p q), (j : Int) + 1)) (h 1 3 - 1).toNat (e := (sumI (h 1 3 - 1).toNat (cpF h p q), h 1 3)) (fun j hj => by
              have x0 : 0 ≤ sumI j (cpF h p q) := sumI_nn (fun i _ _ => (cpF_01 ..).1)
              have x1 := sumI_le (n := j) (fun i _ _ => (cpF_01 h p q i).2)
              unfold s_X5_timesCopied_1
              simp only [lb_tg_0_0, tc_tg_8 TC_1]
              rw [if_pos (by omega), show (1 : Int) + 3 = 4 from rfl, wid (z := (j : Int) + 1 - 1) (by omega) (by omega), show (j : Int) + 1 - 1 = j by omega, dc_rr dc_4 (by omega) (by omega), Option.bind_some, rdl (dc_ln dc_4 (by omega) (by omega)) b1 (by omega), Option.bind_some, dc_rr dc_4 (by omega) (by omega), Option.bind_some, rdl (dc_ln dc_4 (by omega) (by omega)) c.1 (by omega), Option.bind_some, sumI_succ]
              have cj : cpF h p q j = if ¬ h (4 + 1 + (j : Int)) q = 9 ∧ h (4 + 1 + ((j : Int) + 1)) p = h (4 + 1 + (j : Int)) q then 1 else 0 := rfl
              rw [cj, wid (z := (j : Int) + 1 + 1) (by omega) (by omega)]
              by_cases y1 : h (4 + 1 + (j : Int)) q = 9
              · rw [if_neg (not_not_intro y1), Option.bind_some, if_neg (by decide), if_neg (fun z => z.1 y1), Int.add_zero]; rfl
              · rw [if_pos y1]
                by_cases y2 : h (4 + 1 + ((j : Int) + 1)) p = h (4 + 1 + (j : Int)) q
                · rw [if_pos y2, Option.bind_some, if_pos rfl, if_pos ⟨y1, y2⟩, wid (by omega) (by omega)]; rfl
                · rw [if_neg y2, Option.bind_some, if_neg (by decide), if_neg (fun z => y2 z.2), Int.add_zero]; rfl) (by
              unfold s_X5_timesCopied_1
              simp only [lb_tg_0_0]
              rw [if_neg (by omega), show ((h 1 3 - 1).toNat : Int) + 1 = h 1 3 by omega]) (Fu := FU) (FU_gt (by omega))
            have lp2 : fx_loop (s_X5_timesCopied_1 FU La_167 0 p q h) FU (0, 1) = _ := lp
            rw [lp2]; rfl
        rw [if_pos b2, key, Option.bind_some, wid (z := q + 1) (by omega) (by omega), ax_s (cpS h p) b1, ← i1]
        simp only
        by_cases z : l < cpS h p q
        · rw [if_pos z, if_pos z]; exact ⟨_, rfl, rfl, rfl⟩
        · rw [if_neg z, if_neg z]; exact ⟨_, rfl, rfl, rfl⟩
      · obtain ⟨b, l, q⟩ := s
        simp only at es i1
        subst es
        unfold s_X5_copied_1
        simp only [lb_tg_0_0]
        rw [if_neg (by omega)]
        exact ⟨_, rfl, by rw [← i1]⟩
      · obtain ⟨b, l, q⟩ := r
        simp only at hr ⊢
        exact Ret.ok ⟨hr, fun _ _ _ => rfl, R6⟩
    · unfold f_X6_copied
      have g2 : g 127 10 = h 1 2 := r2.2.2.1
      have g3 : g 127 11 = h 1 3 := r2.2.2.2.1
      have D := DOK_town RV
      have gd : ∀ r s : Int, 0 ≤ r → r < 5 → 0 ≤ s → s < 5 → g 127 (19 + 5 * s + r) = de (dF h 4 r s) := fun r s a b a' b' => r2.2.2.2.2.2.2.2.1 r s a b a' b'
      rw [ev_isOne (by omega) (by omega), g2, Option.bind_some, if_pos c, if_neg (by decide)]
      refine Ret.bind (Ret.mono (loop_ix (fun s => s.2.2) (fun j s => (s.1, s.2.1) = ax (cpS h p) j.toNat) (h 1 2) (i := 0) (Q := fun e => e.1 = (ax (cpS h p) (h 1 2).toNat).1) (FU_gt (by omega)) rfl (by omega) rfl (fun j s ej b1 b2 i1 => ?_) (fun s es i1 => ?_)) (fun r hr => ?_))
      · obtain ⟨b, l, q⟩ := s
        simp only at ej i1
        subst ej
        unfold s_X6_copied_1
        simp only
        have key : ∃ x : Int, fx_loop (s_X6_copied_2 FU La_167 126 p q g) FU (0, 0) = some (cpS h p q, x) := by
          unfold cpS
          by_cases e : q = p
          · refine ⟨0, ?_⟩
            rw [if_pos e]
            refine loop_seq (fun _ => ((0 : Int), (0 : Int))) 0 (fun j hj => by omega) ?_ (FU_gt (by omega))
            unfold s_X6_copied_2
            simp only
            rw [ev_hours, Option.bind_some, if_neg (fun z => z.2 e)]
          · refine ⟨((h 1 3 - 1).toNat : Int), ?_⟩
            rw [if_neg e]
            refine loop_seq (step := s_X6_copied_2 FU La_167 126 p q g) (fun j => (sumI j (cpF h p q), (j : Int))) (h 1 3 - 1).toNat (fun j hj => ?_) ?_ (Fu := FU) (FU_gt (by omega))
            · have x0 : 0 ≤ sumI j (cpF h p q) := sumI_nn (fun i _ _ => (cpF_01 ..).1)
              have x1 := sumI_le (n := j) (fun i _ _ => (cpF_01 h p q i).2)
              unfold s_X6_copied_2
              simp only [lb_tg_126_0]
              rw [ev_hours, Option.bind_some, g3, wid (z := h 1 3 - 1) (by omega) (by omega), if_pos ⟨by omega, e⟩, wid (z := 5 * q) (by omega) (by omega), wid (z := 19 + 5 * q) (by omega) (by omega), wid (z := 19 + 5 * q + (j : Int)) (by omega) (by omega), rd127 (by omega) (by omega), Option.bind_some, wid (z := 5 * p) (by omega) (by omega), wid (z := 19 + 5 * p) (by omega) (by omega), wid (z := 19 + 5 * p + (j : Int)) (by omega) (by omega), wid (z := 19 + 5 * p + (j : Int) + 1) (by omega) (by omega), rd127 (by omega) (by omega), Option.bind_some, sumI_succ, show 19 + 5 * p + (j : Int) + 1 = 19 + 5 * p + ((j : Int) + 1) by omega, gd j q (by omega) (by omega) b1 (by omega), gd ((j : Int) + 1) p (by omega) (by omega) c.1 (by omega), wid (z := (j : Int) + 1) (by omega) (by omega)]
              have cj : cpF h p q j = if ¬ dF h 4 j q = 9 ∧ dF h 4 ((j : Int) + 1) p = dF h 4 j q then 1 else 0 := rfl
              rw [cj]
              have d1 := D j q (by omega) (by omega) b1 (by omega)
              have d2 := D ((j : Int) + 1) p (by omega) (by omega) c.1 (by omega)
              have d1 : 0 ≤ dF h 4 j q ∧ dF h 4 j q ≤ 9 := ⟨d1.1, d1.2.1⟩
              have d2 : 0 ≤ dF h 4 ((j : Int) + 1) p ∧ dF h 4 ((j : Int) + 1) p ≤ 9 := ⟨d2.1, d2.2.1⟩
              generalize dF h 4 j q = x at d1
              generalize dF h 4 ((j : Int) + 1) p = y at d2
              by_cases y1 : x = 9
              · rw [if_neg (show ¬ ¬ de x = -1 by unfold de; rw [if_pos y1]; decide), Option.bind_some, if_neg (by decide), Option.bind_some, if_neg (fun z => z.1 y1), wid (by omega) (by omega)]; rfl
              · have dx : de x = x := by unfold de; rw [if_neg y1]
                rw [if_pos (show ¬ de x = -1 by omega)]
                by_cases y2 : y = x
                · rw [if_pos (by rw [y2]), Option.bind_some, if_pos rfl, Option.bind_some, if_pos ⟨y1, y2⟩, wid (by omega) (by omega)]; rfl
                · rw [if_neg (show ¬ de y = de x by rw [dx]; unfold de; split <;> omega), Option.bind_some, if_neg (by decide), Option.bind_some, if_neg (fun z => y2 z.2), wid (by omega) (by omega)]; rfl
            · unfold s_X6_copied_2
              simp only
              rw [ev_hours, Option.bind_some, g3, wid (z := h 1 3 - 1) (by omega) (by omega), if_neg (by omega)]
        obtain ⟨x, key⟩ := key
        rw [ev_people, Option.bind_some, g2, if_pos b2, key, Option.bind_some, wid (z := q + 1) (by omega) (by omega), ax_s (cpS h p) b1, ← i1]
        simp only
        by_cases z : l < cpS h p q
        · simp only [if_pos z]; exact ⟨_, rfl, rfl, rfl⟩
        · simp only [if_neg z]; exact ⟨_, rfl, rfl, rfl⟩
      · obtain ⟨b, l, q⟩ := s
        simp only at es i1
        subst es
        unfold s_X6_copied_1
        simp only
        rw [ev_people, Option.bind_some, g2, if_neg (by omega)]
        exact ⟨_, rfl, by rw [← i1]⟩
      · obtain ⟨b, l, q⟩ := r
        simp only at hr ⊢
        exact Ret.ok ⟨hr, fun _ _ _ => rfl⟩
  · refine sm_bad2 hL hP R (z := -2) ?_ (fun g hg => ?_)
    · unfold f_X5_copied
      simp only [lb_tg_0_0]
      rw [ev_hasPerson v3 v3', Option.bind_some, if_neg c, if_pos rfl]
      rfl
    · unfold f_X6_copied
      have g2 : g 127 10 = h 1 2 := by rw [hg 127 10 (by omega)]; exact r3
      rw [ev_isOne (by omega) (by omega), g2, Option.bind_some, if_neg c, if_pos rfl, ev_bad]
      rfl
end SIM
