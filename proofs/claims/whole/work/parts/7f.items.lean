-- needs: 7e
section ITEMS
variable {b : Int → Int} {len : Int}
theorem does_ok {s g : fx_H} (hb : BB b len) (lh : LH b len s g) : IT b len s g (f_X3_readDoes FU La_167 41 20 s) (f_X6_readsDoes FU La_167 126 g) := by
  unfold f_X3_readDoes f_X6_readsDoes
  have u1 : ∀ a i : Int, ¬ (a = 41 ∧ i = 6) → fx_up s 41 6 1 a i = s a i := fun a i z => up_ne (by omega)
  have u2 : fx_up s 41 6 1 41 6 = 1 := up_eq rfl rfl
  have u3 : ∀ a i : Int, ¬ (a = 126 ∧ i = 23) → fx_up g 126 23 1 a i = g a i := fun a i z => up_ne (by omega)
  have u4 : fx_up g 126 23 1 126 23 = 1 := up_eq rfl rfl
  generalize fx_up s 41 6 1 = s1 at u1 u2
  generalize fx_up g 126 23 1 = g0 at u3 u4
  obtain ⟨g1, e1, as, lv1, cf, rf, g23, s2⟩ := go_ok (s1 := s1) (g0 := g0) (z := 1) hb lh u1 u3 u2 u4 (fun z => by omega)
  obtain ⟨⟨v1, v1'⟩, ⟨v2, v2'⟩, ⟨v3, v3'⟩, ⟨v4, v4'⟩, -⟩ := id lv1.1
  obtain ⟨r1, r2, r3, r4, -⟩ := id lv1.2.1
  rw [e1, Option.bind_some, lb_tg_126_22, lb_tg_126_24, rdl (a := 142) lb_ln_142 (by omega) (by omega), Option.bind_some, r3, wid (z := s1 20 2 - 1) (by omega) (by omega)]
  rcases num_ok (k := 0) (lo := 0) (hi := s1 20 2 - 1) hb as (by omega) (by omega) with ⟨sa, ga, x1, x2, n1, t1, as1, t2, w1, w2, p1⟩ | ⟨sa, x1, x2, n1, n2, n3, n4, n5⟩
  · have a3 : sa 20 3 = s1 20 3 := n1 _ _ (by omega)
    have ga11 : ga 142 11 = s1 20 3 := by rw [t1 _ _ (by omega) (by omega)]; exact r4
    rw [x1, x2, Option.bind_some, Option.bind_some]
    simp only
    rw [if_neg (by decide), rdl (a := 142) lb_ln_142 (by omega) (by omega), Option.bind_some, ga11, a3, wid (z := s1 20 3 - 1) (by omega) (by omega)]
    rcases num_ok (k := 1) (lo := 0) (hi := s1 20 3 - 1) hb as1 (by omega) (by omega) with ⟨sb, gb, y1, y2, m1, q1, as2, q2, z1, z2, p2⟩ | ⟨sb, y1, y2, m1, m2, m3, m4, m5⟩
    · have b0 : sb 20 0 = s1 20 0 := by rw [m1 _ _ (by omega), n1 _ _ (by omega)]
      have gb0 : gb 142 0 = s1 20 0 := by rw [q1 _ _ (by omega) (by omega), t1 _ _ (by omega) (by omega)]; exact r1
      rw [y1, y2, Option.bind_some, Option.bind_some]
      simp only
      rw [if_neg (by decide), rdl (a := 142) lb_ln_142 (by omega) (by omega), Option.bind_some, gb0, b0, wid (z := s1 20 0 - 1) (by omega) (by omega)]
      rcases num_ok (k := 2) (lo := 0) (hi := s1 20 0 - 1) hb as2 (by omega) (by omega) with ⟨sc, gc, a1, a2, i1, j1, as3, j2, c1, c2, p3⟩ | ⟨sc, a1, a2, i1, i2, i3, i4, i5⟩
      · rw [a1, a2, Option.bind_some, Option.bind_some]
        simp only
        rw [if_neg (by decide), Option.bind_some]
        simp only
        rw [if_neg (by decide), rdl (a := 143) lb_ln_143 (by omega) (by omega), Option.bind_some, rdl (a := 143) lb_ln_143 (by omega) (by omega), Option.bind_some, rdl (a := 143) lb_ln_143 (by omega) (by omega), Option.bind_some, j2, j1 143 1 (by omega) (by omega), q2, j1 143 0 (by omega) (by omega), q1 143 0 (by omega) (by omega), t2, wid (z := 5 * g1 126 21) (by omega) (by omega), wid (z := 19 + 5 * g1 126 21) (by omega) (by omega), wid (z := 19 + 5 * g1 126 21 + ga 126 21) (by omega) (by omega), wrl (a := 142) lb_ln_142 (by omega) (by omega), Option.bind_some]
        have ec : ∀ i : Int, sc 20 i = s1 20 i := fun i => by rw [i1 _ _ (by omega), m1 _ _ (by omega), n1 _ _ (by omega)]
        refine fin_ok (s := sc) (g := gc) (A := fun s' => fx_up s' (24 + ga 126 21) (g1 126 21) (gb 126 21)) hb as3 (CF_tr cf (CF_tr (NMF_CF n1) (CF_tr (NMF_CF m1) (NMF_CF i1)))) (RF_tr rf (RF_tr (TKF_RF t1) (RF_tr (TKF_RF q1) (TKF_RF j1)))) (by omega) (by rw [j1 _ _ (by omega) (by omega), q1 _ _ (by omega) (by omega), t1 _ _ (by omega) (by omega)]; omega) (fun s' h1 h2 => ?_) (fun s' h1 => ?_) rfl (fun s' a i y => up_ne (by omega)) (fun a i y => up_ne (by omega)) (fun s' h2 => ?_)
        · have b4 : s' 20 3 = s1 20 3 := by rw [h2 _ _ (by omega)]; exact ec 3
          have b5 : s' 20 2 = s1 20 2 := by rw [h2 _ _ (by omega)]; exact ec 2
          rw [h1, Option.bind_some]
          simp only
          rw [if_pos (by decide), ev_hasHour (by omega) (by omega), Option.bind_some, if_pos (show 0 ≤ ga 126 21 ∧ ga 126 21 < s' 20 3 by omega), if_pos (by decide), ev_hasPerson (by omega) (by omega), Option.bind_some, if_pos (show 0 ≤ g1 126 21 ∧ g1 126 21 < s' 20 2 by omega), if_pos (by decide), Option.bind_some]
          simp only
          rw [if_pos trivial, tc_tg_8 TC_20, rr_ok (by omega) (by rw [show (20 : Int) + 3 = 23 from rfl, lb_ln_23]; omega), Option.bind_some, tc_doing TC_20 (by omega) (by omega), wr_ok (by omega) (by rw [tc_lnD TC_20 (by omega) (by omega)]; omega), Option.bind_some, show (20 : Int) + 4 + ga 126 21 = 24 + ga 126 21 by omega]
        · rw [h1, Option.bind_some]
          simp only
          rw [if_neg (by decide), Option.bind_some]
          simp only
          rw [if_neg (by decide)]
        · exact LV_doing z1 (by omega) w1 (by omega) c1 (by rw [h2 _ _ (by omega), ec]; omega) (by rw [h2 _ _ (by omega), i1 _ _ (by omega), m1 _ _ (by omega), n1 _ _ (by omega)]; omega) (LV_step0 h2 (LV_step i1 j1 (LV_step m1 q1 (LV_step n1 t1 lv1))))
      · rw [a1, a2, Option.bind_some, Option.bind_some]
        simp only
        rw [if_pos trivial, Option.bind_some, stops_dead i2, Option.bind_some]
        simp only
        rw [if_pos trivial, if_neg (by decide), Option.bind_some]
        simp only
        rw [if_neg (by decide)]
        exact bad_ok (CF_tr cf (CF_tr (NMF_CF n1) (CF_tr (NMF_CF m1) (NMF_CF i1)))) (RF_tr rf (RF_tr (TKF_RF t1) (TKF_RF q1))) rfl rfl i3 i4 i5
    · rw [y1, y2, Option.bind_some, Option.bind_some]
      simp only
      rw [if_pos trivial, Option.bind_some, number_dead m2, Option.bind_some]
      simp only
      rw [if_pos trivial, stops_dead m2, Option.bind_some]
      simp only
      rw [if_neg (by decide), Option.bind_some]
      simp only
      rw [if_neg (by decide)]
      exact bad_ok (CF_tr cf (CF_tr (NMF_CF n1) (NMF_CF m1))) (RF_tr rf (TKF_RF t1)) rfl rfl m3 m4 m5
  · rw [x1, x2, Option.bind_some, Option.bind_some]
    simp only
    rw [if_pos trivial, Option.bind_some, number_dead n2, Option.bind_some]
    simp only
    rw [if_pos trivial, number_dead n2, Option.bind_some]
    simp only
    rw [stops_dead n2, Option.bind_some]
    simp only
    rw [if_neg (by decide), Option.bind_some]
    simp only
    rw [if_neg (by decide)]
    exact bad_ok (CF_tr cf (NMF_CF n1)) rf rfl rfl n3 n4 n5
theorem need_ok {s g : fx_H} (hb : BB b len) (lh : LH b len s g) : IT b len s g (f_X3_readNeed FU La_167 41 20 s) (f_X6_readsNeed FU La_167 126 g) := by
  unfold f_X3_readNeed f_X6_readsNeed
  have u1 : ∀ a i : Int, ¬ (a = 41 ∧ i = 6) → fx_up s 41 6 1 a i = s a i := fun a i z => up_ne (by omega)
  have u2 : fx_up s 41 6 1 41 6 = 1 := up_eq rfl rfl
  have u3 : ∀ a i : Int, ¬ (a = 126 ∧ i = 23) → fx_up g 126 23 1 a i = g a i := fun a i z => up_ne (by omega)
  have u4 : fx_up g 126 23 1 126 23 = 1 := up_eq rfl rfl
  generalize fx_up s 41 6 1 = s1 at u1 u2
  generalize fx_up g 126 23 1 = g0 at u3 u4
  obtain ⟨g1, e1, as, lv1, cf, rf, g23, s2⟩ := go_ok (s1 := s1) (g0 := g0) (z := 1) hb lh u1 u3 u2 u4 (fun z => by omega)
  obtain ⟨⟨v1, v1'⟩, ⟨v2, v2'⟩, ⟨v3, v3'⟩, ⟨v4, v4'⟩, -⟩ := id lv1.1
  obtain ⟨r1, r2, r3, r4, -⟩ := id lv1.2.1
  rw [e1, Option.bind_some, lb_tg_126_22, lb_tg_126_24, rdl (a := 142) lb_ln_142 (by omega) (by omega), Option.bind_some, r3, wid (z := s1 20 2 - 1) (by omega) (by omega)]
  rcases num_ok (k := 0) (lo := 0) (hi := s1 20 2 - 1) hb as (by omega) (by omega) with ⟨sa, ga, x1, x2, n1, t1, as1, t2, w1, w2, p1⟩ | ⟨sa, x1, x2, n1, n2, n3, n4, n5⟩
  · have a0 : sa 20 0 = s1 20 0 := n1 _ _ (by omega)
    have ga0 : ga 142 0 = s1 20 0 := by rw [t1 _ _ (by omega) (by omega)]; exact r1
    rw [x1, x2, Option.bind_some, Option.bind_some]
    simp only
    rw [if_neg (by decide), rdl (a := 142) lb_ln_142 (by omega) (by omega), Option.bind_some, ga0, a0, wid (z := s1 20 0 - 1) (by omega) (by omega)]
    rcases num_ok (k := 1) (lo := 0) (hi := s1 20 0 - 1) hb as1 (by omega) (by omega) with ⟨sb, gb, y1, y2, m1, q1, as2, q2, z1, z2, p2⟩ | ⟨sb, y1, y2, m1, m2, m3, m4, m5⟩
    · have eb : ∀ i : Int, sb 20 i = s1 20 i := fun i => by rw [m1 _ _ (by omega), n1 _ _ (by omega)]
      have lv3 := LV_step m1 q1 (LV_step n1 t1 lv1)
      generalize hP : g1 126 21 = P at *
      generalize hT : ga 126 21 = T at *
      have e2 : f_X4_hasPerson FU La_167 20 P sb = some 1 := by rw [ev_hasPerson (by rw [eb]; omega) (by rw [eb]; omega), if_pos (by rw [eb]; omega)]
      have e3 : f_X4_hasThing FU La_167 20 T sb = some 1 := by rw [ev_hasThing (by rw [eb]; omega) (by rw [eb]; omega), if_pos (by rw [eb]; omega)]
      obtain ⟨k1, k2, k3⟩ := mostNeeded_ok (p := P) (t := T) TC_20 (DV_TV lv3.1) (by omega) (by omega) (by omega) (by omega)
      rw [show (20 : Int) + 10 + P = 30 + P by omega, eb 3] at k1 k2 k3
      have w10 := lv3.1.2.2.2.2.2.2.2.2.2.1
      have w11 := lv3.1.2.2.2.2.2.2.2.2.2.2.1 P (by omega) (by omega)
      have x10 := lv3.2.1.2.2.2.2.2.2.2.2.2.1
      have kn := needsOf_ok (a := 142) (p := P) (g := gb) (f := fun t => sb (30 + P) t) (by rw [lb_ln_142]; omega) (by omega) (by omega) (fun t i0 i1 => x10 P t (by omega) (by omega) i0 i1) (fun t i0 i1 => (w10 P t (by omega) (by omega) i0 i1).1) (by rw [eb] at w11; omega)
      have sn := sum_nonneg (f := fun t => sb (30 + P) t) (m := 9) (fun i i0 i1 => (w10 P i (by omega) (by omega) i0 (by omega)).1)
      have wo := w10 P T (by omega) (by omega) (by omega) (by omega)
      have wx := x10 P T (by omega) (by omega) (by omega) (by omega)
      have gb3 : gb 142 11 = s1 20 3 := by rw [q1 _ _ (by omega) (by omega), t1 _ _ (by omega) (by omega)]; exact r4
      have gv0 : gb 143 0 = P := by rw [q1 143 0 (by omega) (by omega)]; exact t2
      rw [eb 3] at w11
      generalize hS : sumI 9 (fun t => sb (30 + P) t) = S at k1 k2 k3 w11 kn sn
      generalize hO : sb (30 + P) T = O at k1 k2 k3 wo wx
      have wo1 := wo.1
      clear wo
      rw [y1, y2, Option.bind_some, Option.bind_some]
      simp only
      rw [if_neg (by decide), Option.bind_some, e2, Option.bind_some, if_neg (by decide), e3, Option.bind_some, if_neg (by decide), Option.bind_some, if_neg (by decide), k1, Option.bind_some]
      simp only
      rw [if_neg (by decide), rdl (a := 143) lb_ln_143 (by omega) (by omega), Option.bind_some, rdl (a := 143) lb_ln_143 (by omega) (by omega), Option.bind_some, rdl (a := 142) lb_ln_142 (by omega) (by omega), Option.bind_some, Option.bind_some, gv0, q2, gb3, kn, Option.bind_some, wid (z := 9 * P) (by omega) (by omega), wid (z := 44 + 9 * P) (by omega) (by omega), wid (z := 44 + 9 * P + T) (by omega) (by omega), rdl (a := 142) lb_ln_142 (by omega) (by omega), Option.bind_some, wx, wid (z := s1 20 3 - S) (by omega) (by omega), wid (z := s1 20 3 - S + O) (by omega) (by omega)]
      rcases num_ok (k := 2) (lo := 0) (hi := s1 20 3 - S + O) hb as2 (by omega) (by omega) with ⟨sc, gc, a1, a2, i1, j1, as3, j2, c1, c2, p3⟩ | ⟨sc, a1, a2, i1, i2, i3, i4, i5⟩
      · have ec : ∀ i : Int, sc 20 i = s1 20 i := fun i => by rw [i1 _ _ (by omega)]; exact eb i
        rw [a1, a2, Option.bind_some, Option.bind_some]
        simp only
        rw [if_neg (by decide), rdl (a := 143) lb_ln_143 (by omega) (by omega), Option.bind_some, j2, wrl (a := 142) lb_ln_142 (by omega) (by omega), Option.bind_some]
        refine fin_ok (s := sc) (g := gc) (A := fun s' => fx_up s' (30 + P) T (gb 126 21)) hb as3 (CF_tr cf (CF_tr (NMF_CF n1) (CF_tr (NMF_CF m1) (NMF_CF i1)))) (RF_tr rf (RF_tr (TKF_RF t1) (RF_tr (TKF_RF q1) (TKF_RF j1)))) (by omega) (by rw [j1 _ _ (by omega) (by omega), q1 _ _ (by omega) (by omega), t1 _ _ (by omega) (by omega)]; omega) (fun s' h1 h2 => ?_) (fun s' h1 => ?_) rfl (fun s' a i y => up_ne (by omega)) (fun a i y => up_ne (by omega)) (fun s' h2 => ?_)
        · rw [h1, Option.bind_some]
          simp only
          rw [if_pos (by decide), tc_tg_9 TC_20, rr_ok (by omega) (by rw [tc_ln_9 TC_20]; omega), Option.bind_some, tc_needs TC_20 (by omega) (by omega), wr_ok (by omega) (by rw [tc_lnN TC_20 (by omega) (by omega)]; omega), Option.bind_some, show (20 : Int) + 10 + P = 30 + P by omega]
        · rw [h1, Option.bind_some]
          simp only
          rw [if_neg (by decide)]
        · have es : ∀ t : Int, s' (30 + P) t = sb (30 + P) t := fun t => by rw [h2 _ _ (by omega), i1 _ _ (by omega)]
          refine LV_need (by omega) (by omega) (by omega) (by rw [h2 _ _ (by omega), ec]; omega) c1 ?_ (by rw [h2 _ _ (by omega), i1 _ _ (by omega), m1 _ _ (by omega), n1 _ _ (by omega)]; omega) (LV_step0 h2 (LV_step i1 j1 lv3))
          simp only [es]
          rw [hS, hO, h2 20 3 (by omega), ec]
          exact c2
      · rw [a1, a2, Option.bind_some, Option.bind_some]
        simp only
        rw [if_pos trivial, stops_dead i2, Option.bind_some]
        simp only
        rw [if_neg (by decide)]
        exact bad_ok (CF_tr cf (CF_tr (NMF_CF n1) (CF_tr (NMF_CF m1) (NMF_CF i1)))) (RF_tr rf (RF_tr (TKF_RF t1) (TKF_RF q1))) rfl rfl i3 i4 i5
    · have eb : ∀ i : Int, sb 20 i = s1 20 i := fun i => by rw [m1 _ _ (by omega), n1 _ _ (by omega)]
      have e2 : f_X4_hasPerson FU La_167 20 (g1 126 21) sb = some 1 := by rw [ev_hasPerson (by rw [eb]; omega) (by rw [eb]; omega), if_pos (by rw [eb]; omega)]
      have e3 : f_X4_hasThing FU La_167 20 (-1) sb = some 0 := by rw [ev_hasThing (by rw [eb]; omega) (by rw [eb]; omega), if_neg (by omega)]
      rw [y1, y2, Option.bind_some, Option.bind_some]
      simp only
      rw [if_pos trivial, Option.bind_some, e2, Option.bind_some, if_neg (by decide), e3, Option.bind_some]
      simp only
      rw [if_pos trivial, if_pos trivial, Option.bind_some]
      simp only
      rw [if_pos trivial]
      exact bad_ok (CF_tr cf (CF_tr (NMF_CF n1) (NMF_CF m1))) (RF_tr rf (TKF_RF t1)) rfl rfl m3 m4 m5
  · have ea : ∀ i : Int, sa 20 i = s1 20 i := fun i => n1 _ _ (by omega)
    have e2 : f_X4_hasPerson FU La_167 20 (-1) sa = some 0 := by rw [ev_hasPerson (by rw [ea]; omega) (by rw [ea]; omega), if_neg (by omega)]
    rw [x1, x2, Option.bind_some, Option.bind_some]
    simp only
    rw [if_pos trivial, Option.bind_some, number_dead n2, Option.bind_some]
    simp only
    rw [if_pos trivial, e2, Option.bind_some]
    simp only
    rw [if_pos trivial, Option.bind_some]
    simp only
    rw [if_pos trivial]
    exact bad_ok (CF_tr cf (NMF_CF n1)) rf rfl rfl n3 n4 n5
theorem add_ok {s0 g0 s g w : fx_H} {v : Int} (hb : BB b len) (as : AS2 b len s g) (lv : LV s g) (cf : CF2 s0 s) (rf : RF2 g0 g) (p : s0 41 2 ≤ s 41 2) (f01 : g 126 23 = 0 ∨ g 126 23 = 1) (hv : -1 ≤ v ∧ v < s 20 0) (c : s 20 0 < 9) (gv : g 143 0 = v) (w1 : NTF s w) (w2 : w 41 4 = g 126 18) (w3 : w 41 2 = g 126 18 + g 126 19) : IT b len s0 g0 (if ¬ g 126 20 = 3 then (f_X3_fail FU La_167 41 w).bind fun h => some h else (f_X4_addThing FU La_167 20 v w).bind fun h => some h) ((fx_rd La_167 g 143 0).bind fun v19 => (fx_wr La_167 g 142 (fx_w (1 + s 20 0)) v19).bind fun h21 => (fx_rd La_167 h21 142 0).bind fun v23 => (fx_wr La_167 h21 142 0 (fx_w (v23 + 1))).bind fun h25 => some (1, h25)) := by
  have tb := TOK_b as.2.2.2.2.2.1
  have p0 := as.2.2.2.1
  have d0 := lv.1.1
  have r0 : g 142 0 = s 20 0 := lv.2.1.1
  have wf : w 41 5 = -1 := by rw [w1 _ _ (by omega)]; exact as.2.2.1
  have wd : w 20 0 = s 20 0 := w1 _ _ (by omega)
  have cw : CF2 s w := fun a i _ y => w1 a i (by omega)
  rw [rdl (a := 143) lb_ln_143 (by omega) (by omega), Option.bind_some, gv, wid (z := 1 + s 20 0) (by omega) (by omega), wrl (a := 142) lb_ln_142 (by omega) (by omega), Option.bind_some, rdl (a := 142) lb_ln_142 (by omega) (by omega), Option.bind_some, up_ne (by omega), r0, wid (z := s 20 0 + 1) (by omega) (by omega), wrl (a := 142) lb_ln_142 (by omega) (by omega), Option.bind_some]
  have hG : ∀ a i : Int, a ≠ 142 → fx_up (fx_up g 142 (1 + s 20 0) v) 142 0 (s 20 0 + 1) a i = g a i := fun a i y => by rw [up_ne (by omega), up_ne (by omega)]
  have rG : RF2 g0 (fx_up (fx_up g 142 (1 + s 20 0) v) 142 0 (s 20 0 + 1)) := fun a i x y z => by rw [hG a i x, rf a i x y z]
  by_cases c3 : g 126 20 = 3
  · have ea : f_X4_addThing FU La_167 20 v w = some (fx_up (fx_up w 21 (w 20 0) v) 20 0 (w 20 0 + 1)) := by
      unfold f_X4_addThing
      rw [if_pos (by omega), tc_tg_6 TC_20, show (20 : Int) + 1 = 21 from rfl, wrl lb_ln_21 (by omega) (by omega), Option.bind_some, up_ne (by omega), wid (by omega) (by omega)]
    have hA : ∀ a i : Int, ¬ (20 ≤ a ∧ a ≤ 38) → fx_up (fx_up w 21 (w 20 0) v) 20 0 (w 20 0 + 1) a i = w a i := fun a i y => by rw [up_ne (by omega), up_ne (by omega)]
    have lw : LV w g := LV_congr (fun a i _ _ => w1 a i (by omega)) (fun _ => rfl) (by rw [w1 _ _ (by omega)]; exact lv.2.2.1) (fun z => by rw [w1 _ _ (by omega)] at z; exact z) lv
    have ll := LV_thing (v := v) hv.1 (by omega) (by omega) lw
    rw [if_neg (not_not_intro c3), ea, Option.bind_some]
    refine ⟨_, _, _, rfl, rfl, fun a i y z => by rw [hA a i y, cw a i y z, cf a i y z], rG, Or.inl ⟨?_, rfl, ?_, ?_, ?_, ⟨s 41 2, p0, ?_⟩, ?_, ?_⟩⟩
    · rw [hA _ _ (by omega)]; exact wf
    · rw [hG _ _ (by omega)]; exact c3
    · rw [hA _ _ (by omega)]; omega
    · rw [hA _ _ (by omega), hG _ _ (by omega), hG _ _ (by omega)]; exact w3
    · exact AHD_congr (fun i _ _ => hG _ _ (by omega)) as.2.2.2.2.2
    · rw [wd] at ll ⊢; exact ll
    · rw [hG _ _ (by omega)]; exact f01
  · rw [if_pos c3, fail_ok wf, Option.bind_some]
    refine ⟨_, _, _, rfl, rfl, CF_tr cf (CF_tr cw (up_CF (by omega))), rG, Or.inr ⟨?_, ?_, ?_, Or.inr ⟨rfl, ?_⟩⟩⟩
    · rw [hG _ _ (by omega), up_eq rfl rfl]; exact w2
    · rw [hG _ _ (by omega)]; omega
    · rw [hG _ _ (by omega), up_ne (by omega)]; omega
    · rw [hG _ _ (by omega)]; exact c3
theorem thing_ok {s g : fx_H} (hb : BB b len) (lh : LH b len s g) : IT b len s g (f_X3_readThing FU La_167 41 20 s) (f_X6_readsThing FU La_167 126 g) := by
  have lb := LH_b lh
  obtain ⟨hc, hr, f, l1, l2, l3, l3', lv, l4⟩ := id lh
  have l5 := lv.2.2.1
  have d0 := lv.1.1
  have g0 : g 142 0 = s 20 0 := lv.2.1.1
  unfold f_X3_readThing f_X6_readsThing
  rw [lb_tg_126_22, rdl (a := 142) lb_ln_142 (by omega) (by omega), Option.bind_some, g0]
  by_cases c : s 20 0 = 9
  · rw [if_pos (by omega), if_pos c, fail_ok f, Option.bind_some]
    exact bad_ok (up_CF (by omega)) RF_rf rfl rfl (by rw [up_eq rfl rfl]; exact l1) (by omega) (by rw [up_ne (by omega)]; omega)
  · obtain ⟨g1, e1, as, lv1, cf, rf, g23, s2⟩ := go_ok (s1 := s) (g0 := g) (z := g 126 23) hb lh (fun _ _ _ => rfl) (fun _ _ _ => rfl) l5 rfl (fun z => by omega)
    rw [if_neg (by omega), if_neg c, e1, Option.bind_some, lb_tg_126_24, wrl (a := 143) lb_ln_143 (by omega) (by omega), Option.bind_some]
    have h0 : ∀ a i : Int, a ≠ 143 → fx_up g1 143 0 (-1) a i = g1 a i := fun a i z => up_ne (by omega)
    have h1 : fx_up g1 143 0 (-1) 143 0 = -1 := up_eq rfl rfl
    generalize fx_up g1 143 0 (-1) = g2 at h0 h1
    have rf2 : RF2 g g2 := fun a i x y z => by rw [h0 a i y, rf a i x y z]
    have as2 : AS2 b len s g2 := ⟨as.1, RF_BR rf2 hr, as.2.2.1, as.2.2.2.1, as.2.2.2.2.1, AHD_congr (fun i _ _ => h0 _ _ (by omega)) as.2.2.2.2.2⟩
    have lv2 : LV s g2 := LV_congr (fun _ _ _ _ => rfl) (fun i => h0 _ _ (by omega)) (by rw [h0 _ _ (by omega)]; exact lv1.2.2.1) id lv1
    have f2 : g2 126 23 = 0 ∨ g2 126 23 = 1 := by rw [h0 _ _ (by omega), g23]; exact l4
    clear h0 lv1 as rf e1 g23
    obtain ⟨t, e3, t1, t2, t3, t4, t5⟩ := nx_ok hb as2
    have tb := TOK_b as2.2.2.2.2.2.1
    have p0 := as2.2.2.2.1
    have tf : t 41 5 = -1 := by rw [t1 _ _ (by omega)]; exact f
    have td : t 20 0 = s 20 0 := t1 _ _ (by omega)
    have ct : CF2 s t := fun a i _ y => t1 a i (by omega)
    rw [e3, Option.bind_some, t4]
    by_cases c2 : g2 126 20 = 2
    · rw [if_pos c2, if_pos c2, t5 c2, Option.bind_some, wid (z := s 20 0 - 1) (by omega) (by omega), ev_hasThing (by omega) (by omega), Option.bind_some, td]
      by_cases c3 : 0 ≤ g2 126 21 ∧ g2 126 21 < s 20 0
      · obtain ⟨g3, x1, x2, x3, x4⟩ := takes_ok (k := 0) (lo := 0) (hi := s 20 0 - 1) hb as2.2.1 p0 (by omega) (by omega) as2.2.2.2.2.2 ⟨c2, by omega, by omega⟩
        have as3 : AS2 b len t g3 := ⟨CF_BC ct hc, RF_BR (TKF_RF x2) as2.2.1, tf, by omega, by omega, by rw [t3]; exact x4⟩
        obtain ⟨w, y1, y2, y3, y4, y5, -⟩ := nx_ok hb as3
        rw [if_pos c3, if_neg (by decide), x1, Option.bind_some]
        simp only
        rw [if_neg (by decide), Option.bind_some]
        simp only
        rw [y1, Option.bind_some, y5, if_neg (show ¬ false = true by decide), ← td]
        exact add_ok (s := t) (g := g3) hb as3 (LV_congr (fun a i _ _ => t1 a i (by omega)) (fun i => x2 142 i (by omega) (by omega)) (by rw [t1 _ _ (by omega), x2 _ _ (by omega) (by omega)]; exact lv2.2.2.1) (fun z => by rw [t1 _ _ (by omega)] at z; exact z) lv2) ct (RF_tr rf2 (TKF_RF x2)) (by omega) (by rw [x2 _ _ (by omega) (by omega)]; exact f2) (by omega) (by omega) x3 y2 y3 y4
      · have nG : ¬ GN g2 0 (s 20 0 - 1) := fun z => c3 ⟨z.2.1, by have := z.2.2; omega⟩
        rw [if_neg c3, if_pos rfl, takes_no nG, Option.bind_some]
        simp only
        rw [if_pos trivial, Option.bind_some, fail_ok tf, Option.bind_some]
        simp only
        rw [if_pos trivial]
        exact bad_ok (CF_tr ct (up_CF (by omega))) rf2 rfl rfl (by rw [up_eq rfl rfl]; exact t2) (by omega) (by rw [up_ne (by omega)]; omega)
    · rw [if_neg c2, if_neg c2, Option.bind_some]
      simp only
      rw [if_neg (show ¬ false = true by decide)]
      exact add_ok (s := s) (g := g2) hb as2 lv2 CF_rf rf2 (by omega) f2 (by omega) (by omega) h1 t1 t2 t3
end ITEMS
