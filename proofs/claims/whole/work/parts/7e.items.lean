-- needs: 7d
section ITEMS
variable {b : Int → Int} {len : Int}
theorem fin_ok {s0 g0 s g G : fx_H} {A : fx_H → fx_H} {X : Option fx_H} {Y : Option (Int × fx_H)} (hb : BB b len) (as : AS2 b len s g) (cf : CF2 s0 s) (rf : RF2 g0 g) (p : s0 41 2 ≤ s 41 2) (f01 : g 126 23 = 0 ∨ g 126 23 = 1) (hx1 : ∀ s' : fx_H, f_X3_stops FU La_167 41 s = some (1, s') → NMF s s' → X = some (A s')) (hx0 : ∀ s' : fx_H, f_X3_stops FU La_167 41 s = some (0, s') → X = some s') (hy : Y = some (1, G)) (hA : ∀ (s' : fx_H) (a i : Int), ¬ (20 ≤ a ∧ a ≤ 38) → A s' a i = s' a i) (hG : ∀ a i : Int, a ≠ 142 → G a i = g a i) (hl : ∀ s' : fx_H, NMF s s' → LV (A s') G) : IT b len s0 g0 X Y := by
  have rG : RF2 g0 G := fun a i x y z => by rw [hG a i x, rf a i x y z]
  rcases stp_ok hb as with ⟨s2, e3, m1, m2, m3, m4, m5⟩ | ⟨s2, e3, m1, m2, m3, m4, m5⟩
  · refine ⟨_, _, _, hx1 s2 e3 m1, hy, fun a i y z => by rw [hA _ a i y, m1 a i (by omega), cf a i y z], rG, Or.inl ⟨?_, rfl, ?_, ?_, ?_, ⟨s 41 2, as.2.2.2.1, ?_⟩, hl s2 m1, ?_⟩⟩
    · rw [hA _ _ _ (by omega)]; exact m2
    · rw [hG _ _ (by omega)]; exact m3
    · rw [hA _ _ _ (by omega)]; omega
    · rw [hA _ _ _ (by omega), hG _ _ (by omega), hG _ _ (by omega)]; exact m5
    · exact AHD_congr (fun i _ _ => hG _ _ (by omega)) as.2.2.2.2.2
    · rw [hG _ _ (by omega)]; exact f01
  · refine ⟨_, _, _, hx0 s2 e3, hy, CF_tr cf (NMF_CF m1), rG, Or.inr ⟨?_, ?_, ?_, Or.inr ⟨rfl, ?_⟩⟩⟩
    · rw [hG _ _ (by omega)]; exact m2
    · rw [hG _ _ (by omega)]; exact m4
    · rw [hG _ _ (by omega)]; exact m5
    · rw [hG _ _ (by omega)]; exact m3
theorem bad_ok {s0 g0 s g : fx_H} {X : Option fx_H} {Y : Option (Int × fx_H)} (cf : CF2 s0 s) (rf : RF2 g0 g) (hx : X = some s) (hy : Y = some (0, g)) (e : s 41 5 = g 126 18) (e0 : 0 ≤ g 126 18) (e1 : g 126 18 ≤ len ∧ 0 ≤ s 41 2 ∧ s 41 2 ≤ len) : IT b len s0 g0 X Y := ⟨s, 0, g, hx, hy, cf, rf, Or.inr ⟨e, e0, e1, Or.inl rfl⟩⟩
theorem LH_b {s g : fx_H} (lh : LH b len s g) : 0 ≤ g 126 18 ∧ g 126 18 ≤ len ∧ 0 ≤ g 126 19 ∧ g 126 18 + g 126 19 ≤ len ∧ (¬ g 126 20 = 0 → 0 < g 126 19) ∧ (g 126 20 = 0 → g 126 18 = len) := by
  obtain ⟨hc, hr, f, l1, l2, l3, ⟨pos, p0, ah⟩, lv, l4⟩ := lh
  have tb := TOK_b ah.1
  exact ⟨by omega, by omega, by omega, by omega, by omega, by omega⟩
theorem people_ok {s g : fx_H} (hb : BB b len) (lh : LH b len s g) : IT b len s g (f_X3_readPeople FU La_167 41 20 s) (f_X6_readsSize FU La_167 126 10 g) := by
  have lb := LH_b lh
  obtain ⟨hc, hr, f, l1, l2, l3, l3', lv, l4⟩ := id lh
  have l5 := lv.2.2.1
  by_cases c : s 41 6 = 0
  · obtain ⟨g1, e1, as, lv1, cf, rf, g23, s2⟩ := go_ok (s1 := s) (g0 := g) (z := 0) hb lh (fun _ _ _ => rfl) (fun _ _ _ => rfl) c (by omega) (fun _ => c)
    unfold f_X3_readPeople f_X6_readsSize
    rw [if_neg (not_not_intro c), if_neg (show ¬ ¬ g 126 23 = 0 by omega), e1, Option.bind_some, Option.bind_some, lb_tg_126_24, lb_tg_126_22]
    exact IT_pre cf rf (by omega) (size_ok (c := 2) (j := 10) (lo := 1) (hi := 5) hb as lv1 (by omega) (by omega) (by omega) (fun s' g' lv' e6 e2 v h0 h1 => LV_people h0 h1 (by rw [e6]; exact c) lv'))
  · unfold f_X3_readPeople f_X6_readsSize
    have nd : ¬ fx_up s 41 5 (s 41 4) 41 5 = -1 := by rw [up_eq rfl rfl]; omega
    rw [if_pos c, if_pos (show ¬ g 126 23 = 0 by omega), fail_ok f, Option.bind_some, Option.bind_some, number_dead nd, Option.bind_some]
    simp only
    rw [stops_dead nd, Option.bind_some]
    simp only
    rw [if_neg (by decide)]
    exact bad_ok (up_CF (by omega)) RF_rf rfl rfl (by rw [up_eq rfl rfl]; exact l1) (by omega) (by rw [up_ne (by omega)]; omega)
theorem hours_ok {s g : fx_H} (hb : BB b len) (lh : LH b len s g) : IT b len s g (f_X3_readHours FU La_167 41 20 s) (f_X6_readsSize FU La_167 126 11 g) := by
  have lb := LH_b lh
  obtain ⟨hc, hr, f, l1, l2, l3, l3', lv, l4⟩ := id lh
  have l5 := lv.2.2.1
  by_cases c : s 41 6 = 0
  · obtain ⟨g1, e1, as, lv1, cf, rf, g23, s2⟩ := go_ok (s1 := s) (g0 := g) (z := 0) hb lh (fun _ _ _ => rfl) (fun _ _ _ => rfl) c (by omega) (fun _ => c)
    unfold f_X3_readHours f_X6_readsSize
    rw [if_neg (not_not_intro c), if_neg (show ¬ ¬ g 126 23 = 0 by omega), e1, Option.bind_some, Option.bind_some, lb_tg_126_24, lb_tg_126_22]
    exact IT_pre cf rf (by omega) (size_ok (c := 3) (j := 11) (lo := 1) (hi := 5) hb as lv1 (by omega) (by omega) (by omega) (fun s' g' lv' e6 e2 v h0 h1 => LV_hours h0 h1 (by rw [e6]; exact c) lv'))
  · unfold f_X3_readHours f_X6_readsSize
    have nd : ¬ fx_up s 41 5 (s 41 4) 41 5 = -1 := by rw [up_eq rfl rfl]; omega
    rw [if_pos c, if_pos (show ¬ g 126 23 = 0 by omega), fail_ok f, Option.bind_some, Option.bind_some, number_dead nd, Option.bind_some]
    simp only
    rw [stops_dead nd, Option.bind_some]
    simp only
    rw [if_neg (by decide)]
    exact bad_ok (up_CF (by omega)) RF_rf rfl rfl (by rw [up_eq rfl rfl]; exact l1) (by omega) (by rw [up_ne (by omega)]; omega)
theorem hour_ok {s g : fx_H} (hb : BB b len) (lh : LH b len s g) : IT b len s g (f_X3_readHour FU La_167 41 20 s) (f_X6_readsHour FU La_167 126 g) := by
  unfold f_X3_readHour f_X6_readsHour
  have u1 : ∀ a i : Int, ¬ (a = 41 ∧ i = 6) → fx_up s 41 6 1 a i = s a i := fun a i z => up_ne (by omega)
  have u2 : fx_up s 41 6 1 41 6 = 1 := up_eq rfl rfl
  have u3 : ∀ a i : Int, ¬ (a = 126 ∧ i = 23) → fx_up g 126 23 1 a i = g a i := fun a i z => up_ne (by omega)
  have u4 : fx_up g 126 23 1 126 23 = 1 := up_eq rfl rfl
  generalize fx_up s 41 6 1 = s1 at u1 u2
  generalize fx_up g 126 23 1 = g0 at u3 u4
  obtain ⟨g1, e1, as, lv1, cf, rf, g23, s2⟩ := go_ok (s1 := s1) (g0 := g0) (z := 1) hb lh u1 u3 u2 u4 (fun z => by omega)
  obtain ⟨⟨v1, v1'⟩, ⟨v2, v2'⟩, ⟨v3, v3'⟩, ⟨v4, v4'⟩, -⟩ := id lv1.1
  obtain ⟨r1, r2, r3, r4, -⟩ := id lv1.2.1
  rw [e1, Option.bind_some, lb_tg_126_22, lb_tg_126_24, rdl (a := 142) lb_ln_142 (by omega) (by omega), Option.bind_some, r4, wid (z := s1 20 3 - 1) (by omega) (by omega)]
  rcases num_ok (k := 0) (lo := 0) (hi := s1 20 3 - 1) hb as (by omega) (by omega) with ⟨sa, ga, x1, x2, n1, t1, as1, t2, w1, w2, p1⟩ | ⟨sa, x1, x2, n1, n2, n3, n4, n5⟩
  · rw [x1, x2, Option.bind_some, Option.bind_some]
    simp only
    rw [if_neg (by decide)]
    rcases num_ok (k := 1) (lo := 0) (hi := 5) hb as1 (by omega) (by omega) with ⟨sb, gb, y1, y2, m1, q1, as2, q2, z1, z2, p2⟩ | ⟨sb, y1, y2, m1, m2, m3, m4, m5⟩
    · rw [y1, y2, Option.bind_some, Option.bind_some]
      simp only
      rw [if_neg (by decide), Option.bind_some]
      simp only
      rw [if_neg (by decide), rdl (a := 143) lb_ln_143 (by omega) (by omega), Option.bind_some, rdl (a := 143) lb_ln_143 (by omega) (by omega), Option.bind_some, q2, q1 143 0 (by omega) (by omega), t2, wid (z := 14 + g1 126 21) (by omega) (by omega), wrl (a := 142) lb_ln_142 (by omega) (by omega), Option.bind_some]
      have b3 : sb 20 3 = s1 20 3 := by rw [m1 _ _ (by omega), n1 _ _ (by omega)]
      refine fin_ok (s := sb) (g := gb) (A := fun s' => fx_up s' 22 (g1 126 21) (ga 126 21)) hb as2 (CF_tr cf (CF_tr (NMF_CF n1) (NMF_CF m1))) (RF_tr rf (RF_tr (TKF_RF t1) (TKF_RF q1))) (by omega) (by rw [q1 _ _ (by omega) (by omega), t1 _ _ (by omega) (by omega)]; omega) (fun s' h1 h2 => ?_) (fun s' h1 => ?_) rfl (fun s' a i y => up_ne (by omega)) (fun a i y => up_ne (by omega)) (fun s' h2 => ?_)
      · have b4 : s' 20 3 = s1 20 3 := by rw [h2 _ _ (by omega)]; exact b3
        rw [h1, Option.bind_some]
        simp only
        rw [if_pos (by decide), ev_hasHour (by omega) (by omega), Option.bind_some, if_pos (show 0 ≤ g1 126 21 ∧ g1 126 21 < s' 20 3 by omega), if_pos (by decide), Option.bind_some]
        simp only
        rw [if_pos trivial, tc_tg_7 TC_20, show (20 : Int) + 2 = 22 from rfl, wrl lb_ln_22 (by omega) (by omega), Option.bind_some]
      · rw [h1, Option.bind_some]
        simp only
        rw [if_neg (by decide), Option.bind_some]
        simp only
        rw [if_neg (by decide)]
      · exact LV_kind (by omega) (by rw [h2 _ _ (by omega), b3]; omega) z1 z2 (by rw [h2 _ _ (by omega), m1 _ _ (by omega), n1 _ _ (by omega)]; omega) (LV_step0 h2 (LV_step m1 q1 (LV_step n1 t1 lv1)))
    · rw [y1, y2, Option.bind_some, Option.bind_some]
      simp only
      rw [if_pos trivial, Option.bind_some, stops_dead m2, Option.bind_some]
      simp only
      rw [if_pos trivial, if_neg (by decide), Option.bind_some]
      simp only
      rw [if_neg (by decide)]
      exact bad_ok (CF_tr cf (CF_tr (NMF_CF n1) (NMF_CF m1))) (RF_tr rf (TKF_RF t1)) rfl rfl m3 m4 m5
  · rw [x1, x2, Option.bind_some, Option.bind_some]
    simp only
    rw [if_pos trivial, Option.bind_some, number_dead n2, Option.bind_some]
    simp only
    rw [if_pos trivial, stops_dead n2, Option.bind_some]
    simp only
    rw [if_neg (by decide), Option.bind_some]
    simp only
    rw [if_neg (by decide)]
    exact bad_ok (CF_tr cf (NMF_CF n1)) rf rfl rfl n3 n4 n5
end ITEMS
