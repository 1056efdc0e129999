-- needs: 7f
section ITEM
variable {b : Int → Int} {len : Int}
theorem isWord_not {g : fx_H} {x0 x1 x2 x3 x4 x5 : Int} (t1 : ¬ g 126 20 = 1) : f_X6_isWord FU La_167 126 x0 x1 x2 x3 x4 x5 g = some 0 := by
  unfold f_X6_isWord
  have e0 : ∃ z : Int, (if x4 = 0 then some (4 : Int) else ((if x5 = 0 then some (5 : Int) else some 6).bind fun v5 => some v5)) = some z := by
    by_cases q1 : x4 = 0
    · exact ⟨4, by rw [if_pos q1]⟩
    · by_cases q2 : x5 = 0
      · exact ⟨5, by rw [if_neg q1, if_pos q2]; rfl⟩
      · exact ⟨6, by rw [if_neg q1, if_neg q2]; rfl⟩
  obtain ⟨z, e0⟩ := e0
  rw [e0, Option.bind_some, if_neg (fun y => t1 y.1), Option.bind_some]
  have : fx_loop (s_X6_isWord_1 FU La_167 126 x0 x1 x2 x3 x4 x5 z g) FU (0, 0) = some (0, 0) := by
    refine loop_seq (fun _ => ((0 : Int), (0 : Int))) 0 (fun j hj => by omega) ?_ (FU_gt (by omega))
    unfold s_X6_isWord_1
    simp only
    rw [if_neg (fun y => y.2 trivial)]
  rw [this]
  rfl
theorem word_ok {s g : fx_H} {w x0 x1 x2 x3 x4 x5 : Int} (hb : BB b len) (lh : LH b len s g) (t1 : g 126 20 = 1) (hw : 10 ≤ w ∧ w < 18) (hz : (if x4 = 0 then (4 : Int) else if x5 = 0 then 5 else 6) = (fx_sN w : Int)) (hs : ∀ k : Nat, k < fx_sN w → selW x0 x1 x2 x3 x4 x5 k = fx_sB w k) : (WDm b w (g 126 18) (g 126 18 + g 126 19) ∧ f_X3_spells FU La_167 41 w s = some 1 ∧ f_X6_isWord FU La_167 126 x0 x1 x2 x3 x4 x5 g = some 1) ∨ (¬ WDm b w (g 126 18) (g 126 18 + g 126 19) ∧ f_X3_spells FU La_167 41 w s = some 0 ∧ f_X6_isWord FU La_167 126 x0 x1 x2 x3 x4 x5 g = some 0) := by
  have lb := LH_b lh
  obtain ⟨hc, hr, f, l1, l2, l3, l3', lv, l4⟩ := id lh
  obtain ⟨v, e1, e2, e3⟩ := spells_ok (s := s) hb hc hw (by omega) (by omega) (by omega)
  obtain ⟨v', d1, d2, d3⟩ := isWord_ok (g := g) hb hr hw t1 (by omega) (by omega) (by omega) hz hs
  rw [l1, l2] at e3
  by_cases c : WDm b w (g 126 18) (g 126 18 + g 126 19)
  · exact Or.inl ⟨c, by rw [e1, e3.mpr c], by rw [d1, d3.mpr c]⟩
  · refine Or.inr ⟨c, ?_, ?_⟩
    · rcases e2 with z | z
      · rw [e1, z]
      · exact absurd (e3.mp z) c
    · rcases d2 with z | z
      · rw [d1, z]
      · exact absurd (d3.mp z) c
theorem WDm_ex {w w' a e : Int} (n : 0 < fx_sN w) (n' : 0 < fx_sN w') (d : fx_sB w 0 ≠ fx_sB w' 0) (h : WDm b w a e) : ¬ WDm b w' a e := fun h' => d (by rw [← h.2 0 (by omega) (by omega), ← h'.2 0 (by omega) (by omega)])
theorem line_ok {s g : fx_H} (hb : BB b len) (lh : LH b len s g) : IT b len s g (f_X3_readLine FU La_167 41 20 s) ((f_X6_goOn FU La_167 126 (fx_up g 126 23 (if ¬ g 126 23 = 0 then 1 else 0))).bind fun h70 => (f_X6_takes FU La_167 126 0 0 4 h70).bind fun (v4, h5) => (fx_rd La_167 h5 143 0).bind fun v7 => (fx_wr La_167 h5 142 12 v7).bind fun h9 => (fx_zb v4).bind fun z11 => some (z11, h9)) := by
  obtain ⟨hc, hr, f, l1, l2, l3, l3', lv, l4⟩ := id lh
  have l5 := lv.2.2.1
  have ez : (if ¬ g 126 23 = 0 then (1 : Int) else 0) = g 126 23 := by split <;> omega
  rw [ez]
  obtain ⟨g1, e1, as, lv1, cf, rf, g23, s2⟩ := go_ok (s1 := s) (g0 := fx_up g 126 23 (g 126 23)) (z := g 126 23) hb lh (fun _ _ _ => rfl) (fun _ _ _ => up_ne (by omega)) l5 (up_eq rfl rfl) (fun z => by omega)
  rw [e1, Option.bind_some]
  unfold f_X3_readLine
  exact IT_pre cf rf (by omega) (size_ok (c := 1) (j := 12) (lo := 0) (hi := 4) hb as lv1 (by rw [g23]; exact l4) (by omega) (by omega) (fun s' g' lv' e6 e2 v h0 h1 => LV_line h0 h1 lv'))
theorem rich_ok {s g : fx_H} (hb : BB b len) (lh : LH b len s g) : IT b len s g (f_X3_readRich FU La_167 41 20 s) ((f_X6_goOn FU La_167 126 (fx_up g 126 23 1)).bind fun h70 => (if ¬ (0 : Int) = 0 then some (4 : Int) else (fx_rd La_167 h70 142 10).bind fun v76 => some (fx_w (v76 - 1))).bind fun v72 => (f_X6_takes FU La_167 126 0 0 v72 h70).bind fun (v4, h5) => (fx_rd La_167 h5 143 0).bind fun v7 => (fx_wr La_167 h5 142 13 v7).bind fun h9 => (fx_zb v4).bind fun z11 => some (z11, h9)) := by
  unfold f_X3_readRich
  have u1 : ∀ a i : Int, ¬ (a = 41 ∧ i = 6) → fx_up s 41 6 1 a i = s a i := fun a i z => up_ne (by omega)
  have u2 : fx_up s 41 6 1 41 6 = 1 := up_eq rfl rfl
  have u3 : ∀ a i : Int, ¬ (a = 126 ∧ i = 23) → fx_up g 126 23 1 a i = g a i := fun a i z => up_ne (by omega)
  have u4 : fx_up g 126 23 1 126 23 = 1 := up_eq rfl rfl
  generalize fx_up s 41 6 1 = s1 at u1 u2
  generalize fx_up g 126 23 1 = g0 at u3 u4
  obtain ⟨g1, e1, as, lv1, cf, rf, g23, s2⟩ := go_ok (s1 := s1) (g0 := g0) (z := 1) hb lh u1 u3 u2 u4 (fun z => by omega)
  have v3 := lv1.1.2.2.1
  have r3 : g1 142 10 = s1 20 2 := lv1.2.1.2.2.1
  rw [e1, Option.bind_some, if_neg (not_not_intro rfl), rdl (a := 142) lb_ln_142 (by omega) (by omega), Option.bind_some, Option.bind_some, r3, wid (z := s1 20 2 - 1) (by omega) (by omega)]
  exact IT_pre cf rf (by omega) (size_ok (c := 4) (j := 13) (lo := 0) (hi := s1 20 2 - 1) hb as lv1 (by omega) (by omega) (by omega) (fun s' g' lv' e6 e2 v h0 h1 => LV_rich h0 (by omega) (by omega) lv'))
theorem IT_v {s g : fx_H} {x : Option fx_H} {y : Option (Int × fx_H)} (h : IT b len s g x y) : IT b len s g (x.bind fun h2 => some h2) (y.bind fun (v4, h5) => (fx_zb v4).bind fun z7 => some (z7, h5)) := by
  obtain ⟨s', v, g', h1, h2, h3, h4, h5⟩ := h
  have hv : v = 0 ∨ v = 1 := by
    rcases h5 with h5 | h5
    · exact Or.inr h5.2.1
    · rcases h5.2.2.2 with z | z
      · exact Or.inl z
      · exact Or.inr z.1
  refine ⟨s', v, g', by rw [h1]; rfl, ?_, h3, h4, h5⟩
  rw [h2, Option.bind_some]
  simp only
  rw [zb_ok hv, Option.bind_some]
theorem item_ok {s g : fx_H} (hb : BB b len) (lh : LH b len s g) : IT b len s g (f_X3_readItem FU La_167 41 20 s) (f_X6_readsItem FU La_167 126 g) := by
  have lb := LH_b lh
  obtain ⟨hc, hr, f, l1, l2, l3, l3', lv, l4⟩ := id lh
  unfold f_X3_readItem f_X6_readsItem
  have bad : IT b len s g ((f_X3_fail FU La_167 41 s).bind fun h => some h) (some (0, g)) := by
    rw [fail_ok f]
    exact bad_ok (up_CF (by omega)) RF_rf rfl rfl (by rw [up_eq rfl rfl]; exact l1) (by omega) (by rw [up_ne (by omega)]; omega)
  by_cases c : g 126 20 = 1
  · rw [if_neg (by omega)]
    rcases word_ok (w := 10) (x0 := 116) (x1 := 104) (x2 := 105) (x3 := 110) (x4 := 103) (x5 := 0) hb lh c (by omega) (by decide +kernel) (by decide +kernel) with ⟨-, e1, e2⟩ | ⟨-, e1, e2⟩
    · rw [e1, e2, Option.bind_some, Option.bind_some, if_pos (by decide), if_pos (by decide)]
      exact IT_v (thing_ok hb lh)
    rw [e1, e2, Option.bind_some, Option.bind_some, if_neg (by decide), if_neg (by decide)]
    rcases word_ok (w := 11) (x0 := 112) (x1 := 101) (x2 := 111) (x3 := 112) (x4 := 108) (x5 := 101) hb lh c (by omega) (by decide +kernel) (by decide +kernel) with ⟨-, e1, e2⟩ | ⟨-, e1, e2⟩
    · rw [e1, e2, Option.bind_some, Option.bind_some, if_pos (by decide), if_pos (by decide)]
      exact IT_v (people_ok hb lh)
    rw [e1, e2, Option.bind_some, Option.bind_some, if_neg (by decide), if_neg (by decide)]
    rcases word_ok (w := 12) (x0 := 104) (x1 := 111) (x2 := 117) (x3 := 114) (x4 := 115) (x5 := 0) hb lh c (by omega) (by decide +kernel) (by decide +kernel) with ⟨-, e1, e2⟩ | ⟨-, e1, e2⟩
    · rw [e1, e2, Option.bind_some, Option.bind_some, if_pos (by decide), if_pos (by decide)]
      exact IT_v (hours_ok hb lh)
    rw [e1, e2, Option.bind_some, Option.bind_some, if_neg (by decide), if_neg (by decide)]
    rcases word_ok (w := 13) (x0 := 104) (x1 := 111) (x2 := 117) (x3 := 114) (x4 := 0) (x5 := 0) hb lh c (by omega) (by decide +kernel) (by decide +kernel) with ⟨-, e1, e2⟩ | ⟨-, e1, e2⟩
    · rw [e1, e2, Option.bind_some, Option.bind_some, if_pos (by decide), if_pos (by decide)]
      exact IT_v (hour_ok hb lh)
    rw [e1, e2, Option.bind_some, Option.bind_some, if_neg (by decide), if_neg (by decide)]
    have wl := word_ok (w := 14) (x0 := 108) (x1 := 105) (x2 := 110) (x3 := 101) (x4 := 0) (x5 := 0) hb lh c (by omega) (by decide +kernel) (by decide +kernel)
    have wr := word_ok (w := 15) (x0 := 114) (x1 := 105) (x2 := 99) (x3 := 104) (x4 := 0) (x5 := 0) hb lh c (by omega) (by decide +kernel) (by decide +kernel)
    have wd := word_ok (w := 16) (x0 := 100) (x1 := 111) (x2 := 101) (x3 := 115) (x4 := 0) (x5 := 0) hb lh c (by omega) (by decide +kernel) (by decide +kernel)
    have wn := word_ok (w := 17) (x0 := 110) (x1 := 101) (x2 := 101) (x3 := 100) (x4 := 0) (x5 := 0) hb lh c (by omega) (by decide +kernel) (by decide +kernel)
    rcases wl with ⟨il, l7, l8⟩ | ⟨il, l7, l8⟩
    · rcases wd with ⟨jd, -⟩ | ⟨-, d7, d8⟩
      · exact absurd jd (WDm_ex (by decide +kernel) (by decide +kernel) (by decide +kernel) il)
      rcases wn with ⟨jd, -⟩ | ⟨-, n7, n8⟩
      · exact absurd jd (WDm_ex (by decide +kernel) (by decide +kernel) (by decide +kernel) il)
      rw [l7, d8, n8, Option.bind_some, Option.bind_some, if_pos (by decide), if_neg (by decide), Option.bind_some, if_neg (by decide), l8, Option.bind_some, if_neg (by decide), Option.bind_some, if_neg (by decide)]
      have ez : (if ((¬ (g 126 23) = 0) ∨ ((1 : Int) = 0)) then some (1 : Int) else some 0) = some (if ¬ g 126 23 = 0 then 1 else 0) := by
        by_cases q : g 126 23 = 0
        · rw [if_neg (by omega), if_neg (by omega)]
        · rw [if_pos (by omega), if_pos (by omega)]
      rw [ez, Option.bind_some, zb_ite, Option.bind_some, lb_tg_126_22, lb_tg_126_24, show ((f_X3_readLine FU La_167 41 20 s).bind fun h27 => some h27) = f_X3_readLine FU La_167 41 20 s by cases f_X3_readLine FU La_167 41 20 s <;> rfl]
      exact line_ok hb lh
    rcases wr with ⟨ir, r7, r8⟩ | ⟨ir, r7, r8⟩
    · rcases wd with ⟨jd, -⟩ | ⟨-, d7, d8⟩
      · exact absurd jd (WDm_ex (by decide +kernel) (by decide +kernel) (by decide +kernel) ir)
      rcases wn with ⟨jd, -⟩ | ⟨-, n7, n8⟩
      · exact absurd jd (WDm_ex (by decide +kernel) (by decide +kernel) (by decide +kernel) ir)
      rw [l7, r7, d8, n8, Option.bind_some, Option.bind_some, if_neg (by decide), Option.bind_some, if_pos (by decide), if_neg (by decide), Option.bind_some, if_neg (by decide), l8, Option.bind_some, if_pos rfl, r8, Option.bind_some, if_neg (by decide), Option.bind_some, if_neg (by decide), if_pos (Or.inr rfl), Option.bind_some, zb_1, Option.bind_some, lb_tg_126_22, lb_tg_126_24, show ((f_X3_readRich FU La_167 41 20 s).bind fun h27 => some h27) = f_X3_readRich FU La_167 41 20 s by cases f_X3_readRich FU La_167 41 20 s <;> rfl]
      exact rich_ok hb lh
    rw [l7, r7, Option.bind_some, if_neg (by decide), Option.bind_some, if_neg (by decide)]
    rcases wd with ⟨-, d7, d8⟩ | ⟨-, d7, d8⟩
    · rw [d7, d8, Option.bind_some, Option.bind_some, if_pos (by decide), if_pos (by decide)]
      exact IT_v (does_ok hb lh)
    rw [d7, d8, Option.bind_some, Option.bind_some, if_neg (by decide), if_neg (by decide)]
    rcases wn with ⟨-, n7, n8⟩ | ⟨-, n7, n8⟩
    · rw [n7, n8, Option.bind_some, Option.bind_some, if_pos (by decide), if_pos (by decide)]
      exact IT_v (need_ok hb lh)
    rw [n7, n8, Option.bind_some, Option.bind_some, if_neg (by decide), if_neg (by decide), l8, Option.bind_some, if_pos rfl, r8, Option.bind_some, if_pos rfl, Option.bind_some, if_pos rfl]
    exact bad
  · rw [if_pos (by omega)]
    rw [isWord_not c, Option.bind_some, if_neg (by decide), isWord_not c, Option.bind_some, if_neg (by decide), isWord_not c, Option.bind_some, if_neg (by decide), isWord_not c, Option.bind_some, if_neg (by decide), isWord_not c, Option.bind_some, if_neg (by decide), isWord_not c, Option.bind_some, if_neg (by decide), isWord_not c, Option.bind_some, if_pos rfl, isWord_not c, Option.bind_some, if_pos rfl, Option.bind_some, if_pos rfl]
    exact bad
end ITEM
