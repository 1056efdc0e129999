-- needs: 7c
def AS2 (b : Int → Int) (len : Int) (s g : fx_H) : Prop := BC b len s ∧ BR b len g ∧ s 41 5 = -1 ∧ 0 ≤ s 41 2 ∧ s 41 2 ≤ len ∧ AHD b len (s 41 2) g
def CF2 (s s' : fx_H) : Prop := ∀ a i : Int, ¬ (20 ≤ a ∧ a ≤ 38) → ¬ (a = 41 ∧ 2 ≤ i ∧ i ≤ 6) → s' a i = s a i
def RF2 (g g' : fx_H) : Prop := ∀ a i : Int, a ≠ 142 → a ≠ 143 → ¬ (a = 126 ∧ 18 ≤ i ∧ i ≤ 23) → g' a i = g a i
def IG (b : Int → Int) (len : Int) (s s' g' : fx_H) (v : Int) : Prop := s' 41 5 = -1 ∧ v = 1 ∧ g' 126 20 = 3 ∧ s 41 2 < s' 41 2 ∧ s' 41 2 = g' 126 18 + g' 126 19 ∧ (∃ pos : Int, 0 ≤ pos ∧ AHD b len pos g') ∧ LV s' g' ∧ (g' 126 23 = 0 ∨ g' 126 23 = 1)
def IB (len : Int) (s' g' : fx_H) (v : Int) : Prop := s' 41 5 = g' 126 18 ∧ 0 ≤ g' 126 18 ∧ (g' 126 18 ≤ len ∧ 0 ≤ s' 41 2 ∧ s' 41 2 ≤ len) ∧ (v = 0 ∨ v = 1 ∧ ¬ g' 126 20 = 3)
def IT (b : Int → Int) (len : Int) (s g : fx_H) (x : Option fx_H) (y : Option (Int × fx_H)) : Prop := ∃ (s' : fx_H) (v : Int) (g' : fx_H), x = some s' ∧ y = some (v, g') ∧ CF2 s s' ∧ RF2 g g' ∧ (IG b len s s' g' v ∨ IB len s' g' v)
def LH (b : Int → Int) (len : Int) (s g : fx_H) : Prop := BC b len s ∧ BR b len g ∧ s 41 5 = -1 ∧ s 41 4 = g 126 18 ∧ s 41 2 = g 126 18 + g 126 19 ∧ s 41 3 = g 126 20 ∧ (∃ pos : Int, 0 ≤ pos ∧ AHD b len pos g) ∧ LV s g ∧ (g 126 23 = 0 ∨ g 126 23 = 1)
section STEPS
variable {b : Int → Int} {len : Int}
theorem IT_pre {s g s0 g0 : fx_H} {x : Option fx_H} {y : Option (Int × fx_H)} (c : CF2 s0 s) (r : RF2 g0 g) (p : s0 41 2 ≤ s 41 2) (h : IT b len s g x y) : IT b len s0 g0 x y := by
  obtain ⟨s', v, g', h1, h2, h3, h4, h5⟩ := h
  refine ⟨s', v, g', h1, h2, fun a i y z => by rw [h3 a i y z, c a i y z], fun a i x y z => by rw [h4 a i x y z, r a i x y z], ?_⟩
  rcases h5 with ⟨z1, z2, z3, z4, z5⟩ | h5
  · exact Or.inl ⟨z1, z2, z3, by omega, z5⟩
  · exact Or.inr h5
theorem NMF_CF {s s' : fx_H} (h : NMF s s') : CF2 s s' := fun a i _ z => h a i (by omega)
theorem TKF_RF {g g' : fx_H} {k : Int} (h : TKF k g g') : RF2 g g' := fun a i _ y z => h a i (by omega) (by omega)
theorem CF_tr {s s' s'' : fx_H} (h : CF2 s s') (h' : CF2 s' s'') : CF2 s s'' := fun a i y z => by rw [h' a i y z, h a i y z]
theorem RF_tr {s s' s'' : fx_H} (h : RF2 s s') (h' : RF2 s' s'') : RF2 s s'' := fun a i x y z => by rw [h' a i x y z, h a i x y z]
theorem RF_rf {s : fx_H} : RF2 s s := fun _ _ _ _ _ => rfl
theorem CF_rf {s : fx_H} : CF2 s s := fun _ _ _ _ => rfl
theorem CF_BC {s s' : fx_H} (h : CF2 s s') (c : BC b len s) : BC b len s' := BC_congr (h 41 1 (by omega) (by omega)) (fun i => h 42 i (by omega) (by omega)) c
theorem RF_BR {s s' : fx_H} (h : RF2 s s') (c : BR b len s) : BR b len s' := BR_congr (h 126 17 (by omega) (by omega) (by omega)) (fun i => h 141 i (by omega) (by omega) (by omega)) c
theorem LV_step {s s' g g' : fx_H} {k : Int} (n : NMF s s') (t : TKF k g g') (h : LV s g) : LV s' g' := LV_congr (fun a i _ _ => n a i (by omega)) (fun i => t 142 i (by omega) (by omega)) (by rw [n 41 6 (by omega), t 126 23 (by omega) (by omega)]; exact h.2.2.1) (fun z => by rw [n 41 6 (by omega)] at z; exact z) h
theorem LV_step0 {s s' g : fx_H} (n : NMF s s') (h : LV s g) : LV s' g := LV_step (k := 0) n (fun _ _ _ _ => rfl) h
theorem num_ok {s g : fx_H} {k lo hi : Int} (hb : BB b len) (as : AS2 b len s g) (k0 : 0 ≤ k) (k3 : k < 3) : (∃ s' g' : fx_H, f_X3_number FU La_167 41 lo hi s = some (g 126 21, s') ∧ f_X6_takes FU La_167 126 k lo hi g = some (1, g') ∧ NMF s s' ∧ TKF k g g' ∧ AS2 b len s' g' ∧ g' 143 k = g 126 21 ∧ lo ≤ g 126 21 ∧ g 126 21 ≤ hi ∧ s 41 2 ≤ s' 41 2) ∨ (∃ s' : fx_H, f_X3_number FU La_167 41 lo hi s = some (-1, s') ∧ f_X6_takes FU La_167 126 k lo hi g = some (0, g) ∧ NMF s s' ∧ ¬ s' 41 5 = -1 ∧ s' 41 5 = g 126 18 ∧ 0 ≤ g 126 18 ∧ g 126 18 ≤ len ∧ 0 ≤ s' 41 2 ∧ s' 41 2 ≤ len) := by
  obtain ⟨hc, hr, f, p0, p1, ah⟩ := as
  have tb := TOK_b ah.1
  obtain ⟨v, s', e1, n1, n2⟩ := number_ok (lo := lo) (hi := hi) hb hc f p0 p1 ah
  rcases n2 with ⟨n2, n3, n4, n5⟩ | ⟨n2, n3, n4, n5⟩
  · obtain ⟨g', e2, t1, t2, t3⟩ := takes_ok (lo := lo) (hi := hi) hb hr p0 k0 k3 ah n2
    refine Or.inl ⟨s', g', by rw [e1, n4], e2, n1, t1, ⟨CF_BC (NMF_CF n1) hc, RF_BR (TKF_RF t1) hr, n3, by omega, by omega, by rw [n5]; exact t3⟩, t2, n2.2.1, n2.2.2, by omega⟩
  · exact Or.inr ⟨s', by rw [e1, n4], takes_no n2, n1, by omega, n3, by omega, by omega⟩
theorem stp_ok {s g : fx_H} (hb : BB b len) (as : AS2 b len s g) : (∃ s' : fx_H, f_X3_stops FU La_167 41 s = some (1, s') ∧ NMF s s' ∧ s' 41 5 = -1 ∧ g 126 20 = 3 ∧ s 41 2 < s' 41 2 ∧ s' 41 2 = g 126 18 + g 126 19) ∨ (∃ s' : fx_H, f_X3_stops FU La_167 41 s = some (0, s') ∧ NMF s s' ∧ s' 41 5 = g 126 18 ∧ ¬ g 126 20 = 3 ∧ 0 ≤ g 126 18 ∧ g 126 18 ≤ len ∧ 0 ≤ s' 41 2 ∧ s' 41 2 ≤ len) := by
  obtain ⟨hc, hr, f, p0, p1, ah⟩ := as
  have tb := TOK_b ah.1
  obtain ⟨v, s', e1, n1, n2⟩ := stops_ok hb hc f p0 p1 ah
  rcases n2 with ⟨n2, n3, n4, n5, n6, n7⟩ | ⟨n2, n3, n4, n5⟩
  · exact Or.inl ⟨s', by rw [e1, n3], n1, n4, n2, by omega, n6⟩
  · exact Or.inr ⟨s', by rw [e1, n3], n1, n4, n2, by omega, by omega⟩
theorem nx_ok {s g : fx_H} (hb : BB b len) (as : AS2 b len s g) : ∃ t : fx_H, f_X3_nextToken FU La_167 41 s = some t ∧ NTF s t ∧ t 41 4 = g 126 18 ∧ t 41 2 = g 126 18 + g 126 19 ∧ t 41 3 = g 126 20 ∧ (g 126 20 = 2 → f_X3_figure FU La_167 41 t = some (g 126 21)) := by
  obtain ⟨hc, hr, f, p0, p1, ah⟩ := as
  obtain ⟨b1, b2, b3⟩ := id hb
  have tb := TOK_b ah.1
  obtain ⟨t, e1, t1, t2⟩ := nextToken_ok hb hc p0 p1
  obtain ⟨q1, q2, q3⟩ := TOK_one t2 ah.1
  refine ⟨t, e1, t1, q1, q2, q3, fun c => ?_⟩
  have tl : t 41 1 = len := by rw [t1 _ _ (by omega)]; exact hc.1
  obtain ⟨al, af⟩ := tb.2.2.2.2.2 c
  have f2 := fb_LT hb (i := g 126 18) (by omega) al
  have ff := (f2.2.2 (b (g 126 18)) (by omega) (by omega)).mpr rfl
  unfold f_X3_figure
  rw [q1, tl, if_pos al, lb_tg_41_0, rd42 (by omega) (by omega), Option.bind_some, t1 42 _ (by omega), hc.2 _ (by omega) al, ff, ah.2 al, wid (by omega) (by omega)]; rfl
theorem go_ok {s g s1 g0 : fx_H} {z : Int} (hb : BB b len) (lh : LH b len s g) (e1 : ∀ a i : Int, ¬ (a = 41 ∧ i = 6) → s1 a i = s a i) (e2 : ∀ a i : Int, ¬ (a = 126 ∧ i = 23) → g0 a i = g a i) (z1 : s1 41 6 = z) (z2 : g0 126 23 = z) (z0 : z = 0 → s 41 6 = 0) : ∃ g1 : fx_H, f_X6_goOn FU La_167 126 g0 = some g1 ∧ AS2 b len s1 g1 ∧ LV s1 g1 ∧ CF2 s s1 ∧ RF2 g g1 ∧ g1 126 23 = z ∧ s1 41 2 = s 41 2 := by
  obtain ⟨hc, hr, f, l1, l2, l3, ⟨pos, p0, ah⟩, lv, l4⟩ := lh
  have tb := TOK_b ah.1
  obtain ⟨g1, m1, m2, m3⟩ := goOn_ok (g := g0) (pos := pos) hb (BR_congr (e2 _ _ (by omega)) (fun i => e2 _ _ (by omega)) hr) p0 (by rw [e2 _ _ (by omega), e2 _ _ (by omega), e2 _ _ (by omega)]; exact ah.1)
  have rf : RF2 g g1 := fun a i _ _ y => by rw [m2 a i (by omega), e2 a i (by omega)]
  have cf : CF2 s s1 := fun a i _ y => e1 a i (by omega)
  have s2 : s1 41 2 = s 41 2 := e1 _ _ (by omega)
  have g23 : g1 126 23 = z := by rw [m2 _ _ (by omega)]; exact z2
  refine ⟨g1, m1, ⟨CF_BC cf hc, RF_BR rf hr, by rw [e1 _ _ (by omega)]; exact f, by omega, by omega, ?_⟩, ?_, cf, rf, g23, s2⟩
  · rw [s2, l2]
    rw [e2 126 18 (by omega), e2 126 19 (by omega)] at m3
    exact m3
  · exact LV_congr (fun a i _ _ => e1 a i (by omega)) (fun i => by rw [m2 142 i (by omega), e2 142 i (by omega)]) (by rw [z1, g23]) (fun w => z0 (by omega)) lv
theorem fail_ok {t : fx_H} (f : t 41 5 = -1) : f_X3_fail FU La_167 41 t = some (fx_up t 41 5 (t 41 4)) := by unfold f_X3_fail; rw [if_pos f]
theorem up_CF {s : fx_H} {a i v : Int} (h : (20 ≤ a ∧ a ≤ 38) ∨ (a = 41 ∧ 2 ≤ i ∧ i ≤ 6)) : CF2 s (fx_up s a i v) := fun a' i' y z => up_ne (by omega)
theorem up_RF {s : fx_H} {a i v : Int} (h : a = 142 ∨ a = 143 ∨ (a = 126 ∧ 18 ≤ i ∧ i ≤ 23)) : RF2 s (fx_up s a i v) := fun a' i' x y z => up_ne (by omega)
/-- one number, a stop, and a field of the draft -/
theorem size_ok {s g : fx_H} {c j lo hi : Int} (hb : BB b len) (as : AS2 b len s g) (lv : LV s g) (f01 : g 126 23 = 0 ∨ g 126 23 = 1) (j0 : 0 ≤ j) (j1 : j < 95) (hu : ∀ (s' g' : fx_H), LV s' g' → s' 41 6 = s 41 6 → s' 20 2 = s 20 2 → ∀ v : Int, lo ≤ v → v ≤ hi → LV (fx_up s' 20 c v) (fx_up g' 142 j v)) : IT b len s g ((f_X3_number FU La_167 41 lo hi s).bind fun (v1, h2) => (f_X3_stops FU La_167 41 h2).bind fun (v4, h5) => if ¬ v4 = 0 then some (fx_up h5 20 c v1) else some h5) ((f_X6_takes FU La_167 126 0 lo hi g).bind fun (v4, h5) => (fx_rd La_167 h5 143 0).bind fun v7 => (fx_wr La_167 h5 142 j v7).bind fun h9 => (fx_zb v4).bind fun z11 => some (z11, h9)) := by
  rcases num_ok (k := 0) (lo := lo) (hi := hi) hb as (by omega) (by omega) with ⟨s1, g1, e1, e2, n1, t1, as1, t2, w1, w2, p1⟩ | ⟨s1, e1, e2, n1, n2, n3, n4, n5⟩
  · rw [e1, e2, Option.bind_some, Option.bind_some]
    simp only
    rw [rdl lb_ln_143 (by omega) (by omega), Option.bind_some, wrl lb_ln_142 j0 j1, Option.bind_some, zb_1, Option.bind_some, t2]
    rcases stp_ok hb as1 with ⟨s2, e3, m1, m2, m3, m4, m5⟩ | ⟨s2, e3, m1, m2, m3, m4, m5⟩
    · rw [e3, Option.bind_some]
      simp only
      rw [if_pos (by decide)]
      refine ⟨_, _, _, rfl, rfl, CF_tr (CF_tr (NMF_CF n1) (NMF_CF m1)) (up_CF (by omega)), RF_tr (TKF_RF t1) (up_RF (by omega)), Or.inl ⟨?_, rfl, ?_, ?_, ?_, ⟨s1 41 2, as1.2.2.2.1, ?_⟩, ?_, ?_⟩⟩
      · rw [up_ne (by omega)]; exact m2
      · rw [up_ne (by omega)]; exact m3
      · rw [up_ne (by omega)]; omega
      · rw [up_ne (by omega), up_ne (by omega), up_ne (by omega)]; exact m5
      · exact AHD_congr (fun i _ _ => up_ne (by omega)) as1.2.2.2.2.2
      · exact hu _ _ (LV_step0 m1 (LV_step n1 t1 lv)) (by rw [m1 _ _ (by omega), n1 _ _ (by omega)]) (by rw [m1 _ _ (by omega), n1 _ _ (by omega)]) _ w1 w2
      · rw [up_ne (by omega), t1 _ _ (by omega) (by omega)]; exact f01
    · rw [e3, Option.bind_some]
      simp only
      rw [if_neg (by decide)]
      refine ⟨_, _, _, rfl, rfl, CF_tr (NMF_CF n1) (NMF_CF m1), RF_tr (TKF_RF t1) (up_RF (by omega)), Or.inr ⟨?_, ?_, ?_, Or.inr ⟨rfl, ?_⟩⟩⟩
      · rw [up_ne (by omega)]; exact m2
      · rw [up_ne (by omega)]; exact m4
      · rw [up_ne (by omega)]; exact m5
      · rw [up_ne (by omega)]; exact m3
  · rw [e1, e2, Option.bind_some, Option.bind_some]
    simp only
    rw [rdl lb_ln_143 (by omega) (by omega), Option.bind_some, wrl lb_ln_142 j0 j1, Option.bind_some, zb_0, Option.bind_some, stops_dead n2, Option.bind_some]
    simp only
    rw [if_neg (by decide)]
    refine ⟨_, _, _, rfl, rfl, NMF_CF n1, up_RF (by omega), Or.inr ⟨?_, ?_, ?_, Or.inl rfl⟩⟩
    · rw [up_ne (by omega)]; exact n3
    · rw [up_ne (by omega)]; exact n4
    · rw [up_ne (by omega)]; exact n5
end STEPS
