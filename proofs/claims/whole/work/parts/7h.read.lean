-- needs: 7g
section READ
variable {b : Int → Int} {len : Int}
theorem lp_l {S E : Type} {step : S → Option (S ⊕ E)} {n : Nat} {s s' : S} (e : step s = some (.inl s')) : fx_loop step (n + 1) s = fx_loop step n s' := by simp only [fx_loop, e]
theorem lp_r {S E : Type} {step : S → Option (S ⊕ E)} {n : Nat} {s : S} {r : E} (e : step s = some (.inr r)) : fx_loop step (n + 1) s = some r := by simp only [fx_loop, e]
theorem loop_both (hb : BB b len) : ∀ (n : Nat) (s g : fx_H) (i : Int), LH b len s g → 0 ≤ i → i ≤ s 41 4 → (len - s 41 4).toNat < n → ∃ (i' : Int) (s' g' : fx_H), fx_loop (s_X3_readInto_1 FU La_167 41 20) (n + 1) (i, i, s) = some (i', i', s') ∧ CF2 s s' ∧ RF2 g g' ∧ ((s' 41 5 = -1 ∧ 0 ≤ i' ∧ fx_loop (s_X6_read_1 FU La_167 126) (n + 1) (i, g) = some (.inl (i', g')) ∧ LV s' g') ∨ (0 ≤ s' 41 5 ∧ s' 41 5 ≤ 250 ∧ fx_loop (s_X6_read_1 FU La_167 126) (n + 1) (i, g) = some (.inr (-10 - s' 41 5, g')))) := by
  intro n
  induction n with
  | zero => intro s g i _ _ _ h; omega
  | succ n ih =>
    intro s g i lh i0 i1 hm
    have lb := LH_b lh
    obtain ⟨b1, b2, b3⟩ := id hb
    obtain ⟨hc, hr, f, l1, l2, l3, l3', lv, l4⟩ := id lh
    by_cases c : g 126 20 = 0
    · refine ⟨i, s, g, lp_r ?_, CF_rf, RF_rf, Or.inl ⟨f, i0, lp_r ?_, lv⟩⟩
      · unfold s_X3_readInto_1
        simp only
        rw [if_neg (by omega)]
      · unfold s_X6_read_1
        simp only
        rw [if_neg (not_not_intro c)]
    · have i250 : i < 250 := by omega
      have slt : s 41 4 < len := by omega
      have s24 : s 41 4 ≤ s 41 2 := by omega
      obtain ⟨sa, v, ga, e1, e2, cf, rf, good | bad⟩ := item_ok hb lh
      · obtain ⟨m1, m2, m3, m4, m5, ⟨pos, p0, ah⟩, m7, m8⟩ := good
        have tb := TOK_b ah.1
        have bc := CF_BC cf hc
        have br := RF_BR rf hr
        obtain ⟨t, e3, t1, t2⟩ := nextToken_ok hb bc (by omega) (by omega)
        obtain ⟨gt, e4, q1, q2⟩ := goOn_ok hb br p0 ah.1
        rw [← m5] at q2
        obtain ⟨x1, x2, x3⟩ := TOK_one t2 q2.1
        have tb2 := TOK_b t2
        have ct : CF2 sa t := fun a i _ y => t1 a i (by omega)
        have cg : RF2 ga gt := fun a i _ _ y => q1 a i (by omega)
        have lh2 : LH b len t gt := ⟨CF_BC ct bc, RF_BR cg br, by rw [t1 _ _ (by omega)]; exact m1, x1, x2, x3, ⟨sa 41 2, by omega, q2⟩, LV_congr (fun a i _ _ => t1 a i (by omega)) (fun i => q1 _ _ (by omega)) (by rw [t1 _ _ (by omega), q1 _ _ (by omega)]; exact m7.2.2.1) (fun z => by rw [t1 _ _ (by omega)] at z; exact z) m7, by rw [q1 _ _ (by omega)]; exact m8⟩
        have ta : i + 1 ≤ t 41 4 := by omega
        have tm : (len - t 41 4).toNat < n := by omega
        obtain ⟨i', s', g', y1, y2, y3, y4⟩ := ih t gt (i + 1) lh2 (by omega) ta tm
        have st1 : s_X3_readInto_1 FU La_167 41 20 (i, i, s) = some (.inl (i + 1, i + 1, t)) := by
          unfold s_X3_readInto_1
          simp only
          rw [if_pos ⟨⟨i250, by omega⟩, f⟩, e1, Option.bind_some, e3, Option.bind_some, wid (by omega) (by omega)]
        have st2 : s_X6_read_1 FU La_167 126 (i, g) = some (.inl (i + 1, gt)) := by
          unfold s_X6_read_1
          simp only
          rw [if_pos c, e2, Option.bind_some]
          simp only
          rw [if_neg (by omega), e4, Option.bind_some, wid (by omega) (by omega)]
        refine ⟨i', s', g', by rw [lp_l st1]; exact y1, CF_tr cf (CF_tr ct y2), RF_tr rf (RF_tr cg y3), ?_⟩
        rw [lp_l st2]
        exact y4
      · obtain ⟨m1, m2, ⟨m3, m4, m5⟩, m6⟩ := bad
        have bc := CF_BC cf hc
        obtain ⟨t, e3, t1, t2⟩ := nextToken_ok hb bc m4 m5
        have ct : CF2 sa t := fun a i _ y => t1 a i (by omega)
        have t5 : t 41 5 = ga 126 18 := by rw [t1 _ _ (by omega)]; exact m1
        have st1 : s_X3_readInto_1 FU La_167 41 20 (i, i, s) = some (.inl (i + 1, i + 1, t)) := by
          unfold s_X3_readInto_1
          simp only
          rw [if_pos ⟨⟨i250, by omega⟩, f⟩, e1, Option.bind_some, e3, Option.bind_some, wid (by omega) (by omega)]
        have st2 : s_X3_readInto_1 FU La_167 41 20 (i + 1, i + 1, t) = some (.inr (i + 1, i + 1, t)) := by
          unfold s_X3_readInto_1
          simp only
          rw [if_neg (fun z => by have := z.2; omega)]
        refine ⟨i + 1, t, ga, by rw [lp_l st1]; exact lp_r st2, CF_tr cf ct, rf, Or.inr ⟨by omega, by omega, lp_r ?_⟩⟩
        unfold s_X6_read_1
        simp only
        rw [if_pos c, e2, Option.bind_some]
        simp only
        rw [if_pos (by omega), wid (by omega) (by omega), t5]
/-- the class before its first item -/
def CS0 (b : Int → Int) (len : Int) (s : fx_H) : Prop := BC b len s ∧ s 41 5 = -1 ∧ s 41 6 = 0 ∧ TOK b len 0 (s 41 4) (s 41 2) (s 41 3) ∧ (s 20 0 = 0 ∧ s 20 1 = 4 ∧ s 20 2 = 3 ∧ s 20 3 = 4 ∧ s 20 4 = 0 ∧ s 20 5 = 0) ∧ (∀ q : Int, 0 ≤ q → q < 5 → s 22 q = 0) ∧ (∀ q p : Int, 0 ≤ q → q < 5 → 0 ≤ p → p < 5 → s (24 + q) p = 9) ∧ (∀ p t : Int, 0 ≤ p → p < 5 → 0 ≤ t → t < 9 → s (30 + p) t = 0) ∧ (∀ p : Int, 0 ≤ p → p < 5 → s 35 p = 0)
theorem start_C {h : fx_H} (hb : BB b len) (hc : BC b len h) : ∃ h1 s : fx_H, f_X4_begin FU La_167 20 h = some h1 ∧ f_X3_nextToken FU La_167 41 (fx_up (fx_up (fx_up h1 41 2 0) 41 5 (-1)) 41 6 0) = some s ∧ CF2 h s ∧ CS0 b len s := by
  obtain ⟨h1, e1, p1, ⟨p2, p3, p4, p5, p6, p7⟩, p8, p9, p10, p11, p12⟩ := settle_ok (n := 3) (m := 4) (h := fx_up (fx_up h 20 0 0) 20 1 4) TC_20
  have k0 : ∀ a i : Int, ¬ (20 ≤ a ∧ a ≤ 38) → h1 a i = h a i := fun a i y => by rw [p1 a i (by omega), up_ne (by omega), up_ne (by omega)]
  have u0 : ∀ a i : Int, ¬ (a = 41 ∧ 2 ≤ i ∧ i ≤ 6) → fx_up (fx_up (fx_up h1 41 2 0) 41 5 (-1)) 41 6 0 a i = h1 a i := fun a i y => by rw [up_ne (by omega), up_ne (by omega), up_ne (by omega)]
  have u2 : fx_up (fx_up (fx_up h1 41 2 0) 41 5 (-1)) 41 6 0 41 2 = 0 := by simp (disch := omega) only [up_ne, up_eq]
  have u5 : fx_up (fx_up (fx_up h1 41 2 0) 41 5 (-1)) 41 6 0 41 5 = -1 := by simp (disch := omega) only [up_ne, up_eq]
  have u6 : fx_up (fx_up (fx_up h1 41 2 0) 41 5 (-1)) 41 6 0 41 6 = 0 := by simp (disch := omega) only [up_ne, up_eq]
  refine ⟨h1, ?_⟩
  generalize fx_up (fx_up (fx_up h1 41 2 0) 41 5 (-1)) 41 6 0 = w at u0 u2 u5 u6
  have cw : CF2 h w := fun a i y z => by rw [u0 a i z, k0 a i y]
  obtain ⟨s, e2, t1, t2⟩ := nextToken_ok (s := w) hb (CF_BC cw hc) (by omega) (by have := hb.1; omega)
  rw [u2] at t2
  have cs : CF2 h s := CF_tr cw (fun a i _ z => t1 a i (by omega))
  have sd : ∀ a i : Int, 20 ≤ a → a ≤ 38 → s a i = h1 a i := fun a i x y => by rw [t1 a i (by omega), u0 a i (by omega)]
  refine ⟨s, ?_, e2, cs, CF_BC cs hc, ?_, ?_, t2, ?_, fun q a b => ?_, fun q p a b a' b' => ?_, fun p t a b a' b' => ?_, fun p a b => ?_⟩
  · unfold f_X4_begin
    rw [e1]; rfl
  · rw [t1 _ _ (by omega)]; exact u5
  · rw [t1 _ _ (by omega)]; exact u6
  · simp (disch := omega) only [sd]
    rw [p2, p3, p4, p5, p6, p7]
    exact ⟨by simp (disch := omega) only [up_ne, up_eq], by simp (disch := omega) only [up_ne, up_eq], rfl, rfl, rfl, rfl⟩
  · rw [sd _ _ (by omega) (by omega)]; exact p9 q a b
  · rw [sd _ _ (by omega) (by omega), show (24 : Int) + q = 20 + 4 + q by omega]; exact p10 q p a b a' b'
  · rw [sd _ _ (by omega) (by omega), show (30 : Int) + p = 20 + 10 + p by omega]; exact p11 p t a b a' b'
  · rw [sd _ _ (by omega) (by omega)]; exact p12 p a b
theorem start_R {G s : fx_H} (hb : BB b len) (hr : BR b len G) (cs : CS0 b len s) : ∃ h1 h3 h5 g : fx_H, fx_wr La_167 G 142 0 0 = some h1 ∧ fx_wr La_167 h1 142 12 4 = some h3 ∧ f_X6_begin FU La_167 142 3 4 h3 = some h5 ∧ f_X6_look FU La_167 126 0 (fx_up h5 126 23 0) = some g ∧ RF2 G g ∧ LH b len s g := by
  obtain ⟨c1, c2, c3, c4, ⟨d0, d1, d2, d3, d4, d5⟩, c6, c7, c8, c9⟩ := cs
  obtain ⟨h5, e5, q1, ⟨q2, q3, q4, q5⟩, q6, q7, q8, q9⟩ := begin_ok (a := 142) (n := 3) (m := 4) (g := fx_up (fx_up G 142 0 0) 142 12 4) (by rw [lb_ln_142]; omega)
  have k0 : ∀ a i : Int, a ≠ 142 → h5 a i = G a i := fun a i y => by rw [q1 a i y, up_ne (by omega), up_ne (by omega)]
  have r6 : RF2 G (fx_up h5 126 23 0) := fun a i x y z => by rw [up_ne (by omega), k0 a i x]
  obtain ⟨g, e7, t1, t2, t3⟩ := look_ok (g := fx_up h5 126 23 0) (pos := 0) hb (RF_BR r6 hr) (by omega) hb.1
  have rg : RF2 G g := RF_tr r6 (fun a i _ _ z => t1 a i (by omega))
  have g2 : ∀ i : Int, g 142 i = h5 142 i := fun i => by rw [t1 _ _ (by omega), up_ne (by omega)]
  have g23 : g 126 23 = 0 := by rw [t1 _ _ (by omega), up_eq rfl rfl]
  obtain ⟨x1, x2, x3⟩ := TOK_one c4 t2
  have z0 : h5 142 0 = 0 := by rw [q6 0 (by omega)]; simp (disch := omega) only [up_ne, up_eq]
  have z1 : h5 142 12 = 4 := by rw [q6 12 (by omega)]; simp (disch := omega) only [up_ne, up_eq]
  refine ⟨_, _, h5, g, wrl lb_ln_142 (by omega) (by omega), wrl lb_ln_142 (by omega) (by omega), e5, e7, rg, c1, RF_BR rg hr, c2, x1, x2, x3, ⟨0, by omega, t2, t3⟩, ⟨?_, ?_, by omega, fun _ => ⟨d4, c6, c8⟩⟩, Or.inl g23⟩
  · refine ⟨by omega, by omega, by omega, by omega, by omega, d5, fun t a b => by omega, fun q a b => ?_, fun q p a b a' b' => ?_, fun p t a b a' b' => ?_, fun p a b => ?_, fun p a b => ?_⟩
    · rw [c6 q a b]; omega
    · rw [c7 q p a b a' b']; omega
    · rw [c8 p t a b a' b']; omega
    · rw [sum_zero (fun t a' b' => c8 p t a b a' (by omega))]; omega
    · rw [c9 p a b]; omega
  · unfold DG
    simp only [g2]
    refine ⟨by omega, by omega, by omega, by omega, by omega, q5, fun t a b => by omega, fun q a b => ?_, fun q p a b a' b' => ?_, fun p t a b a' b' => ?_, fun p a b => ?_⟩
    · rw [c6 q a b]; exact (q7 q a b).1
    · rw [c7 q p a b a' b', show (19 : Int) + 5 * p + q = 19 + (5 * p + q) by omega, q8 _ (by omega) (by omega)]; rfl
    · rw [c8 p t a b a' b', show (44 : Int) + 9 * p + t = 44 + (9 * p + t) by omega, q9 _ (by omega) (by omega)]
    · rw [c9 p a b]; exact (q7 p a b).2
end READ
