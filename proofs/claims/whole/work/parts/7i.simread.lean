-- needs: 7h
section SIM
variable {CL CP : fx_H → Prop} {k : Int} {h : fx_H}
theorem VPi {o i : Int} (z : (o = 0 ∧ 0 ≤ i ∧ i ≤ 5) ∨ (o = 1 ∧ 0 ≤ i ∧ i < 9) ∨ (o = 2 ∧ 0 ≤ i ∧ i < 5) ∨ (4 ≤ o ∧ o ≤ 8 ∧ 0 ≤ i ∧ i < 5) ∨ (10 ≤ o ∧ o ≤ 14 ∧ 0 ≤ i ∧ i < 9) ∨ (o = 15 ∧ 0 ≤ i ∧ i < 5)) : VP o i := by unfold VP; omega
theorem TR_draft {s g h2 : fx_H} (w : ∀ o i : Int, VP o i → h2 (1 + o) i = s (20 + o) i) (m : ∀ i : Int, 0 ≤ i → i < 95 → h2 127 i = g 142 i) (lv : LV s g) : TR 1 127 0 h2 := by
  obtain ⟨⟨⟨v1, v1'⟩, v2, v3, v4, v5, v6, -⟩, ⟨r1, r2, r3, r4, r5, r6, r7, r8, r9, r10, r11⟩, -⟩ := lv
  have wc : ∀ i : Int, 0 ≤ i → i ≤ 5 → h2 1 i = s 20 i := fun i a b => w 0 i (VPi (by omega))
  unfold TR
  simp only [Int.zero_add]
  refine ⟨?_, ?_, ?_, ?_, ?_, ?_, fun t a b => ?_, fun q a b => ?_, fun q p a b a' b' => ?_, fun p t a b a' b' => ?_, fun p a b => ?_, fun j a b => ?_⟩
  · rw [m _ (by omega) (by omega), wc _ (by omega) (by omega)]; exact r1
  · rw [m _ (by omega) (by omega), wc _ (by omega) (by omega)]; exact r2
  · rw [m _ (by omega) (by omega), wc _ (by omega) (by omega)]; exact r3
  · rw [m _ (by omega) (by omega), wc _ (by omega) (by omega)]; exact r4
  · rw [m _ (by omega) (by omega), wc _ (by omega) (by omega)]; exact r5
  · rw [m _ (by omega) (by omega), wc _ (by omega) (by omega), r6, v6]
  · rw [wc _ (by omega) (by omega)] at b
    rw [m _ (by omega) (by omega), w 1 t (VPi (by omega))]; exact r7 t a b
  · rw [m _ (by omega) (by omega), w 2 q (VPi (by omega))]; exact r8 q a b
  · rw [m _ (by omega) (by omega), show (1 : Int) + 4 + q = 1 + (4 + q) by omega, w (4 + q) p (VPi (by omega)), show (20 : Int) + (4 + q) = 24 + q by omega]; exact r9 q p a b a' b'
  · rw [m _ (by omega) (by omega), show (1 : Int) + 10 + p = 1 + (10 + p) by omega, w (10 + p) t (VPi (by omega)), show (20 : Int) + (10 + p) = 30 + p by omega]; exact r10 p t a b a' b'
  · rw [m _ (by omega) (by omega), w 15 p (VPi (by omega))]; exact r11 p a b
  · rw [wc _ (by omega) (by omega), v6] at b; omega
theorem sim_read (hL : FrL CL) (hP : FrP CP) (R : Rel CL CP k h) (hk : k ≤ 1000) : Sm CL CP k (f_X5_read FU La_167 0 h) (f_X6_read FU La_167 126) := by
  obtain ⟨RV, RR, R3, R4, R5, R6, R7⟩ := id R
  obtain ⟨⟨k1, k2⟩, -⟩ := id R7
  obtain ⟨⟨a1, a2, a3⟩, a4⟩ := id R5
  have hb : BB (fun i => h 141 i) (h 41 1) := ⟨a2, a3, fun i x y => ⟨(a4 i x y).1, (a4 i x y).2.1⟩⟩
  have hc : BC (fun i => h 141 i) (h 41 1) h := ⟨rfl, fun i x y => (a4 i x y).2.2⟩
  have hr : ∀ G : fx_H, (∀ i : Int, G 141 i = h 141 i) → G 126 17 = h 126 17 → BR (fun i => h 141 i) (h 41 1) G := fun G e1 e2 => ⟨by rw [e2]; exact a1, fun i _ _ => e1 i⟩
  obtain ⟨n, hn, n2⟩ : ∃ n : Nat, FU = n + 1 ∧ 1000 < n := ⟨FU - 1, by have := FU_big; omega, by have := FU_big; omega⟩
  obtain ⟨h1, s, e1, e2, cf, cs⟩ := start_C hb hc
  have tb := TOK_b cs.2.2.2.1
  obtain ⟨-, -, -, g0, -, -, -, -, rg0, lh0⟩ := start_R hb (hr h (fun _ => rfl) rfl) cs
  obtain ⟨i', s', g0', y1, y2, y3, y4⟩ := loop_both hb n s g0 0 lh0 (by omega) (by omega) (by omega)
  rw [← hn] at y1
  have both : ∀ G : fx_H, (∀ i : Int, G 141 i = h 141 i) → G 126 17 = h 126 17 → ∃ h1 h3 h5 g g' : fx_H, fx_wr La_167 G 142 0 0 = some h1 ∧ fx_wr La_167 h1 142 12 4 = some h3 ∧ f_X6_begin FU La_167 142 3 4 h3 = some h5 ∧ f_X6_look FU La_167 126 0 (fx_up h5 126 23 0) = some g ∧ RF2 G g' ∧ ((s' 41 5 = -1 ∧ 0 ≤ i' ∧ fx_loop (s_X6_read_1 FU La_167 126) FU (0, g) = some (.inl (i', g')) ∧ LV s' g') ∨ (0 ≤ s' 41 5 ∧ s' 41 5 ≤ 250 ∧ fx_loop (s_X6_read_1 FU La_167 126) FU (0, g) = some (.inr (-10 - s' 41 5, g')))) := fun G q1 q2 => by
    obtain ⟨h1', h3, h5, g, w1, w2, w3, w4, rg, lh⟩ := start_R hb (hr G q1 q2) cs
    obtain ⟨i2, s2, g', z1, z2, z3, z4⟩ := loop_both hb n s g 0 lh (by omega) (by omega) (by omega)
    rw [← hn] at z1 z4
    have q := Prod.mk.inj (Option.some.inj (y1.symm.trans z1))
    have qi : i' = i2 := q.1
    have qs : s' = s2 := (Prod.mk.inj q.2).2
    subst qi
    subst qs
    exact ⟨h1', h3, h5, g, g', w1, w2, w3, w4, RF_tr rg z3, z4⟩
  have cfs : CF2 h s' := CF_tr cf y2
  have rdI : ∀ v : Int, (if s' 41 5 = -1 then some i' else some (fx_w (-10 - s' 41 5))) = some v → f_X3_readInto FU La_167 41 20 h = some (v, s') := fun v hv => by
    unfold f_X3_readInto
    rw [e1, Option.bind_some, e2, Option.bind_some, y1, Option.bind_some]
    simp only
    rw [hv, Option.bind_some]
  by_cases c : s' 41 5 = -1
  · have i0 : 0 ≤ i' := by
      rcases y4 with ⟨-, z, -⟩ | ⟨z, -⟩
      · exact z
      · omega
    obtain ⟨h3, e3, p1, p2⟩ := takeOver_ok (h := fx_up s' 0 13 (h 0 13 + 1)) TC_1 TC_20 (by omega)
    have hx : f_X5_read FU La_167 0 h = some (i', h3) := by
      unfold f_X5_read
      rw [lb_tg_0_4, lb_tg_0_1, lb_tg_0_0, rdI i' (if_pos c), Option.bind_some]
      simp only
      rw [if_pos i0, cfs 0 13 (by omega) (by omega), wid (by omega) (by omega), e3, Option.bind_some, Option.bind_some]
    have h3f : ∀ a i : Int, ¬ (1 ≤ a ∧ a ≤ 38) → ¬ (a = 41 ∧ 2 ≤ i ∧ i ≤ 6) → ¬ (a = 0 ∧ i = 13) → h3 a i = h a i := fun a i x y z => by rw [p1 a i (by omega), up_ne (by omega), cfs a i (by omega) y]
    obtain ⟨ha, hbb, h5, g, g', w1, w2, w3, w4, rg, fin⟩ := both h3 (fun i => h3f _ _ (by omega) (by omega) (by omega)) (h3f _ _ (by omega) (by omega) (by omega))
    have fin' : fx_loop (s_X6_read_1 FU La_167 126) FU (0, g) = some (.inl (i', g')) ∧ LV s' g' := by
      rcases fin with ⟨-, -, z⟩ | ⟨z, -⟩
      · exact z
      · omega
    obtain ⟨f1, lv⟩ := fin'
    obtain ⟨⟨z, h2⟩, x2, -, q1, q2⟩ := loop_for (step := s_X6_read_2 FU La_167 126) (Fu := FU) (fun j s => (∀ a b : Int, a ≠ 127 ∨ ¬ (0 ≤ b ∧ b < j) → s a b = g' a b) ∧ (∀ b : Int, 0 ≤ b → b < j → s 127 b = g' 142 b)) 95 (i := 0) (s := g') (FU_gt (by omega)) (by omega) ⟨fun _ _ _ => rfl, fun b _ _ => by omega⟩ (fun j s b1 b2 ⟨i1, i2⟩ => by
      refine ⟨fx_up s 127 j (g' 142 j), ?_, fun a b b3 => ?_, fun b b3 b4 => ?_⟩
      · unfold s_X6_read_2
        simp only [lb_tg_126_0, lb_tg_126_22]
        rw [if_pos b2, rdl (a := 142) lb_ln_142 (by omega) (by omega), Option.bind_some, wr127 b1 (by omega), Option.bind_some, wid (by omega) (by omega), i1 142 _ (by omega)]
      · rw [up_ne (by omega)]; exact i1 a b (by omega)
      · by_cases e : b = j
        · subst e; rw [up_eq rfl rfl]
        · rw [up_ne (by omega)]; exact i2 b b3 (by omega)) (fun s _ => by
      unfold s_X6_read_2
      simp only
      rw [if_neg (by omega)])
    simp only at q1 q2
    have hy : f_X6_read FU La_167 126 h3 = some (i', h2) := by
      unfold f_X6_read
      rw [lb_tg_126_22, w1, Option.bind_some, w2, Option.bind_some, w3, Option.bind_some, w4, Option.bind_some, f1, Option.bind_some]
      simp only
      rw [x2, Option.bind_some]
    have w : ∀ o b : Int, VP o b → h2 (1 + o) b = s' (20 + o) b := fun o b v => by
      have v' : 0 ≤ o ∧ o ≤ 18 := by unfold VP at v; omega
      rw [q1 _ _ (by omega), rg _ _ (by omega) (by omega) (by omega), p2 o b v, up_ne (by omega)]
    have hf : ∀ a i : Int, ¬ (1 ≤ a ∧ a ≤ 38) → ¬ (a = 41 ∧ 2 ≤ i ∧ i ≤ 6) → ¬ (a = 0 ∧ i = 13) → a ≠ 127 → a ≠ 142 → a ≠ 143 → ¬ (a = 126 ∧ 18 ≤ i ∧ i ≤ 23) → h2 a i = h a i := fun a i x1 x2 x3 x4 x5 x6 x7 => by rw [q1 a i (by omega), rg a i x5 x6 x7, h3f a i x1 x2 x3]
    have hA : Rel CL CP k (fun a i => if (1 ≤ a ∧ a ≤ 19) ∨ a = 127 ∨ (a = 0 ∧ i = 13) then h a i else h2 a i) := by
      have ag : ∀ a i : Int, ((1 ≤ a ∧ a ≤ 19) ∨ a = 127 ∨ (a = 0 ∧ i = 13)) ∨ (¬ (20 ≤ a ∧ a ≤ 38) ∧ ¬ (a = 41 ∧ 2 ≤ i ∧ i ≤ 6) ∧ a ≠ 142 ∧ a ≠ 143 ∧ ¬ (a = 126 ∧ 18 ≤ i ∧ i ≤ 23)) → (if (1 ≤ a ∧ a ≤ 19) ∨ a = 127 ∨ (a = 0 ∧ i = 13) then h a i else h2 a i) = h a i := fun a i z => by
        by_cases e : (1 ≤ a ∧ a ≤ 19) ∨ a = 127 ∨ (a = 0 ∧ i = 13)
        · rw [if_pos e]
        · rw [if_neg e]; exact hf a i (by omega) (by omega) (by omega) (by omega) (by omega) (by omega) (by omega)
      exact Rel_scr hL hP R (fun a i z => ag a i (by unfold KP at z; omega)) (RS_congr (fun a i z => ag a i (by omega)) R6)
    refine Ret.eq hx (Ret.eq hy ⟨rfl, Rel_town hA (fun a i x y z => ?_) ?_ (TV_move w (DV_TV lv.1)) (TR_draft w q2 lv)⟩)
    · show h2 a i = if (1 ≤ a ∧ a ≤ 19) ∨ a = 127 ∨ (a = 0 ∧ i = 13) then h a i else h2 a i
      rw [if_neg (by omega)]
    · show h2 0 13 = (if (1 ≤ (0 : Int) ∧ (0 : Int) ≤ 19) ∨ (0 : Int) = 127 ∨ ((0 : Int) = 0 ∧ (13 : Int) = 13) then h 0 13 else h2 0 13) + 1
      rw [if_pos (by omega), q1 _ _ (by omega), rg _ _ (by omega) (by omega) (by omega), p1 _ _ (by omega), up_eq rfl rfl]
  · obtain ⟨ha, hbb, h5, g, g', w1, w2, w3, w4, rg, fin⟩ := both s' (fun i => cfs _ _ (by omega) (by omega)) (cfs _ _ (by omega) (by omega))
    have fin' : 0 ≤ s' 41 5 ∧ s' 41 5 ≤ 250 ∧ fx_loop (s_X6_read_1 FU La_167 126) FU (0, g) = some (.inr (-10 - s' 41 5, g')) := by
      rcases fin with ⟨z, -⟩ | z
      · exact absurd z c
      · exact z
    obtain ⟨f0, f1, f2⟩ := fin'
    have hx : f_X5_read FU La_167 0 h = some (-10 - s' 41 5, s') := by
      unfold f_X5_read
      rw [lb_tg_0_4, lb_tg_0_1, lb_tg_0_0, rdI (-10 - s' 41 5) (by rw [if_neg c, wid (by omega) (by omega)]), Option.bind_some]
      simp only
      rw [if_neg (by omega), Option.bind_some]
    have hy : f_X6_read FU La_167 126 s' = some (-10 - s' 41 5, g') := by
      unfold f_X6_read
      rw [lb_tg_126_22, w1, Option.bind_some, w2, Option.bind_some, w3, Option.bind_some, w4, Option.bind_some, f2, Option.bind_some]
    have ag : ∀ a i : Int, ¬ (20 ≤ a ∧ a ≤ 38) → ¬ (a = 41 ∧ 2 ≤ i ∧ i ≤ 6) → a ≠ 142 → a ≠ 143 → ¬ (a = 126 ∧ 18 ≤ i ∧ i ≤ 23) → g' a i = h a i := fun a i x1 x2 x3 x4 x5 => by rw [rg a i x3 x4 x5, cfs a i x1 x2]
    exact Ret.eq hx (Ret.eq hy ⟨rfl, Rel_inc (Rel_scr hL hP R (fun a i z => by unfold KP at z; exact ag a i (by omega) (by omega) (by omega) (by omega) (by omega)) (RS_congr (fun a i z => ag a i (by omega) (by omega) (by omega) (by omega) (by omega)) R6))⟩)
end SIM
