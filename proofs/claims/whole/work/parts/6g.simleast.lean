-- needs: 6f
/-- the reference looks for the least day -/
theorem least_rf {h g : fx_H} {p q : Int} (v : TV 1 h) (r2 : TR2 h g) (hv : p = -1 ∧ q = 0 ∨ (0 ≤ p ∧ p < h 1 2) ∧ (0 ≤ q ∧ q < h 1 3)) : (50000 < prI (fun p => cnF (ndF h p) (h 1 3)) (h 1 2).toNat ∧ ∃ g' : fx_H, f_X6_least FU La_167 126 p q g = some (-3, fx_up g' 130 1 (fx_w (g' 130 1 + 1))) ∧ ∀ a i : Int, ¬ (131 ≤ a ∧ a ≤ 140) → g' a i = g a i) ∨ (prI (fun p => cnF (ndF h p) (h 1 3)) (h 1 2).toNat ≤ 50000 ∧ ∃ (A : Int) (g' : fx_H), f_X6_least FU La_167 126 p q g = some (A, g') ∧ (∀ a i : Int, ¬ (131 ≤ a ∧ a ≤ 140) → g' a i = g a i) ∧ ∃ c1 le : Int, 0 ≤ c1 ∧ c1 < prI (fun p => cnF (ndF h p) (h 1 3)) (h 1 2).toNat ∧ Fc h (smT h (h 1 1) (-1)) (h 1 3) c1 = le ∧ (∀ c : Int, 0 ≤ c → c < prI (fun p => cnF (ndF h p) (h 1 3)) (h 1 2).toNat → le ≤ Fc h (smT h (h 1 1) (-1)) (h 1 3) c) ∧ (∀ c' : Int, 0 ≤ c' → c' < c1 → le < Fc h (smT h (h 1 1) (-1)) (h 1 3) c') ∧ (p = -1 → A = le) ∧ (¬ p = -1 → A = Wc h (h 1 3) c1 q p)) := by
  have vv := v
  unfold TV at vv
  obtain ⟨⟨v1, v1'⟩, ⟨v2, v2'⟩, ⟨v3, v3'⟩, ⟨v4, v4'⟩, ⟨v5, v5'⟩, -⟩ := vv
  have g2 : g 127 10 = h 1 2 := r2.2.2.1
  have g3 : g 127 11 = h 1 3 := r2.2.2.2.1
  have cb := fun p : Int => cnF_b (nd := ndF h p) v4 v4'
  have hp' : ¬ p = -1 → (0 ≤ p ∧ p < h 1 2 ∧ p < 5) ∧ (0 ≤ q ∧ q < h 1 3 ∧ q < 5) := fun z => by
    rcases hv with y | y
    · exact absurd y.1 z
    · exact ⟨⟨y.1.1, y.1.2, by omega⟩, y.2.1, y.2.2, by omega⟩
  have right : (if p = -1 then (if q = 0 then some (1 : Int) else some 0).bind fun v5 => some v5 else ((((if 0 ≤ p ∧ p < h 1 2 then some (1 : Int) else some 0).bind fun v16 => if ¬ v16 = 0 then (if 0 ≤ q ∧ q < h 1 3 then some (1 : Int) else some 0).bind fun v19 => if ¬ v19 = 0 then some true else some false else some false).bind fun b12 => if b12 = true then some (1 : Int) else some 0).bind fun v9 => some v9)) = some 1 := by
    by_cases z : p = -1
    · have q0 : q = 0 := by
        rcases hv with y | y
        · exact y.2
        · omega
      rw [if_pos z, if_pos q0]; rfl
    · obtain ⟨⟨a, b, -⟩, c, d, -⟩ := hp' z
      rw [if_neg z, if_pos ⟨a, b⟩, Option.bind_some, if_pos (by decide), if_pos ⟨c, d⟩]; rfl
  obtain ⟨g1, g4, y1, y2, y3, y4, y5, y6, y7⟩ := prep_rf v r2 v4 v4'
  have wy := waysR_ok (g := g4) (P := h 1 2) (c := fun p => cnF (ndF h p) (h 1 3)) y5.2.2.1 (by omega) v3' (fun p a b => ⟨(y7 p a b).1, (cb p).1, (cb p).2.1⟩)
  have front : f_X6_least FU La_167 126 p q g = (if 50000 < prI (fun p => cnF (ndF h p) (h 1 3)) (h 1 2).toNat then (f_X6_no FU La_167 126 g4).bind fun (v36, h37) => some (v36, h37) else (f_X6_findLeast FU La_167 126 (h 1 3) g4).bind fun (v41, h42) => (if p = -1 then some (-1 : Int) else (fx_rd La_167 h42 138 (fx_w ((fx_w (5 * p)) + q))).bind fun v48 => some v48).bind fun v44 => (if p = -1 then some v41 else (if v44 = -1 then some (9 : Int) else some v44).bind fun v54 => some v54).bind fun v50 => some (v50, h42)) := by
    unfold f_X6_least
    rw [ev_isOne (by omega) (by omega), ev_isHour (by omega) (by omega), g2, g3]
    have r2' := right
    rw [show (if 0 ≤ p ∧ p < h 1 2 then some (1 : Int) else some 0) = some (if 0 ≤ p ∧ p < h 1 2 then 1 else 0) by split <;> rfl, show (if 0 ≤ q ∧ q < h 1 3 then some (1 : Int) else some 0) = some (if 0 ≤ q ∧ q < h 1 3 then 1 else 0) by split <;> rfl] at r2'
    rw [r2', Option.bind_some, if_neg (by decide), y1, Option.bind_some, ev_hours, Option.bind_some, y2, y3, Option.bind_some, wy, Option.bind_some, ev_hours, Option.bind_some, y5.2.2.2.1, lb_tg_126_13]
  rw [front]
  by_cases c : 50000 < prI (fun p => cnF (ndF h p) (h 1 3)) (h 1 2).toNat
  · refine Or.inl ⟨c, g4, by rw [if_pos c, ev_no]; rfl, fun a i z => y4 a i (by omega) (by omega)⟩
  · refine Or.inr ⟨by omega, ?_⟩
    obtain ⟨⟨le, g5⟩, e1, ⟨l1, l2, l3⟩, f⟩ := findLeast_ok (sm := smT h (h 1 1) (-1)) v y5 (SM_9 _ _) y6 y7 v4 v4' (by omega)
    simp only at l1 l2 l3 f
    have NP : 1 ≤ prI (fun p => cnF (ndF h p) (h 1 3)) (h 1 2).toNat := prI_pos _ (fun p a b => (cb p).2.2.2 ((nd_ok v a (show p < 5 by omega)).2.1))
    have Fb : Fc h (smT h (h 1 1) (-1)) (h 1 3) 0 ≤ 500 := (AI_b (by omega) v3' (by omega) v4').2
    have l0 := l2 0 (Int.le_refl 0) (by omega)
    obtain ⟨c1, q1, q2, q3, q4, q5⟩ := l3 (by omega)
    have fr : ∀ a i : Int, ¬ (131 ≤ a ∧ a ≤ 140) → g5 a i = g a i := fun a i z => by rw [f a i (by omega) (by omega), y4 a i (by omega) (by omega)]
    rw [if_neg c, e1, Option.bind_some]
    simp only
    by_cases z : p = -1
    · rw [if_pos z, Option.bind_some, if_pos z]
      exact ⟨le, g5, rfl, fr, c1, le, q1, q2, q3, l2, q4, fun _ => rfl, fun y => absurd z y⟩
    · obtain ⟨⟨pa, pb, pc⟩, qa, qb, qc⟩ := hp' z
      have rd : ((fx_rd La_167 g5 138 (fx_w ((fx_w (5 * p)) + q))).bind fun v48 => some v48) = some (de (Wc h (h 1 3) c1 q p)) := by
        rw [wid (z := 5 * p) (by omega) (by omega), wid (z := 5 * p + q) (by omega) (by omega), rdl lb_ln_138 (by omega) (by omega), q5 q p qa qc pa pc]; rfl
      have Wv := Wc_v (code := c1) v v4 v4' (fun p a b => by have := (cb p).2.2.2 ((nd_ok v a (show p < 5 by omega)).2.1); omega) q p qa qc pa pc
      rw [if_neg z, rd, Option.bind_some, if_neg z, show (if de (Wc h (h 1 3) c1 q p) = -1 then some (9 : Int) else some (de (Wc h (h 1 3) c1 q p))) = some (en (de (Wc h (h 1 3) c1 q p))) by unfold en; split <;> rfl, en_de Wv.1]
      exact ⟨_, g5, rfl, fr, c1, le, q1, q2, q3, l2, q4, fun y => absurd y z, fun _ => rfl⟩
section SIM
variable {k : Int} {h : fx_H}
theorem sim_least (R : Rel CLp CPp k h) (p q : Int) : Sm CLp CPp k (f_X5_least FU La_167 0 p q h) (f_X6_least FU La_167 126 p q) := by
  obtain ⟨RV, RR, R3, R4, R5, R6, R7⟩ := id R
  have vv := RV
  unfold TV at vv
  obtain ⟨⟨v1, v1'⟩, ⟨v2, v2'⟩, ⟨v3, v3'⟩, ⟨v4, v4'⟩, ⟨v5, v5'⟩, -⟩ := vv
  have clv : ((f_X4_hasPerson FU La_167 1 p h).bind fun v16 => if ¬ v16 = 0 then (f_X4_hasHour FU La_167 1 q h).bind fun v19 => if ¬ v19 = 0 then some true else some false else some false) = some (decide ((0 ≤ p ∧ p < h 1 2) ∧ (0 ≤ q ∧ q < h 1 3))) := by
    rw [ev_hasPerson v3 v3', Option.bind_some]
    by_cases c1 : 0 ≤ p ∧ p < h 1 2
    · rw [if_pos c1, if_pos (by decide), ev_hasHour v4 v4', Option.bind_some]
      by_cases c2 : 0 ≤ q ∧ q < h 1 3
      · rw [if_pos c2, if_pos (by decide), decide_eq_true ⟨c1, c2⟩]
      · rw [if_neg c2, if_neg (by decide), decide_eq_false (fun z => c2 z.2)]
    · rw [if_neg c1, if_neg (by decide), decide_eq_false (fun z => c1 z.1)]
  by_cases c : p = -1 ∧ q = 0 ∨ (0 ≤ p ∧ p < h 1 2) ∧ (0 ≤ q ∧ q < h 1 3)
  · obtain ⟨h1, e1, e2, cc⟩ := sit_ok (line := h 1 1) (fr := -1) RV R6
    have R1 : Rel CLp CPp k h1 := Rel_scr FrL_CLp FrP_CPp R (KPsit e2) (RSsit e2 R6)
    have ef1 : ∀ a i : Int, 1 ≤ a → a ≤ 19 → h1 a i = h a i := fun a i x y => e2 a i (by omega) (by omega) (by omega)
    have key : ∃ h2 : fx_H, f_X1_findLeast FU La_167 48 1 43 (h1 0 13) h1 = some (h2 48 4, h2) ∧ LSO h h2 ∧ Rel CLp CPp k h2 ∧ (∀ a i : Int, 1 ≤ a → a ≤ 19 → h2 a i = h a i) := by
      by_cases z : h1 48 5 = h1 0 13
      · have l := R1.2.2.2.2.2.2.2.1.2 z (by rw [ef1 1 2 (by omega) (by omega)]; exact v3')
        refine ⟨h1, ?_, LSO_congr (by rw [ef1 1 2 (by omega) (by omega)]; exact v3') (fun a i x y => (ef1 a i x y).symm) rfl rfl (fun _ _ _ _ => rfl) l, R1, ef1⟩
        unfold f_X1_findLeast
        rw [if_pos z, zb_ok (by rcases l with y | y; exact Or.inl y.1; exact Or.inr y.1)]
        rfl
      · obtain ⟨h2, e3, l, l5, f, p9⟩ := least_cl RV R6 e2 cc z
        have ef2 : ∀ a i : Int, 1 ≤ a → a ≤ 19 → h2 a i = h a i := fun a i x y => f a i (by omega) (by omega)
        refine ⟨h2, e3, l, Rel_least FrP_CPp R (fun a i x y z => ?_) ⟨fun p a b => by rw [f _ _ (by omega) (by omega)]; exact R6.1 p a b, p9⟩ l5 (fun _ => LSO_congr v3' ef2 rfl rfl (fun _ _ _ _ => rfl) l), ef2⟩
        unfold KP at x
        exact f a i (by omega) (by omega)
    obtain ⟨h2, e3, l, R2, ef2⟩ := key
    have cfront : f_X5_least FU La_167 0 p q h = (if h2 48 4 = 0 then (f_X5_refuseNo FU La_167 0 h2).bind fun (v37, h38) => some (v37, h38) else (if ¬ (if p = -1 ∧ q = 0 then (1 : Int) else 0) = 0 then some (h2 48 2) else (fx_rr La_167 55 q).bind fun v44 => (fx_rd La_167 h2 v44 p).bind fun v46 => some v46).bind fun v40 => some (v40, h2)) := by
      unfold f_X5_least
      simp only [lb_tg_0_0, lb_tg_0_5, lb_tg_0_6, lb_tg_48_1]
      rw [clv, Option.bind_some, show (if p = -1 ∧ q = 0 then some (1 : Int) else some 0) = some (if p = -1 ∧ q = 0 then 1 else 0) by split <;> rfl, Option.bind_some]
      rw [show (if decide ((0 ≤ p ∧ p < h 1 2) ∧ (0 ≤ q ∧ q < h 1 3)) = true then some (1 : Int) else some 0) = some (if (0 ≤ p ∧ p < h 1 2) ∧ (0 ≤ q ∧ q < h 1 3) then 1 else 0) by
        by_cases y : (0 ≤ p ∧ p < h 1 2) ∧ (0 ≤ q ∧ q < h 1 3)
        · rw [decide_eq_true y, if_pos rfl, if_pos y]
        · rw [decide_eq_false y, if_neg (by decide), if_neg y], Option.bind_some]
      rw [if_neg (show ¬ ((if p = -1 ∧ q = 0 then (1 : Int) else 0) = 0 ∧ (if (0 ≤ p ∧ p < h 1 2) ∧ (0 ≤ q ∧ q < h 1 3) then (1 : Int) else 0) = 0) from fun z => by
        rcases c with y | y
        · rw [if_pos y] at z; exact absurd z.1 (by decide)
        · rw [if_pos y] at z; exact absurd z.2 (by decide)), e1, Option.bind_some, e3, Option.bind_some]
    rcases l with ⟨l1, l2⟩ | ⟨l1, l2, c1, n1, n2, n3, n4, n5, n6⟩
    · have hx : f_X5_least FU La_167 0 p q h = some (-3, fx_up h2 0 11 (fx_w (h2 0 11 + 1))) := by
        rw [cfront, if_pos l1]
        rfl
      refine Ret.eq hx ?_
      have r2 : TR2 h (fx_up h2 0 11 (fx_w (h2 0 11 + 1))) := TR2_congr (fun i => up_ne (by omega)) (TR2_of R2.2.1 ef2)
      rcases least_rf RV r2 c with ⟨-, g', ey, fr⟩ | ⟨y, -⟩
      · refine Ret.eq ey ⟨rfl, ?_⟩
        have RNh := R2.2.2.2.1
        have g130 : g' 130 1 = h2 130 1 := by rw [fr _ _ (by omega), up_ne (by omega)]
        have Rm : Rel CLp CPp (k + 1) (fx_up (fx_up h2 0 11 (fx_w (h2 0 11 + 1))) 130 1 (fx_w (h2 130 1 + 1))) := by
          refine Rel_ref (FrL_C FrL_CLp) (FrP_C FrP_CPp) R2 (fun a i b1 b2 b3 => ?_) ?_
          · simp (disch := omega) only [up_ne, up_eq]
          · unfold RN at RNh ⊢
            simp (disch := omega) only [up_ne, up_eq]
            exact ⟨⟨RNh.1.1, by rw [RNh.1.2.1], RNh.1.2.2⟩, RNh.2⟩
        refine Rel_scr FrL_CLp FrP_CPp Rm (fun a i z => ?_) (RS_congr (fun a i z => ?_) Rm.2.2.2.2.2.1)
        · unfold KP at z
          show fx_up g' 130 1 (fx_w (g' 130 1 + 1)) a i = fx_up (fx_up h2 0 11 (fx_w (h2 0 11 + 1))) 130 1 (fx_w (h2 130 1 + 1)) a i
          rw [g130]
          by_cases y : a = 130 ∧ i = 1
          · rw [up_eq y.1 y.2, up_eq y.1 y.2]
          · rw [up_ne (by omega), up_ne (by omega), fr a i (by omega)]
        · show fx_up g' 130 1 (fx_w (g' 130 1 + 1)) a i = fx_up (fx_up h2 0 11 (fx_w (h2 0 11 + 1))) 130 1 (fx_w (h2 130 1 + 1)) a i
          rw [up_ne (by omega), up_ne (by omega), fr a i (by omega)]
      · omega
    · have r2 : TR2 h h2 := TR2_of R2.2.1 ef2
      rcases least_rf RV r2 c with ⟨y, -⟩ | ⟨-, A, g', ey, fr, c2, le, m1, m2, m3, m4, m5, m6, m7⟩
      · omega
      · have leE : le = h2 48 2 := by
          have a := m4 c1 n1 n2
          have b := n4 c2 m1 m2
          omega
        have cE : c1 = c2 := by
          by_cases y1 : c1 < c2
          · have := m5 c1 n1 y1; omega
          · by_cases y2 : c2 < c1
            · have := n5 c2 m1 y2; omega
            · omega
        have hx : f_X5_least FU La_167 0 p q h = some (A, h2) := by
          rw [cfront, if_neg (by omega)]
          by_cases z : p = -1
          · have y : p = -1 ∧ q = 0 := by
              rcases c with y | y
              · exact y
              · omega
            rw [if_pos y, if_pos (by decide), m6 z, leE]; rfl
          · have pv : (0 ≤ p ∧ p < 5) ∧ (0 ≤ q ∧ q < 5) := by
              rcases c with y | y
              · exact absurd y.1 z
              · omega
            rw [if_neg (show ¬ (p = -1 ∧ q = 0) from fun y => z y.1), if_neg (by decide), (cd_ld q pv.2.1 pv.2.2).1, Option.bind_some, rdl (cd_ld q pv.2.1 pv.2.2).2 pv.1.1 pv.1.2, n6 q p pv.2.1 pv.2.2 pv.1.1 pv.1.2, m7 z, cE]; rfl
        exact Ret.eq hx (Ret.eq ey ⟨rfl, Rel_inc (Rel_scr FrL_CLp FrP_CPp R2 (fun a i z => fr a i (by unfold KP at z; omega)) (RS_congr (fun a i z => fr a i (by omega)) R2.2.2.2.2.2.1))⟩)
  · refine sm_bad2 FrL_CLp FrP_CPp R (z := -2) ?_ (fun g hg => ?_)
    · unfold f_X5_least
      simp only [lb_tg_0_0]
      have c1 : ¬ (p = -1 ∧ q = 0) := fun z => c (Or.inl z)
      have c2 : ¬ ((0 ≤ p ∧ p < h 1 2) ∧ (0 ≤ q ∧ q < h 1 3)) := fun z => c (Or.inr z)
      rw [clv, Option.bind_some, if_neg c1, Option.bind_some, decide_eq_false c2, if_neg (show ¬ (false = true) by decide), Option.bind_some, if_pos ⟨rfl, rfl⟩]
      rfl
    · unfold f_X6_least
      obtain ⟨r1, -, r3, r4, -⟩ := RR
      have g2 : g 127 10 = h 1 2 := by rw [hg 127 10 (by omega)]; exact r3
      have g3 : g 127 11 = h 1 3 := by rw [hg 127 11 (by omega)]; exact r4
      rw [ev_isOne (by omega) (by omega), ev_isHour (by omega) (by omega), g2, g3, ev_bad]
      by_cases z : p = -1
      · have q0 : ¬ q = 0 := fun y => c (Or.inl ⟨z, y⟩)
        rw [if_pos z, if_neg q0]
        rfl
      · rw [if_neg z]
        by_cases y1 : 0 ≤ p ∧ p < h 1 2
        · have y2 : ¬ (0 ≤ q ∧ q < h 1 3) := fun y => c (Or.inr ⟨y1, y⟩)
          rw [if_pos y1, if_neg y2]
          rfl
        · rw [if_neg y1]
          rfl
end SIM
