-- needs: 5d
section SIM
variable {CL : fx_H → Prop} {k : Int} {h : fx_H}
theorem sim_did (hL : FrL CL) (R : Rel CL CPp k h) (q p : Int) : Sm CL CPp k (f_X5_did FU La_167 0 q p h) (f_X6_did FU La_167 126 q p) := by
  obtain ⟨RV, RR, R3, R4, R5, R6, R7⟩ := id R
  have vv := RV
  unfold TV at vv
  obtain ⟨⟨v1, v1'⟩, ⟨v2, v2'⟩, ⟨v3, v3'⟩, ⟨v4, v4'⟩, ⟨v5, v5'⟩, -⟩ := vv
  by_cases c : (0 ≤ q ∧ q < h 1 3) ∧ (p = -1 ∨ 0 ≤ p ∧ p < h 1 2)
  · obtain ⟨⟨q0, q1⟩, hp⟩ := c
    obtain ⟨h1, e1, e2, cc⟩ := sit_ok (line := h 1 1) (fr := -1) RV R6
    have ef1 : ∀ a i : Int, 1 ≤ a → a ≤ 19 → h1 a i = h a i := fun a i x y => e2 a i (by omega) (by omega) (by omega)
    have hp' : ¬ p = -1 → 0 ≤ p ∧ p < h 1 2 ∧ p < 5 := fun z => by
      rcases hp with y | y
      · exact absurd y z
      · exact ⟨y.1, y.2, by omega⟩
    generalize hN : Mq (fun _ => h 1 0 + 1) (h 1 2) (h 1 2).toNat = N
    have key : ∃ h2 : fx_H, f_X2_findWays FU La_167 84 1 43 q (h1 0 13) h1 = some h2 ∧ FND h h2 q N ∧ Rel CL CPp k h2 ∧ (∀ a i : Int, 1 ≤ a → a ≤ 19 → h2 a i = h a i) := by
      have R1 : Rel CL CPp k h1 := Rel_scr hL FrP_CPp R (KPsit e2) (RSsit e2 R6)
      unfold f_X2_findWays
      by_cases z : h1 84 4 = h1 0 13 ∧ h1 84 5 = q
      · rw [if_pos z]
        have f := R1.2.2.2.2.2.2.2.2.2 z.1 q z.2 q0 (by omega) (by rw [ef1 1 2 (by omega) (by omega)]; exact v3')
        refine ⟨h1, rfl, ?_, R1, ef1⟩
        rw [ef1 1 0 (by omega) (by omega), ef1 1 2 (by omega) (by omega), hN] at f
        exact FND_congr (h := h1) (h' := h) (by rw [ef1 1 2 (by omega) (by omega)]; exact v3') q0 (by omega) (fun a i x y => (ef1 a i x y).symm) rfl (fun _ => rfl) f
      · rw [if_neg z]
        simp only [lb_tg_84_2, lb_tg_84_3]
        rw [ev_fill lb_ln_86 (by omega) (by omega), Option.bind_some, wrl lb_ln_87 (by omega) (by omega), Option.bind_some]
        have u1 : ∀ a i : Int, a ≠ 84 → a ≠ 86 → a ≠ 87 → fx_up (fl (fx_up (fx_up (fx_up h1 84 4 (h1 0 13)) 84 5 q) 84 0 0) 86 5 9) 87 0 (-1) a i = h1 a i := fun a i x y z => by rw [up_ne (by omega), fl_out (by omega)]; simp (disch := omega) only [up_ne, up_eq]
        have u4 : fx_up (fl (fx_up (fx_up (fx_up h1 84 4 (h1 0 13)) 84 5 q) 84 0 0) 86 5 9) 87 0 (-1) 84 4 = h1 0 13 := by rw [up_ne (by omega), fl_out (by omega)]; simp (disch := omega) only [up_ne, up_eq]
        have u5 : fx_up (fl (fx_up (fx_up (fx_up h1 84 4 (h1 0 13)) 84 5 q) 84 0 0) 86 5 9) 87 0 (-1) 84 5 = q := by rw [up_ne (by omega), fl_out (by omega)]; simp (disch := omega) only [up_ne, up_eq]
        have u0 : fx_up (fl (fx_up (fx_up (fx_up h1 84 4 (h1 0 13)) 84 5 q) 84 0 0) 86 5 9) 87 0 (-1) 84 0 = 0 := by rw [up_ne (by omega), fl_out (by omega)]; simp (disch := omega) only [up_ne, up_eq]
        have u6 : ∀ i : Int, 0 ≤ i → i < 5 → fx_up (fl (fx_up (fx_up (fx_up h1 84 4 (h1 0 13)) 84 5 q) 84 0 0) 86 5 9) 87 0 (-1) 86 i = 9 := fun i a b => by rw [up_ne (by omega), fl_in rfl a b]
        have u7 : fx_up (fl (fx_up (fx_up (fx_up h1 84 4 (h1 0 13)) 84 5 q) 84 0 0) 86 5 9) 87 0 (-1) 87 0 = -1 := up_eq rfl rfl
        generalize fx_up (fl (fx_up (fx_up (fx_up h1 84 4 (h1 0 13)) 84 5 q) 84 0 0) 86 5 9) 87 0 (-1) = w at u0 u1 u4 u5 u6 u7
        have efw : ∀ a i : Int, 1 ≤ a → a ≤ 19 → w a i = h a i := fun a i x y => by rw [u1 a i (by omega) (by omega) (by omega)]; exact ef1 a i x y
        obtain ⟨⟨a, b, h2⟩, e3, k1, k2⟩ := ways_cl RV efw (CT_congr (fun a i z => u1 a i (by omega) (by omega) (by omega)) cc) q0 (show q < 5 by omega) u0 u6 u7
        simp only at k1 k2
        rw [hN] at k2
        have ef2 : ∀ a i : Int, 1 ≤ a → a ≤ 19 → h2 a i = h a i := fun a i x y => by rw [k1 a i (by omega) (by omega) (by omega) (by omega)]; exact efw a i x y
        rw [e3, Option.bind_some]
        refine ⟨h2, rfl, k2, Rel_past hL R1 (fun a i x y z => ?_) (RS_congr (fun a i z => by rw [k1 a i (by omega) (by omega) (by omega) (by omega), u1 a i (by omega) (by omega) (by omega)]) (RSsit e2 R6)) (by rw [k1 _ _ (by omega) (by omega) (by omega) (by omega)]; exact u4) (fun hr hh r0 r5 P5 => ?_), ef2⟩
        · unfold KP at x
          rw [k1 a i (by omega) (by omega) (by omega) (by omega), u1 a i (by omega) (by omega) (by omega)]
        · rw [k1 84 5 (by omega) (by omega) (by omega) (by omega), u5] at hh
          rw [← hh, ef2 1 0 (by omega) (by omega), ef2 1 2 (by omega) (by omega), hN]
          exact FND_congr v3' q0 (by omega) ef2 rfl (fun _ => rfl) k2
    obtain ⟨h2, e3, F, R2, ef2⟩ := key
    obtain ⟨F1, F2⟩ := F
    have r2 : TR2 h h2 := TR2_of R2.2.1 ef2
    obtain ⟨⟨A, g'⟩, ey, y1, y2, y3⟩ := did_rf (p := p) RV r2 q0 q1 hp
    rw [hN] at y1 y2
    simp only at y1 y2 y3
    have Rf : Rel CL CPp (k + 1) g' := Rel_inc (Rel_scr hL FrP_CPp R2 (fun a i z => y3 a i (by unfold KP at z; omega)) (RS_congr (fun a i z => y3 a i (by omega)) R2.2.2.2.2.2.1))
    have hx : f_X5_did FU La_167 0 q p h = some (A, h2) := by
      unfold f_X5_did
      simp only [lb_tg_0_0, lb_tg_0_5, lb_tg_0_7]
      rw [ev_hasHour v4 v4', Option.bind_some, if_pos (show 0 ≤ q ∧ q < h 1 3 from ⟨q0, q1⟩), if_neg (show ¬ (1 : Int) = 0 by decide), ev_hasPerson v3 v3', Option.bind_some]
      rw [show (if ¬ p = -1 then (if (if 0 ≤ p ∧ p < h 1 2 then (1 : Int) else 0) = 0 then some true else some false) else some false) = some false by
        rcases hp with z | z
        · rw [if_neg (not_not_intro z)]
        · rw [if_pos (by omega), if_pos z, if_neg (by decide)], Option.bind_some, if_neg (by decide), e1, Option.bind_some, e3, Option.bind_some]
      by_cases z : p = -1
      · rw [if_pos z, y1 z, F1]
      · rw [if_neg z]
        rcases y2 z with ⟨m1, m2⟩ | ⟨c1, m1, m2, m3, m4, m5⟩
        · rw [if_pos (by rw [F1]; exact m1), m2]; rfl
        · have pos : 0 < h2 84 0 := by
            rw [F1, sumI_at (p := c1) m1 (by omega), m3]
            have := sumI_nn (n := N.toNat) (f := fun i => if i = c1 then 0 else wI h q i) (fun i _ _ => by
              rcases wI_01 h q i with z | z <;> split <;> omega)
            omega
          obtain ⟨c2, n1, n2, n3, n4, n5⟩ := F2 pos
          have cE : c1 = c2 := by
            by_cases y1 : c1 < c2
            · have := n4 c1 m1 y1; omega
            · by_cases y2 : c2 < c1
              · have := m4 c2 n1 y2; omega
              · omega
          rw [if_neg (fun y => by rw [y] at pos; exact absurd pos (by decide)), lb_tg_84_1, rdl lb_ln_85 (hp' z).1 (hp' z).2.2, n5 p (hp' z).1 (hp' z).2.1, m5, cE]
          rfl
    exact Ret.eq hx (Ret.eq ey ⟨rfl, Rf⟩)
  · have cl : ((f_X4_hasHour FU La_167 1 q h).bind fun v5 => if v5 = 0 then some true else if ¬ p = -1 then (f_X4_hasPerson FU La_167 1 p h).bind fun v9 => if v9 = 0 then some true else some false else some false) = some true := by
      rw [ev_hasHour v4 v4', Option.bind_some, ev_hasPerson v3 v3', Option.bind_some]
      by_cases c1 : 0 ≤ q ∧ q < h 1 3
      · rw [if_pos c1, if_neg (by decide)]
        have c2 : ¬ (p = -1 ∨ 0 ≤ p ∧ p < h 1 2) := fun z => c ⟨c1, z⟩
        rw [if_pos (fun z => c2 (Or.inl z)), if_neg (fun z => c2 (Or.inr z)), if_pos rfl]
      · rw [if_neg c1, if_pos rfl]
    refine sm_bad2 hL FrP_CPp R (z := -10) ?_ (fun g hg => ?_)
    · unfold f_X5_did
      simp only [lb_tg_0_0]
      rw [cl, Option.bind_some, if_pos rfl]
      rfl
    · unfold f_X6_did
      obtain ⟨r1, -, r3, r4, -⟩ := RR
      have g2 : g 127 10 = h 1 2 := by rw [hg 127 10 (by omega)]; exact r3
      have g3 : g 127 11 = h 1 3 := by rw [hg 127 11 (by omega)]; exact r4
      rw [ev_isHour (by omega) (by omega), g3, Option.bind_some, ev_isOne (by omega) (by omega), g2, Option.bind_some, ev_bad]
      by_cases c1 : 0 ≤ q ∧ q < h 1 3
      · have c2 : ¬ (p = -1 ∨ 0 ≤ p ∧ p < h 1 2) := fun z => c ⟨c1, z⟩
        rw [if_pos c1, if_neg (show ¬ (1 : Int) = 0 by decide), if_pos (fun z => c2 (Or.inl z)), if_neg (fun z => c2 (Or.inr z)), if_pos rfl]
        rfl
      · rw [if_neg c1, if_pos rfl]
        rfl
end SIM
