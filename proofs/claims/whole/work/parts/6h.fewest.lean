-- needs: 6g
/-- how many ways there are by n hours; whether one is without fines -/
def Nn (h : fx_H) (n : Int) : Int := prI (fun p => cnF (ndF h p) n) (h 1 2).toNat
def Zn (h : fx_H) (n : Int) : Prop := ∃ c : Int, 0 ≤ c ∧ c < Nn h n ∧ Fc h (smT h (h 1 1) (-1)) n c = 0
def FWR (h : fx_H) (r : Int) : Prop := (∃ n : Int, 1 ≤ n ∧ n ≤ 5 ∧ (∀ m : Int, 1 ≤ m → m < n → Nn h m ≤ 50000 ∧ ¬ Zn h m) ∧ (r = -3 ∧ 50000 < Nn h n ∨ r = n ∧ Nn h n ≤ 50000 ∧ Zn h n)) ∨ (r = -1 ∧ ∀ m : Int, 1 ≤ m → m ≤ 5 → Nn h m ≤ 50000 ∧ ¬ Zn h m)
theorem FWR_one {h : fx_H} {r r' : Int} (a : FWR h r) (b : FWR h r') : r = r' := by
  rcases a with ⟨n, a1, a2, a3, a4⟩ | ⟨a1, a2⟩
  · rcases b with ⟨m, b1, b2, b3, b4⟩ | ⟨b1, b2⟩
    · have e : n = m := by
        by_cases y1 : n < m
        · have := b3 n a1 y1
          rcases a4 with ⟨-, z⟩ | ⟨-, -, z⟩
          · have := this.1; omega
          · exact absurd z this.2
        · by_cases y2 : m < n
          · have := a3 m b1 y2
            rcases b4 with ⟨-, z⟩ | ⟨-, -, z⟩
            · have := this.1; omega
            · exact absurd z this.2
          · omega
      subst e
      rcases a4 with ⟨z1, z2⟩ | ⟨z1, z2, z3⟩
      · rcases b4 with ⟨w1, w2⟩ | ⟨w1, w2, w3⟩
        · omega
        · clear a3 b3; omega
      · rcases b4 with ⟨w1, w2⟩ | ⟨w1, w2, w3⟩
        · clear a3 b3; omega
        · rw [z1, w1]
    · exfalso
      have := b2 n a1 a2
      rcases a4 with ⟨-, z⟩ | ⟨-, -, z⟩
      · have := this.1; omega
      · exact absurd z this.2
  · rcases b with ⟨m, b1, b2, b3, b4⟩ | ⟨b1, b2⟩
    · exfalso
      have := a2 m b1 b2
      rcases b4 with ⟨-, z⟩ | ⟨-, -, z⟩
      · have := this.1; omega
      · exact absurd z this.2
    · rw [a1, b1]
/-- what fewest leaves as it is -/
def FF (h s : fx_H) : Prop := ∀ a i : Int, ¬ (43 ≤ a ∧ a ≤ 45) → ¬ (50 ≤ a ∧ a ≤ 54) → ¬ (62 ≤ a ∧ a ≤ 66) → ¬ (68 ≤ a ∧ a ≤ 76) → ¬ (79 ≤ a ∧ a ≤ 83) → s a i = h a i
theorem few_step {h s : fx_H} {n : Int} (v : TV 1 h) (f : FF h s) (p9 : P9 s) (cc : CT (smT h (h 1 1) (-1)) (h 1 0) (h 1 2) (h 1 4) s) (n1 : 1 ≤ n) (n5 : n ≤ 5) : ∃ h8 : fx_H, f_X1_writeRows FU La_167 48 1 n s = some h8 ∧ f_X1_waysTogether FU La_167 48 1 h8 = some (Nn h n) ∧ FF h h8 ∧ P9 h8 ∧ (Nn h n ≤ 50000 → ∃ (le : Int) (h9 : fx_H), f_X1_search FU La_167 48 1 43 n 1 h8 = some (le, h9) ∧ FF h h9 ∧ P9 h9 ∧ CT (smT h (h 1 1) (-1)) (h 1 0) (h 1 2) (h 1 4) h9 ∧ (le = 0 ↔ Zn h n)) := by
  have vv := v
  unfold TV at vv
  obtain ⟨⟨v1, v1'⟩, ⟨v2, v2'⟩, ⟨v3, v3'⟩, ⟨v4, v4'⟩, ⟨v5, v5'⟩, -⟩ := vv
  have st : ∀ a i : Int, 1 ≤ a → a ≤ 19 → s a i = h a i := fun a i x y => f a i (by omega) (by omega) (by omega) (by omega) (by omega)
  have vs : TV 1 s := TV_congr (fun a i _ _ => st a i (by omega) (by omega)) v
  obtain ⟨h8, e3, k1, k2⟩ := writeRows_ok vs n1 n5
  have h8t : ∀ a i : Int, 1 ≤ a → a ≤ 19 → h8 a i = h a i := fun a i x y => by rw [k1 a i (by omega) (by omega) (by omega)]; exact st a i x y
  have nE : ∀ p : Int, 0 ≤ p → p < h 1 2 → ndF s p = ndF h p := nds_eq v3' st
  have nE8 : ∀ p : Int, 0 ≤ p → p < h 1 2 → ndF h8 p = ndF h p := nds_eq v3' h8t
  have w2 : s 1 2 = h 1 2 := st _ _ (by omega) (by omega)
  have h82 : h8 1 2 = h 1 2 := h8t _ _ (by omega) (by omega)
  have cb := fun p : Int => cnF_b (nd := ndF h p) n1 n5
  have f8 : FF h h8 := fun a i x1 x2 x3 x4 x5 => by rw [k1 a i (by omega) (by omega) (by omega)]; exact f a i x1 x2 x3 x4 x5
  have p8 : P9 h8 := fun a b x y x' y' => by rw [k1 _ _ (by omega) (by omega) (by omega)]; exact p9 a b x y x' y'
  have wy : f_X1_waysTogether FU La_167 48 1 h8 = some (Nn h n) := ways_ok (n := n) (P := h 1 2) h82 (by omega) v3' (fun p a b => ⟨by
    have := (k2 p a (by rw [w2]; exact b)).1
    rw [nE p a b] at this
    exact this, (cb p).1, (cb p).2.1⟩)
  refine ⟨h8, e3, wy, f8, p8, fun hN => ?_⟩
  have v8 : TV 1 h8 := TV_congr (fun a i _ _ => h8t a i (by omega) (by omega)) v
  have smE := smT_congr h8t
  have R8 : RWC h8 h8 n := fun p a b => by
    rw [h82] at b
    have := k2 p a (by rw [w2]; exact b)
    rw [nE p a b] at this
    rw [nE8 p a b]
    exact this
  have C8' : CT (smT h (h 1 1) (-1)) (h 1 0) (h 1 2) (h 1 4) h8 := CT_congr (fun a i z => k1 a i (by omega) (by omega) (by omega)) cc
  have C8 : CT (smT h8 (h8 1 1) (-1)) (h8 1 0) (h8 1 2) (h8 1 4) h8 := by
    rw [smE, h8t 1 0 (by omega) (by omega), h82, h8t 1 4 (by omega) (by omega)]; exact C8'
  obtain ⟨Wq, Fq, Nq⟩ := WcFc_congr (sm := smT h (h 1 1) (-1)) (n := n) v3' h8t
  have N1 : prI (fun p => cnF (ndF h8 p) n) (h8 1 2).toNat = Nn h n := Nq
  have cs := cnt_case (h := h8) (n := n) v8 n1 n5 (by rw [N1]; exact hN)
  obtain ⟨⟨le, h9⟩, e4, m1, m2, m3⟩ := search_ok (h0 := h8) (sm := smT h8 (h8 1 1) (-1)) (n := n) (w := h8) (bound := 1) v8 C8 R8 n1 n5 (SM_9 _ _) (smT_nn v8) (by decide) (by decide) (S0_ok (by omega) (by omega) (fun p => (cnF_b (nd := ndF h8 p) n1 n5).1) cs) (fun _ _ _ _ _ _ _ => rfl) p8
  simp only at m1 m2 m3
  rw [Mq_prI (by omega) (by omega), N1, smE, Wq, Fq] at m1
  obtain ⟨l1, l2, l3⟩ := m1
  refine ⟨le, h9, e4, fun a i x1 x2 x3 x4 x5 => by rw [m2 a i x2 x3 (by omega) (by omega) x5]; exact f8 a i x1 x2 x3 x4 x5, m3, CT_congr (fun a i z => m2 a i (by omega) (by omega) (by omega) (by omega) (by omega)) C8', ⟨fun z => ?_, fun ⟨c1, x1, x2, x3⟩ => ?_⟩⟩
  · obtain ⟨c1, q1, q2, q3, q4, q5, q6⟩ := l3 (by omega)
    exact ⟨c1, q1, q2, by rw [q4]; exact z⟩
  · have := l2 c1 x1 x2 x2
    omega
theorem few_cl {h h1 : fx_H} (v : TV 1 h) (f : FF h h1) (p9 : P9 h1) (cc : CT (smT h (h 1 1) (-1)) (h 1 0) (h 1 2) (h 1 4) h1) : Ret (f_X1_fewestHours FU La_167 48 1 43 h1) (fun e => FWR h e.1 ∧ FF h e.2 ∧ P9 e.2) := by
  unfold f_X1_fewestHours
  have key : Ret (fx_loop (s_X1_fewestHours_1 FU La_167 48 1 43) FU (1, h1)) (fun e => ∃ (r : Int) (s : fx_H), (e = .inr (r, s) ∨ r = -1 ∧ ∃ x : Int, e = .inl (x, s)) ∧ FWR h r ∧ FF h s ∧ P9 s) := by
    refine loop_ret (fun s => 1 ≤ s.1 ∧ s.1 ≤ 6 ∧ FF h s.2 ∧ P9 s.2 ∧ CT (smT h (h 1 1) (-1)) (h 1 0) (h 1 2) (h 1 4) s.2 ∧ ∀ m : Int, 1 ≤ m → m < s.1 → Nn h m ≤ 50000 ∧ ¬ Zn h m) (fun s => (6 - s.1).toNat) (fun s hs => ?_) FU _ ⟨Int.le_refl 1, by show (1 : Int) ≤ 6; decide, f, p9, cc, fun m a b => by have : m < 1 := b; omega⟩ (FU_gt (by show (6 - (1 : Int)).toNat < _; decide))
    obtain ⟨n, s⟩ := s
    obtain ⟨s1, s2, s3, s4, s5, s6⟩ := hs
    simp only at s1 s2 s3 s4 s5 s6
    unfold s_X1_fewestHours_1
    simp only
    by_cases c : n ≤ 5
    · obtain ⟨h8, e1, e2, f8, p8, k⟩ := few_step v s3 s4 s5 s1 c
      rw [if_pos c, e1, Option.bind_some, e2, Option.bind_some]
      by_cases z : 50000 < Nn h n
      · rw [if_pos z]
        exact Or.inr ⟨_, rfl, -3, h8, Or.inl rfl, Or.inl ⟨n, s1, c, s6, Or.inl ⟨rfl, z⟩⟩, f8, p8⟩
      · obtain ⟨le, h9, e3, f9, p9', c9, lz⟩ := k (by omega)
        rw [if_neg z, e3, Option.bind_some]
        simp only
        by_cases y : le = 0
        · rw [if_pos y]
          exact Or.inr ⟨_, rfl, n, h9, Or.inl rfl, Or.inl ⟨n, s1, c, s6, Or.inr ⟨rfl, by omega, lz.mp y⟩⟩, f9, p9'⟩
        · rw [if_neg y, wid (by omega) (by omega)]
          refine Or.inl ⟨_, rfl, ⟨by show 1 ≤ n + 1; omega, by show n + 1 ≤ 6; omega, f9, p9', c9, fun m a b => ?_⟩, by show (6 - (n + 1)).toNat < (6 - n).toNat; omega⟩
          have b : m < n + 1 := b
          by_cases e : m = n
          · rw [e]; exact ⟨by omega, fun q => y (lz.mpr q)⟩
          · exact s6 m a (by omega)
    · rw [if_neg c]
      exact Or.inr ⟨_, rfl, -1, s, Or.inr ⟨rfl, n, rfl⟩, Or.inr ⟨rfl, fun m a b => s6 m a (by omega)⟩, s3, s4⟩
  obtain ⟨e, e1, r, s, ee, k1, k2, k3⟩ := key
  rw [e1, Option.bind_some]
  rcases ee with rfl | ⟨rfl, x, rfl⟩
  · exact Ret.ok ⟨k1, k2, k3⟩
  · exact Ret.ok ⟨k1, k2, k3⟩
theorem few_rf {h g : fx_H} (v : TV 1 h) (r2 : TR2 h g) : ∃ (r : Int) (g' : fx_H), FWR h r ∧ (∀ a i : Int, ¬ (131 ≤ a ∧ a ≤ 140) → g' a i = g a i) ∧ f_X6_fewest FU La_167 126 g = some (r, if r = -3 then fx_up g' 130 1 (fx_w (g' 130 1 + 1)) else g') := by
  have vv := v
  unfold TV at vv
  obtain ⟨⟨v1, v1'⟩, ⟨v2, v2'⟩, ⟨v3, v3'⟩, ⟨v4, v4'⟩, ⟨v5, v5'⟩, -⟩ := vv
  obtain ⟨g1, e1, f1, f2⟩ := layNow_ok v r2
  have r21 : TR2 h g1 := TR2_congr (fun i => f1 _ _ (by omega) (by omega)) r2
  unfold f_X6_fewest
  rw [e1, Option.bind_some]
  have key : Ret (fx_loop (s_X6_fewest_1 FU La_167 126) FU (1, g1)) (fun e => ∃ (r : Int) (g' : fx_H), (e = .inr (r, if r = -3 then fx_up g' 130 1 (fx_w (g' 130 1 + 1)) else g') ∨ r = -1 ∧ ∃ x : Int, e = .inl (x, g')) ∧ FWR h r ∧ ∀ a i : Int, ¬ (131 ≤ a ∧ a ≤ 140) → g' a i = g a i) := by
    refine loop_ret (fun s => 1 ≤ s.1 ∧ s.1 ≤ 6 ∧ (∀ a i : Int, ¬ (131 ≤ a ∧ a ≤ 140) → s.2 a i = g a i) ∧ SOK (smT h (h 1 1) (-1)) (h 1 0) s.2 ∧ ∀ m : Int, 1 ≤ m → m < s.1 → Nn h m ≤ 50000 ∧ ¬ Zn h m) (fun s => (6 - s.1).toNat) (fun s hs => ?_) FU _ ⟨Int.le_refl 1, by show (1 : Int) ≤ 6; decide, fun a i z => f1 a i (by omega) (by omega), f2, fun m a b => by have : m < 1 := b; omega⟩ (FU_gt (by show (6 - (1 : Int)).toNat < _; decide))
    obtain ⟨n, s⟩ := s
    obtain ⟨s1, s2, s3, s4, s6⟩ := hs
    simp only at s1 s2 s3 s4 s6
    unfold s_X6_fewest_1
    simp only
    by_cases c : n ≤ 5
    · have rs : TR2 h s := TR2_congr (fun i => s3 _ _ (by omega)) r2
      obtain ⟨g4, y3, y4, y7⟩ := findAllRows_ok v rs s1 c
      have y5 : TR2 h g4 := TR2_congr (fun i => y4 _ _ (by omega)) rs
      have y6 := SOK_congr (g' := g4) (fun i => y4 _ _ (by omega)) s4
      have cb := fun p : Int => cnF_b (nd := ndF h p) s1 c
      have wy : f_X6_ways FU La_167 126 g4 = some (Nn h n) := waysR_ok (g := g4) (P := h 1 2) (c := fun p => cnF (ndF h p) n) y5.2.2.1 (by omega) v3' (fun p a b => ⟨(y7 p a b).1, (cb p).1, (cb p).2.1⟩)
      have fr4 : ∀ a i : Int, ¬ (131 ≤ a ∧ a ≤ 140) → g4 a i = g a i := fun a i z => by rw [y4 a i (by omega)]; exact s3 a i z
      rw [if_pos c, y3, Option.bind_some, wy, Option.bind_some]
      by_cases z : 50000 < Nn h n
      · rw [if_pos z, ev_no, Option.bind_some]
        refine Or.inr ⟨_, rfl, -3, g4, Or.inl ?_, Or.inl ⟨n, s1, c, s6, Or.inl ⟨rfl, z⟩⟩, fr4⟩
        rw [if_pos rfl]
      · obtain ⟨⟨le, g5⟩, e2, ⟨l1, l2, l3⟩, ff⟩ := findLeast_ok (sm := smT h (h 1 1) (-1)) (n := n) v y5 (SM_9 _ _) y6 y7 s1 c (by show Nn h n ≤ 50000; omega)
        simp only at l1 l2 l3 ff
        have lz : le = 0 ↔ Zn h n := ⟨fun q => by
          obtain ⟨c1, x1, x2, x3, x4, x5⟩ := l3 (by omega)
          exact ⟨c1, x1, x2, by rw [x3]; exact q⟩, fun ⟨c1, x1, x2, x3⟩ => by have := l2 c1 x1 x2; omega⟩
        have fr5 : ∀ a i : Int, ¬ (131 ≤ a ∧ a ≤ 140) → g5 a i = g a i := fun a i z => by rw [ff a i (by omega) (by omega)]; exact fr4 a i z
        rw [if_neg z, e2, Option.bind_some]
        simp only
        by_cases y : le = 0
        · rw [if_pos y]
          refine Or.inr ⟨_, rfl, n, g5, Or.inl ?_, Or.inl ⟨n, s1, c, s6, Or.inr ⟨rfl, by omega, lz.mp y⟩⟩, fr5⟩
          rw [if_neg (by omega)]
        · rw [if_neg y, wid (by omega) (by omega)]
          refine Or.inl ⟨_, rfl, ⟨by show 1 ≤ n + 1; omega, by show n + 1 ≤ 6; omega, fr5, SOK_congr (fun i => ff _ _ (by omega) (by omega)) y6, fun m a b => ?_⟩, by show (6 - (n + 1)).toNat < (6 - n).toNat; omega⟩
          have b : m < n + 1 := b
          by_cases e : m = n
          · rw [e]; exact ⟨by omega, fun q => y (lz.mpr q)⟩
          · exact s6 m a (by omega)
    · rw [if_neg c]
      exact Or.inr ⟨_, rfl, -1, s, Or.inr ⟨rfl, n, rfl⟩, Or.inr ⟨rfl, fun m a b => s6 m a (by omega)⟩, s3⟩
  obtain ⟨e, e3, r, g', ee, k1, k2⟩ := key
  rw [e3, Option.bind_some]
  rcases ee with rfl | ⟨rfl, x, rfl⟩
  · exact ⟨r, g', k1, k2, rfl⟩
  · exact ⟨-1, g', k1, k2, rfl⟩
section SIM
variable {CL CP : fx_H → Prop} {k : Int} {h : fx_H}
theorem sim_fewest (hL : FrL CL) (hP : FrP CP) (R : Rel CL CP k h) : Sm CL CP k (f_X5_fewest FU La_167 0 h) (f_X6_fewest FU La_167 126) := by
  obtain ⟨RV, RR, R3, R4, R5, R6, R7⟩ := id R
  obtain ⟨h1, e1, e2, cc⟩ := sit_ok (line := h 1 1) (fr := -1) RV R6
  have F1 : FF h h1 := fun a i x1 x2 x3 x4 x5 => e2 a i (by omega) (by omega) (by omega)
  have P1 : P9 h1 := fun a b x y x' y' => by rw [e2 _ _ (by omega) (by omega) (by omega)]; exact R6.2 a b x y x' y'
  obtain ⟨⟨r, h2⟩, e3, k1, k2, k3⟩ := few_cl RV F1 P1 cc
  simp only at k1 k2 k3
  have R2 : Rel CL CP k h2 := Rel_scr hL hP R (fun a i z => by unfold KP at z; exact k2 a i (by omega) (by omega) (by omega) (by omega) (by omega)) ⟨fun p a b => by rw [k2 _ _ (by omega) (by omega) (by omega) (by omega) (by omega)]; exact R6.1 p a b, k3⟩
  have ef2 : ∀ a i : Int, 1 ≤ a → a ≤ 19 → h2 a i = h a i := fun a i x y => k2 a i (by omega) (by omega) (by omega) (by omega) (by omega)
  by_cases c : r = -3
  · have hx : f_X5_fewest FU La_167 0 h = some (-3, fx_up h2 0 11 (fx_w (h2 0 11 + 1))) := by
      unfold f_X5_fewest
      simp only [lb_tg_0_0, lb_tg_0_5, lb_tg_0_6]
      rw [e1, Option.bind_some, e3, Option.bind_some]
      simp only
      rw [if_pos c]
      rfl
    refine Ret.eq hx ?_
    have r2 : TR2 h (fx_up h2 0 11 (fx_w (h2 0 11 + 1))) := TR2_congr (fun i => up_ne (by omega)) (TR2_of R2.2.1 ef2)
    obtain ⟨r', g', m1, fr, ey⟩ := few_rf RV r2
    have rE : r' = -3 := by rw [FWR_one m1 k1, c]
    rw [rE, if_pos rfl] at ey
    refine Ret.eq ey ⟨rfl, ?_⟩
    have RNh := R2.2.2.2.1
    have g130 : g' 130 1 = h2 130 1 := by rw [fr _ _ (by omega), up_ne (by omega)]
    have Rm : Rel CL CP (k + 1) (fx_up (fx_up h2 0 11 (fx_w (h2 0 11 + 1))) 130 1 (fx_w (h2 130 1 + 1))) := by
      refine Rel_ref (FrL_C hL) (FrP_C hP) R2 (fun a i b1 b2 b3 => ?_) ?_
      · simp (disch := omega) only [up_ne, up_eq]
      · unfold RN at RNh ⊢
        simp (disch := omega) only [up_ne, up_eq]
        exact ⟨⟨RNh.1.1, by rw [RNh.1.2.1], RNh.1.2.2⟩, RNh.2⟩
    refine Rel_scr hL hP Rm (fun a i z => ?_) (RS_congr (fun a i z => ?_) Rm.2.2.2.2.2.1)
    · unfold KP at z
      show fx_up g' 130 1 (fx_w (g' 130 1 + 1)) a i = fx_up (fx_up h2 0 11 (fx_w (h2 0 11 + 1))) 130 1 (fx_w (h2 130 1 + 1)) a i
      rw [g130]
      by_cases y : a = 130 ∧ i = 1
      · rw [up_eq y.1 y.2, up_eq y.1 y.2]
      · rw [up_ne (by omega), up_ne (by omega), fr a i (by omega)]
    · show fx_up g' 130 1 (fx_w (g' 130 1 + 1)) a i = fx_up (fx_up h2 0 11 (fx_w (h2 0 11 + 1))) 130 1 (fx_w (h2 130 1 + 1)) a i
      rw [up_ne (by omega), up_ne (by omega), fr a i (by omega)]
  · have hx : f_X5_fewest FU La_167 0 h = some (r, h2) := by
      unfold f_X5_fewest
      simp only [lb_tg_0_0, lb_tg_0_5, lb_tg_0_6]
      rw [e1, Option.bind_some, e3, Option.bind_some]
      simp only
      rw [if_neg c]
      rfl
    refine Ret.eq hx ?_
    obtain ⟨r', g', m1, fr, ey⟩ := few_rf RV (TR2_of R2.2.1 ef2)
    have rE : r' = r := FWR_one m1 k1
    rw [rE, if_neg c] at ey
    exact Ret.eq ey ⟨rfl, Rel_inc (Rel_scr hL hP R2 (fun a i z => fr a i (by unfold KP at z; omega)) (RS_congr (fun a i z => fr a i (by omega)) R2.2.2.2.2.2.1))⟩
end SIM
