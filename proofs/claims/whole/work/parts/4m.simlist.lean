-- needs: 4l
section SIM
variable {CL CP : fx_H → Prop} {k : Int} {h : fx_H}
theorem Vo_b {sm kd : Int → Int} {nds : Int → Int → Int} {P ri n : Int} {o : Int → Int} (P0 : 0 ≤ P) (P5 : P ≤ 5) (n0 : 0 ≤ n) (n5 : n ≤ 5) : 0 ≤ Vo sm kd nds P ri n o ∧ Vo sm kd nds P ri n o ≤ 500 := AI_b P0 P5 n0 n5
theorem orders_cl {h1 h2 : fx_H} (e2 : h1 1 3 = h2 1 3) (e3 : f_X1_writeRows FU La_167 48 1 (h2 1 3) h1 = some h2) : Ret (f_X1_startOrders FU La_167 48 1 h1) (fun s => (∀ a i : Int, a ≠ 77 → s a i = h2 a i) ∧ ∀ i : Int, 0 ≤ i → i < 5 → s 77 i = i) := by
  unfold f_X1_startOrders
  rw [e2, e3, Option.bind_some]
  refine Ret.bind (Ret.mono (loop_for (fun j s => (∀ a i : Int, a ≠ 77 → s a i = h2 a i) ∧ ∀ i : Int, 0 ≤ i → i < j → s 77 i = i) 5 (FU_gt (by omega)) (by omega) ⟨fun _ _ _ => rfl, fun _ _ _ => by omega⟩ (fun j s b1 b2 ⟨i1, i2⟩ => ?_) (fun s _ => ?_)) (fun w hw => ?_))
  · unfold s_X1_startOrders_1
    simp only [lb_tg_48_11]
    rw [if_pos b2, wrl lb_ln_77 b1 b2, Option.bind_some, wid (by omega) (by omega)]
    refine ⟨_, rfl, fun a i z => by rw [up_ne (Or.inl z)]; exact i1 a i z, fun i a b => ?_⟩
    by_cases e : i = j
    · rw [up_eq rfl e, e]
    · rw [up_ne (Or.inr e)]; exact i2 i a (by omega)
  · unfold s_X1_startOrders_1
    simp only
    rw [if_neg (by omega)]
  · obtain ⟨x, s⟩ := w
    obtain ⟨-, i1, i2⟩ := hw
    simp only at i1 i2 ⊢
    exact Ret.ok ⟨i1, i2⟩
theorem first_cl {h1 h2 : fx_H} {sm : Int → Int} (V : TV 1 h2) (RS2 : RS h2) (C2 : CT sm (h2 1 0) (h2 1 2) (h2 1 4) h2) (W2 : RWC h2 h2 (h2 1 3)) (e2 : h1 1 3 = h2 1 3) (e3 : f_X1_writeRows FU La_167 48 1 (h2 1 3) h1 = some h2) : ∃ (s w : fx_H) (m : Int), f_X1_startOrders FU La_167 48 1 h1 = some s ∧ f_X1_finesInOrder FU La_167 48 1 43 s = some (m, w) ∧ m = Vo sm (kdF h2) (ndF h2) (h2 1 2) (h2 1 4) (h2 1 3) (fun j => j) ∧ CF h2 w ∧ P9 w ∧ ∀ i : Int, 0 ≤ i → i < 5 → w 77 i = i := by
  have P5 : 1 ≤ h2 1 2 ∧ h2 1 2 ≤ 5 := by unfold TV at V; exact V.2.2.1
  obtain ⟨s, e5, i1, i2⟩ := orders_cl e2 e3
  obtain ⟨⟨a, w⟩, e4, k1, k2, k3, k4⟩ := order_cl (h := s) (o := fun j => j) V rfl rfl rfl rfl C2 W2 (fun a i x y => i1 a i (by omega)) (fun a b x y x' y' => by rw [i1 _ _ (by omega)]; exact RS2.2 a b x y x' y') (fun i a b => ⟨i2 i a (by omega), a, b⟩)
  simp only at k1 k2 k3 k4
  exact ⟨s, w, a, e5, e4, k1, k2, k3, fun i a b => by rw [k4, i2 i a b]⟩
theorem number_cl {h1 h2 : fx_H} {sm : Int → Int} (V : TV 1 h2) (RS2 : RS h2) (C2 : CT sm (h2 1 0) (h2 1 2) (h2 1 4) h2) (W2 : RWC h2 h2 (h2 1 3)) (e2 : h1 1 3 = h2 1 3) (e3 : f_X1_writeRows FU La_167 48 1 (h2 1 3) h1 = some h2) : Ret (f_X1_finesByNumber FU La_167 48 1 43 h1) (fun e => e.1 = Vo sm (kdF h2) (ndF h2) (h2 1 2) (h2 1 4) (h2 1 3) (fun j => j) ∧ CF h2 e.2 ∧ P9 e.2 ∧ ∀ i : Int, 0 ≤ i → i < 5 → e.2 77 i = i) := by
  obtain ⟨s, w, m, e5, e4, k1, k2, k3, k4⟩ := first_cl V RS2 C2 W2 e2 e3
  unfold f_X1_finesByNumber
  rw [e5, Option.bind_some, e4, Option.bind_some]
  exact Ret.ok ⟨k1, k2, k3, k4⟩
/-- the greatest over all orders -/
def Mx (V : (Int → Int) → Int) (P m : Int) : Prop := (∃ i : Nat, i < rc P (fun j => j) ∧ m = V (Rq P (fun j => j) i)) ∧ ∀ i : Nat, i < rc P (fun j => j) → V (Rq P (fun j => j) i) ≤ m
theorem worst_cl {h1 h2 : fx_H} {sm : Int → Int} (V : TV 1 h2) (RS2 : RS h2) (C2 : CT sm (h2 1 0) (h2 1 2) (h2 1 4) h2) (W2 : RWC h2 h2 (h2 1 3)) (e2 : h1 1 3 = h2 1 3) (e3 : f_X1_writeRows FU La_167 48 1 (h2 1 3) h1 = some h2) : Ret (f_X1_finesByWorstOrder FU La_167 48 1 43 h1) (fun e => Mx (Vo sm (kdF h2) (ndF h2) (h2 1 2) (h2 1 4) (h2 1 3)) (h2 1 2) e.1 ∧ CF h2 e.2 ∧ P9 e.2) := by
  have P5 : 1 ≤ h2 1 2 ∧ h2 1 2 ≤ 5 := by unfold TV at V; exact V.2.2.1
  obtain ⟨q1, q2, -, q3, q4⟩ := rc_ok P5.1 P5.2 (fun j => j)
  unfold f_X1_finesByWorstOrder
  obtain ⟨s0, w, m0, e5, e4, k1, k2, k3, k4⟩ := first_cl V RS2 C2 W2 e2 e3
  rw [e5, Option.bind_some, e4, Option.bind_some]
  simp only
  generalize hV : Vo sm (kdF h2) (ndF h2) (h2 1 2) (h2 1 4) (h2 1 3) = VV at *
  have key : Ret (fx_loop (s_X1_finesByWorstOrder_1 FU La_167 48 1 43) FU (m0, 0, w)) (fun e => Mx VV (h2 1 2) e.1 ∧ CF h2 e.2.2 ∧ P9 e.2.2) := by
    refine loop_ret (fun s => 0 ≤ s.2.1 ∧ s.2.1 < (rc (h2 1 2) (fun j => j) : Int) ∧ CF h2 s.2.2 ∧ P9 s.2.2 ∧ (∀ j : Int, 0 ≤ j → j < h2 1 2 → s.2.2 77 j = Rq (h2 1 2) (fun j => j) s.2.1.toNat j) ∧ (∃ i : Nat, (i : Int) ≤ s.2.1 ∧ s.1 = VV (Rq (h2 1 2) (fun j => j) i)) ∧ ∀ i : Nat, (i : Int) ≤ s.2.1 → VV (Rq (h2 1 2) (fun j => j) i) ≤ s.1) (fun s => (120 - s.2.1).toNat) (fun s hs => ?_) FU _ (by exact ⟨Int.le_refl 0, (show (0 : Int) < _ by omega), k2, k3, fun j a b => k4 j a (by omega), ⟨0, (show ((0 : Nat) : Int) ≤ 0 by omega), k1⟩, fun i hi => by
      have hi : (i : Int) ≤ 0 := hi
      rw [show i = 0 by omega]
      exact Int.le_of_eq k1.symm⟩) (FU_gt (by show (120 - (0 : Int)).toNat < _; decide))
    obtain ⟨m, i, s⟩ := s
    obtain ⟨s1, s2, s3, s4, s5, s6, s7⟩ := hs
    simp only at s1 s2 s3 s4 s5 s6 s7
    unfold s_X1_finesByWorstOrder_1
    simp only [lb_tg_48_11]
    obtain ⟨⟨x, w'⟩, e5, y1, y2, y3⟩ := next_ok (h := s) (e := 77) (n := h2 1 2) lb_ln_77 P5.1 P5.2 (by omega)
    simp only at y1 y2 y3
    have tE : tn (s 77) (h2 1 2) = tn (Rq (h2 1 2) (fun j => j) i.toNat) (h2 1 2) := tn_congr P5.1 s5
    rw [tE] at y1
    have F' : CF h2 w' := fun a i x y => by rw [y3 a i (by omega)]; exact s3 a i x y
    have P' : P9 w' := fun a b x y x' y' => by rw [y3 _ _ (by omega)]; exact s4 a b x y x' y'
    rw [if_pos (by omega), s3 1 2 (by omega) (by omega), e5, Option.bind_some]
    simp only
    by_cases c : tn (Rq (h2 1 2) (fun j => j) i.toNat) (h2 1 2) < 0
    · rw [if_pos c] at y1
      rw [if_neg (by omega), Option.bind_some, if_neg (show ¬ (false = true) by decide)]
      have iE : i + 1 = (rc (h2 1 2) (fun j => j) : Int) := by
        by_cases z : i.toNat + 1 < rc (h2 1 2) (fun j => j)
        · have := q4 i.toNat z; omega
        · omega
      refine Or.inr ⟨_, rfl, ⟨?_, fun i' hi => s7 i' (by omega)⟩, F', P'⟩
      obtain ⟨i', z1, z2⟩ := s6
      exact ⟨i', by omega, z2⟩
    · rw [if_neg c] at y1
      rw [if_pos (by omega), Option.bind_some, if_pos rfl]
      have iL : i + 1 < (rc (h2 1 2) (fun j => j) : Int) := by
        by_cases z : i + 1 = (rc (h2 1 2) (fun j => j) : Int)
        · exfalso
          rw [show i.toNat = rc (h2 1 2) (fun j => j) - 1 by omega] at c
          exact c q3
        · omega
      have oE : ∀ j : Int, 0 ≤ j → j < h2 1 2 → w' 77 j = Rq (h2 1 2) (fun j => j) (i.toNat + 1) j := fun j a b => by
        rw [y2 j a b]
        exact nx_congr P5.1 s5 a b
      obtain ⟨⟨a, w2⟩, e6, z1, z2, z3, z4⟩ := order_cl (h := w') (o := Rq (h2 1 2) (fun j => j) (i.toNat + 1)) V rfl rfl rfl rfl C2 W2 F' P' (fun j a b => ⟨oE j a b, Rq_rng (Q := fun v => 0 ≤ v ∧ v < h2 1 2) P5.1 (fun j a b => ⟨a, b⟩) (i.toNat + 1) j a b⟩)
      simp only at z1 z2 z3 z4
      rw [hV] at z1
      rw [e6, Option.bind_some]
      simp only
      rw [wid (by omega) (by omega)]
      refine Or.inl ⟨_, rfl, ⟨by show 0 ≤ i + 1; omega, iL, z2, z3, fun j a b => ?_, ?_, fun i' hi => ?_⟩, by show (120 - (i + 1)).toNat < (120 - i).toNat; omega⟩
      · show w2 77 j = Rq (h2 1 2) (fun j => j) (i + 1).toNat j
        rw [z4, oE j a b, show (i + 1).toNat = i.toNat + 1 by omega]
      · show ∃ i' : Nat, (i' : Int) ≤ i + 1 ∧ max m a = VV (Rq (h2 1 2) (fun j => j) i')
        by_cases q : a ≤ m
        · obtain ⟨i', z1, z2⟩ := s6
          exact ⟨i', by omega, by rw [Int.max_eq_left q]; exact z2⟩
        · exact ⟨i.toNat + 1, by omega, by rw [Int.max_eq_right (by omega)]; exact z1⟩
      · show VV (Rq (h2 1 2) (fun j => j) i') ≤ max m a
        have hi : (i' : Int) ≤ i + 1 := hi
        by_cases q : i' = i.toNat + 1
        · rw [q, ← z1]; exact Int.le_max_right _ _
        · exact Int.le_trans (s7 i' (by omega)) (Int.le_max_left _ _)
  obtain ⟨⟨m, i, s⟩, e5, y1, y2, y3⟩ := key
  rw [e5, Option.bind_some]
  exact Ret.ok ⟨y1, y2, y3⟩
theorem codes_ok {g : fx_H} {P : Int} (hP : g 127 10 = P) (P1 : 1 ≤ P) (P5 : P ≤ 5) : ∃ x : Int, fx_loop (s_X6_list_1 FU La_167 126 g) FU (1, 0) = some (P ^ P.toNat, x) ∧ P ^ P.toNat ≤ 3125 := by
  have b : ∀ j : Nat, j ≤ 5 → 0 ≤ P ^ j ∧ P ^ j ≤ 3125 := fun j hj => by
    rcases (show P = 1 ∨ P = 2 ∨ P = 3 ∨ P = 4 ∨ P = 5 by omega) with rfl | rfl | rfl | rfl | rfl <;>
    rcases (show j = 0 ∨ j = 1 ∨ j = 2 ∨ j = 3 ∨ j = 4 ∨ j = 5 by omega) with rfl | rfl | rfl | rfl | rfl | rfl <;> decide
  refine ⟨(P.toNat : Int), ?_, (b _ (by omega)).2⟩
  have key := loop_seq (step := s_X6_list_1 FU La_167 126 g) (fun j => (P ^ j, (j : Int))) P.toNat (e := (P ^ P.toNat, (P.toNat : Int))) (fun j hj => by
    have b1 := b (j + 1) (by omega)
    unfold s_X6_list_1
    simp only
    rw [ev_people, Option.bind_some, hP, if_pos (by omega), Option.bind_some, show P ^ j * P = P ^ (j + 1) from (Int.pow_succ P j).symm, wid (by omega) (by omega), wid (by omega) (by omega)]; rfl) (by
    unfold s_X6_list_1
    simp only
    rw [ev_people, Option.bind_some, hP, if_neg (by omega)]) (Fu := FU) (FU_gt (by omega))
  rw [Int.pow_zero] at key
  exact key
theorem sim_list (hL : FrL CL) (hP : FrP CP) (R : Rel CL CP k h) (what : Int) : Sm CL CP k (f_X5_list FU La_167 0 what h) (f_X6_list FU La_167 126 what) := by
  obtain ⟨RV, RR, R3, R4, R5, R6, R7⟩ := id R
  by_cases c : 0 ≤ what ∧ what ≤ 1
  · have H1 : 1 ≤ h 1 3 ∧ h 1 3 ≤ 5 := by unfold TV at RV; exact RV.2.2.2.1
    have P5 : h 1 2 ≤ 5 := by unfold TV at RV; exact RV.2.2.1.2
    obtain ⟨h1, h2, e1, e2, e3, f, V, RS2, C2, W2⟩ := prep2 RV R6 H1.1 H1.2
    have vv := V
    unfold TV at vv
    obtain ⟨⟨v1, v1'⟩, ⟨v2, v2'⟩, ⟨v3, v3'⟩, ⟨v4, v4'⟩, ⟨v5, v5'⟩, -⟩ := vv
    have h3E : h2 1 3 = h 1 3 := f 1 3 (by omega) (by omega)
    rw [← h3E] at W2 e3 e2
    have clx : Ret (f_X5_list FU La_167 0 what h) (fun r => (what = 0 → r.1 = Vo (smT h2 (h2 1 1) (-1)) (kdF h2) (ndF h2) (h2 1 2) (h2 1 4) (h2 1 3) (fun j => j)) ∧ (what = 1 → Mx (Vo (smT h2 (h2 1 1) (-1)) (kdF h2) (ndF h2) (h2 1 2) (h2 1 4) (h2 1 3)) (h2 1 2) r.1) ∧ CF h2 r.2 ∧ P9 r.2) := by
      unfold f_X5_list
      simp only [lb_tg_0_0, lb_tg_0_5, lb_tg_0_6]
      rw [ev_within, Option.bind_some, if_pos c, if_neg (by decide), e1, Option.bind_some]
      by_cases z : what = 0
      · obtain ⟨⟨a, w⟩, e4, k1, k2, k3, k4⟩ := number_cl V RS2 C2 W2 e2 e3
        rw [if_pos z, e4]
        exact Ret.ok ⟨fun _ => k1, fun q => by omega, k2, k3⟩
      · obtain ⟨⟨a, w⟩, e4, k1, k2, k3⟩ := worst_cl V RS2 C2 W2 e2 e3
        rw [if_neg z, e4]
        exact Ret.ok ⟨fun q => absurd q z, fun _ => k1, k2, k3⟩
    obtain ⟨⟨A, h'⟩, ex, x1, x2, F', P'⟩ := clx
    simp only at x1 x2 F' P'
    refine sm_look hL hP R A (Ret.eq ex ⟨rfl, fun a i z => by
      unfold KP at z
      show h' a i = h a i
      rw [F' a i (by omega) (by omega), f a i (by omega) (by omega)], fun p a b => by show h' 46 p = 9; rw [F' _ _ (by omega) (by omega)]; exact RS2.1 p a b, P'⟩) (fun g r2 rs kp => ?_)
    have r2' : TR2 h2 g := TR2_h P5 (fun a i a0 a1 => f a i (by omega) (by omega)) r2
    obtain ⟨g1, g2, y1, y2, y3, y4, y5, y6, y7⟩ := prep_rf V r2' v4 v4'
    obtain ⟨xx, cd, cb⟩ := codes_ok (g := g2) y5.2.2.1 v3 v3'
    unfold f_X6_list
    rw [ev_in, Option.bind_some, if_pos c, if_neg (by decide), y1, Option.bind_some, ev_hours, Option.bind_some, y2, y3, Option.bind_some, cd, Option.bind_some]
    simp only
    generalize hV : Vo (smT h2 (h2 1 1) (-1)) (kdF h2) (ndF h2) (h2 1 2) (h2 1 4) (h2 1 3) = VV at *
    have Vb : ∀ o : Int → Int, 0 ≤ VV o ∧ VV o ≤ 500 := fun o => by rw [← hV]; exact Vo_b (by omega) v3' (by omega) v4'
    have pw0 : 0 ≤ (h2 1 2) ^ (h2 1 2).toNat := Int.pow_nonneg (by omega)
    refine Ret.bind (Ret.mono (loop_ix (fun s => s.2.2.1) (fun c s => RF g2 s.2.2.2 ∧ ((s.1 = -1 ∧ ∀ c' : Int, 0 ≤ c' → c' < c → ¬ unl (h2 1 2) c') ∨ (∃ c1 : Int, 0 ≤ c1 ∧ c1 < c ∧ unl (h2 1 2) c1 ∧ (∀ c' : Int, 0 ≤ c' → c' < c1 → ¬ unl (h2 1 2) c') ∧ s.1 = VV (od (h2 1 2) c1))) ∧ (what = 1 → (s.2.1 = -1 ∧ ∀ c' : Int, 0 ≤ c' → c' < c → ¬ unl (h2 1 2) c') ∨ ((∃ c1 : Int, 0 ≤ c1 ∧ c1 < c ∧ unl (h2 1 2) c1 ∧ s.2.1 = VV (od (h2 1 2) c1)) ∧ ∀ c' : Int, 0 ≤ c' → c' < c → unl (h2 1 2) c' → VV (od (h2 1 2) c') ≤ s.2.1))) ((h2 1 2) ^ (h2 1 2).toNat) (i := 0) (Q := fun s => RF g2 s.2.2.2 ∧ ((s.1 = -1 ∧ ∀ c' : Int, 0 ≤ c' → c' < (h2 1 2) ^ (h2 1 2).toNat → ¬ unl (h2 1 2) c') ∨ (∃ c1 : Int, 0 ≤ c1 ∧ c1 < (h2 1 2) ^ (h2 1 2).toNat ∧ unl (h2 1 2) c1 ∧ (∀ c' : Int, 0 ≤ c' → c' < c1 → ¬ unl (h2 1 2) c') ∧ s.1 = VV (od (h2 1 2) c1))) ∧ (what = 1 → (s.2.1 = -1 ∧ ∀ c' : Int, 0 ≤ c' → c' < (h2 1 2) ^ (h2 1 2).toNat → ¬ unl (h2 1 2) c') ∨ ((∃ c1 : Int, 0 ≤ c1 ∧ c1 < (h2 1 2) ^ (h2 1 2).toNat ∧ unl (h2 1 2) c1 ∧ s.2.1 = VV (od (h2 1 2) c1)) ∧ ∀ c' : Int, 0 ≤ c' → c' < (h2 1 2) ^ (h2 1 2).toNat → unl (h2 1 2) c' → VV (od (h2 1 2) c') ≤ s.2.1))) (FU_gt (by omega)) rfl pw0 (by exact ⟨fun _ _ _ _ _ => rfl, Or.inl ⟨rfl, fun c' a b => by omega⟩, fun _ => Or.inl ⟨rfl, fun c' a b => by omega⟩⟩) (fun j s ej b1 b2 ⟨i1, i2, i3⟩ => ?_) (fun s es i => ?_)) (fun w hw => ?_))
    · obtain ⟨fi, mo, co, s⟩ := s
      simp only at ej i1 i2 i3
      subst ej
      unfold s_X6_list_2
      simp only
      obtain ⟨⟨u, w⟩, e4, k1, k2, k3, k4⟩ := layOrder_ok (g := s) (P := h2 1 2) (code := co) (by rw [i1 _ _ (by omega) (by omega) (by omega)]; exact y5.2.2.1) v3 v3' b1 (by omega)
      simp only at k1 k2 k3 k4
      have Fw : RF g2 w := fun a i x y z => by rw [k1 a i y]; exact i1 a i x y z
      rw [if_pos b2, e4, Option.bind_some]
      simp only
      rw [wid (z := co + 1) (by omega) (by omega)]
      by_cases z : unl (h2 1 2) co
      · have u1 := k4.mpr z
        by_cases z2 : fi = -1 ∨ what = 1
        · obtain ⟨⟨a, w2⟩, e5, m1, m2⟩ := listed_ok (o := od (h2 1 2) co) V y5 (SM_9 _ _) y6 y7 Fw (fun i a b => ⟨k2 i a b, od_b v3⟩)
          simp only at m1 m2
          rw [show Vo (SM (uF (h2 2) (-1)) (h2 1 1)) (kdF h2) (ndF h2) (h2 1 2) (h2 1 4) (h2 1 3) = VV from hV] at m1
          rw [if_pos ⟨by omega, z2⟩, e5, Option.bind_some]
          simp only
          rw [show (if fi = -1 then some a else some fi) = some (if fi = -1 then a else fi) by split <;> rfl, Option.bind_some, show (if mo < a then some a else some mo) = some (if mo < a then a else mo) by split <;> rfl, Option.bind_some]
          refine ⟨_, rfl, rfl, m2, Or.inr ?_, fun q => Or.inr ?_⟩
          · show ∃ c1 : Int, 0 ≤ c1 ∧ c1 < co + 1 ∧ unl (h2 1 2) c1 ∧ (∀ c' : Int, 0 ≤ c' → c' < c1 → ¬ unl (h2 1 2) c') ∧ (if fi = -1 then a else fi) = VV (od (h2 1 2) c1)
            rcases i2 with ⟨p1, p2⟩ | ⟨c1, p1, p2, p3, p4, p5⟩
            · exact ⟨co, b1, by omega, z, p2, by rw [if_pos p1]; exact m1⟩
            · exact ⟨c1, p1, by omega, p3, p4, by rw [if_neg (by have := Vb (od (h2 1 2) c1); omega)]; exact p5⟩
          · show (∃ c1 : Int, 0 ≤ c1 ∧ c1 < co + 1 ∧ unl (h2 1 2) c1 ∧ (if mo < a then a else mo) = VV (od (h2 1 2) c1)) ∧ ∀ c' : Int, 0 ≤ c' → c' < co + 1 → unl (h2 1 2) c' → VV (od (h2 1 2) c') ≤ (if mo < a then a else mo)
            have va := Vb (od (h2 1 2) co)
            rcases i3 q with ⟨p1, p2⟩ | ⟨⟨c1, p1, p2, p3, p4⟩, p5⟩
            · rw [if_pos (show mo < a by omega)]
              refine ⟨⟨co, b1, by omega, z, m1⟩, fun c' x1 x2 x3 => ?_⟩
              by_cases e : c' = co
              · rw [e, m1]; exact Int.le_refl _
              · exact absurd x3 (p2 c' x1 (by omega))
            · by_cases y : mo < a
              · rw [if_pos y]
                refine ⟨⟨co, b1, by omega, z, m1⟩, fun c' x1 x2 x3 => ?_⟩
                by_cases e : c' = co
                · rw [e, m1]; exact Int.le_refl _
                · have := p5 c' x1 (by omega) x3; omega
              · rw [if_neg y]
                refine ⟨⟨c1, p1, by omega, p3, p4⟩, fun c' x1 x2 x3 => ?_⟩
                by_cases e : c' = co
                · rw [e, ← m1]; omega
                · exact p5 c' x1 (by omega) x3
        · rw [if_neg (fun q => z2 q.2)]
          refine ⟨_, rfl, rfl, Fw, Or.inr ?_, fun q => absurd (Or.inr q) z2⟩
          rcases i2 with ⟨p1, p2⟩ | ⟨c1, p1, p2, p3, p4, p5⟩
          · exact absurd (Or.inl p1) z2
          · exact ⟨c1, p1, by omega, p3, p4, p5⟩
      · have u0 : u = 0 := by rcases k3 with q | q; exact q; exact absurd (k4.mp q) z
        rw [if_neg (fun q => q.1 u0)]
        refine ⟨_, rfl, rfl, Fw, ?_, fun q => ?_⟩
        · rcases i2 with ⟨p1, p2⟩ | ⟨c1, p1, p2, p3, p4, p5⟩
          · refine Or.inl ⟨p1, fun c' x1 x2 => ?_⟩
            by_cases e : c' = co
            · rw [e]; exact z
            · exact p2 c' x1 (by omega)
          · exact Or.inr ⟨c1, p1, by omega, p3, p4, p5⟩
        · rcases i3 q with ⟨p1, p2⟩ | ⟨⟨c1, p1, p2, p3, p4⟩, p5⟩
          · refine Or.inl ⟨p1, fun c' x1 x2 => ?_⟩
            by_cases e : c' = co
            · rw [e]; exact z
            · exact p2 c' x1 (by omega)
          · refine Or.inr ⟨⟨c1, p1, by omega, p3, p4⟩, fun c' x1 x2 x3 => ?_⟩
            by_cases e : c' = co
            · rw [e] at x3; exact absurd x3 z
            · exact p5 c' x1 (by omega) x3
    · obtain ⟨fi, mo, co, s⟩ := s
      simp only at es
      unfold s_X6_list_2
      simp only
      rw [if_neg (by omega)]
      exact ⟨_, rfl, i⟩
    · obtain ⟨fi, mo, co, s⟩ := w
      obtain ⟨i1, i2, i3⟩ := hw
      simp only at i1 i2 i3 ⊢
      have fr : ∀ a i : Int, ¬ (131 ≤ a ∧ a ≤ 140) → s a i = g a i := fun a i z => by rw [i1 a i (by omega) (by omega) (by omega), y4 a i (by omega) (by omega)]
      obtain ⟨o1, o2⟩ := ord_cor v3 v3'
      obtain ⟨c0, p1, p2, p3, p4, p5⟩ := ord_fst v3 v3'
      by_cases z : what = 0
      · rw [if_pos z]
        refine Ret.ok ⟨?_, fr⟩
        show fi = A
        rw [x1 z]
        rcases i2 with ⟨q1, q2⟩ | ⟨c1, q1, q2, q3, q4, q5⟩
        · exact absurd p4 (q2 c0 p1 p2)
        · have cE : c1 = c0 := by
            by_cases y1 : c1 < c0
            · exact absurd q3 (p3 c1 q1 y1)
            · by_cases y2 : c0 < c1
              · exact absurd p4 (q4 c0 p1 y2)
              · omega
          rw [q5, cE, ← hV]
          exact Vo_congr (by omega) p5
      · rw [if_neg z]
        refine Ret.ok ⟨?_, fr⟩
        show mo = A
        obtain ⟨⟨i, m1, m2⟩, m3⟩ := x2 (by omega)
        rcases i3 (by omega) with ⟨q1, q2⟩ | ⟨⟨c1, q1, q2, q3, q4⟩, q5⟩
        · exact absurd p4 (q2 c0 p1 p2)
        · have a1 : mo ≤ A := by
            obtain ⟨i', j1, j2⟩ := o2 c1 q1 q2 q3
            have := m3 i' j1
            rw [q4, ← hV, Vo_congr (by omega) j2, hV]
            exact this
          have a2 : A ≤ mo := by
            obtain ⟨c2, j1, j2, j3, j4⟩ := o1 i m1
            have := q5 c2 j1 j2 j3
            rw [m2, ← hV, ← Vo_congr (by omega) j4, hV]
            exact this
          omega
  · refine sm_bad2 hL hP R (z := -2) ?_ (fun g hg => ?_)
    · unfold f_X5_list
      rw [ev_within, Option.bind_some, if_neg c, if_pos rfl]
      rfl
    · unfold f_X6_list
      rw [ev_in, Option.bind_some, if_neg c, if_pos rfl, ev_bad]
      rfl
end SIM
