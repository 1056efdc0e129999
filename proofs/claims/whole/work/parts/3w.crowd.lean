-- needs: 3v
def cwC (n m k : Int) : Option (Int × Int) :=
  Option.bind (fx_loop (s_X5_crowd_1 FU La_0 n m (fun _ _ => 0)) FU (1, 0)) fun (whole_28, i_29) =>
  (f_X5_crowdsOfAtLeast FU La_0 n m k (fun _ _ => 0)).bind fun v32 =>
  (f_X5_commonDivisor FU La_0 v32 whole_28 (fun _ _ => 0)).bind fun v34 =>
  (fx_dvl v32 (max 1 v34)).bind fun v36 =>
  (fx_dvl whole_28 (max 1 v34)).bind fun v38 =>
  some (v36, v38)
def cwR (n m k : Int) : Option (Int × Int) :=
  Option.bind (fx_loop (s_X6_crowd_1 FU La_0 n m k (fun _ _ => 0)) FU (0, 1, 1, 0)) fun (sum_81, all_82, ways_83, j_84) =>
  Option.bind (fx_loop (s_X6_crowd_3 FU La_0 (fun _ _ => 0)) FU (sum_81, all_82)) fun (a_99, b_100) =>
  (fx_dvl sum_81 a_99).bind fun v103 =>
  (fx_dvl all_82 a_99).bind fun v105 =>
  some (v103, v105)
def cwT (n m k : Nat) : Bool := match cwC n m k, cwR n m k with
  | some (a, b), some (c, d) => decide (a = c) && decide (b = d)
  | _, _ => false
def cwN (n : Nat) : Bool := (List.range 9).all (fun m => (List.range (n + 2)).all (fun k => cwT (n + 1) (m + 1) k))
theorem cwAll : (List.range 18).all cwN = true := by decide +kernel
theorem cw_eq {n m k : Int} (hn : 1 ≤ n ∧ n ≤ 18) (hm : 1 ≤ m ∧ m ≤ 9) (hk : 0 ≤ k ∧ k ≤ n) : ∃ a b : Int, cwC n m k = some (a, b) ∧ cwR n m k = some (a, b) := by
  have h1 := List.all_eq_true.mp cwAll (n.toNat - 1) (by rw [List.mem_range]; omega)
  unfold cwN at h1
  have h2 := List.all_eq_true.mp h1 (m.toNat - 1) (by rw [List.mem_range]; omega)
  have h3 := List.all_eq_true.mp h2 k.toNat (by rw [List.mem_range]; omega)
  rw [show n.toNat - 1 + 1 = n.toNat by omega, show m.toNat - 1 + 1 = m.toNat by omega] at h3
  unfold cwT at h3
  rw [show ((n.toNat : Nat) : Int) = n by omega, show ((m.toNat : Nat) : Int) = m by omega, show ((k.toNat : Nat) : Int) = k by omega] at h3
  split at h3
  · rename_i a b c d e1 e2
    simp only [Bool.and_eq_true, decide_eq_true_eq] at h3
    exact ⟨a, b, e1, by rw [e2, h3.1, h3.2]⟩
  · cases h3
theorem cl_crowd {n m k : Int} {h : fx_H} {a b : Int} (e : cwC n m k = some (a, b)) : (Option.bind (fx_loop (s_X5_crowd_1 FU La_167 n m h) FU (1, 0)) fun (whole_28, i_29) =>
    (f_X5_crowdsOfAtLeast FU La_167 n m k h).bind fun v32 =>
    (f_X5_commonDivisor FU La_167 v32 whole_28 h).bind fun v34 =>
    (fx_dvl v32 (max 1 v34)).bind fun v36 =>
    (fx_dvl whole_28 (max 1 v34)).bind fun v38 =>
    some ((1 : Int), (fx_up (fx_up h 0 1000008 v36) 0 1000009 v38))) = some (1, fx_up (fx_up h 0 1000008 a) 0 1000009 b) := by
  unfold cwC at e
  obtain ⟨⟨w, i⟩, e1, e⟩ := fx_bnd e
  simp only at e
  obtain ⟨x, e2, e⟩ := fx_bnd e
  obtain ⟨y, e3, e⟩ := fx_bnd e
  obtain ⟨z, e4, e⟩ := fx_bnd e
  obtain ⟨u, e5, e⟩ := fx_bnd e
  cases e
  have f1 : s_X5_crowd_1 FU La_167 n m h = s_X5_crowd_1 FU La_0 n m (fun _ _ => 0) := rfl
  have f2 : ∀ n m k : Int, s_X5_crowdsOfAtLeast_1 FU La_167 n m k h = s_X5_crowdsOfAtLeast_1 FU La_0 n m k (fun _ _ => 0) := fun _ _ _ => rfl
  have f3 : s_X5_commonDivisor_1 FU La_167 h = s_X5_commonDivisor_1 FU La_0 (fun _ _ => 0) := rfl
  unfold f_X5_crowdsOfAtLeast at e2 ⊢
  unfold f_X5_commonDivisor at e3 ⊢
  rw [f1, f2, f3, e1, Option.bind_some]
  simp only
  rw [e2, Option.bind_some, e3, Option.bind_some, e4, Option.bind_some, e5, Option.bind_some]
theorem rf_crowd {n m k : Int} {h : fx_H} {a b : Int} (e : cwR n m k = some (a, b)) : (Option.bind (fx_loop (s_X6_crowd_1 FU La_167 n m k h) FU (0, 1, 1, 0)) fun (sum_81, all_82, ways_83, j_84) =>
    Option.bind (fx_loop (s_X6_crowd_3 FU La_167 h) FU (sum_81, all_82)) fun (a_99, b_100) =>
    (fx_dvl sum_81 a_99).bind fun v103 =>
    (fx_dvl all_82 a_99).bind fun v105 =>
    some ((1 : Int), (fx_up (fx_up h 126 1000004 v103) 126 1000005 v105))) = some (1, fx_up (fx_up h 126 1000004 a) 126 1000005 b) := by
  unfold cwR at e
  obtain ⟨⟨w, i, x, j⟩, e1, e⟩ := fx_bnd e
  simp only at e
  obtain ⟨⟨x, y⟩, e2, e⟩ := fx_bnd e
  simp only at e
  obtain ⟨y, e3, e⟩ := fx_bnd e
  obtain ⟨z, e4, e⟩ := fx_bnd e
  cases e
  have f1 : s_X6_crowd_1 FU La_167 n m k h = s_X6_crowd_1 FU La_0 n m k (fun _ _ => 0) := rfl
  have f3 : s_X6_crowd_3 FU La_167 h = s_X6_crowd_3 FU La_0 (fun _ _ => 0) := rfl
  rw [f1, f3, e1, Option.bind_some]
  simp only
  rw [e2, Option.bind_some]
  simp only
  rw [e3, Option.bind_some, e4, Option.bind_some]
section SIM
variable {CL CP : fx_H → Prop} {k : Int} {h : fx_H}
theorem sim_crowd (hL : FrL CL) (hP : FrP CP) (R : Rel CL CP k h) (n m j : Int) : Sm CL CP k (f_X5_crowd FU La_167 0 n m j h) (f_X6_crowd FU La_167 126 n m j) := by
  obtain ⟨RV, RR, R3, R4, R5, R6, R7⟩ := id R
  by_cases c : (1 ≤ n ∧ n ≤ 18) ∧ (1 ≤ m ∧ m ≤ 9) ∧ (0 ≤ j ∧ j ≤ n)
  · obtain ⟨a, b, e1, e2⟩ := cw_eq c.1 c.2.1 c.2.2
    have hx : f_X5_crowd FU La_167 0 n m j h = some (1, fx_up (fx_up h 0 1000008 a) 0 1000009 b) := by
      unfold f_X5_crowd
      rw [ev_within, Option.bind_some, if_pos c.1, if_neg (by decide), ev_within, Option.bind_some, if_pos c.2.1, if_neg (by decide), ev_within, Option.bind_some, if_pos c.2.2, if_neg (by decide), Option.bind_some, if_neg (by decide)]
      exact cl_crowd e1
    refine Ret.eq hx ?_
    have hy : ∀ g : fx_H, f_X6_crowd FU La_167 126 n m j g = some (1, fx_up (fx_up g 126 1000004 a) 126 1000005 b) := fun g => by
      unfold f_X6_crowd
      rw [ev_in, Option.bind_some, if_pos c.1, if_neg (by decide), ev_in, Option.bind_some, if_pos c.2.1, if_neg (by decide), ev_in, Option.bind_some, if_pos c.2.2, if_neg (by decide), Option.bind_some, if_neg (by decide)]
      exact rf_crowd e2
    refine Ret.eq (hy _) ⟨rfl, ?_⟩
    refine Rel_ref (FrL_C hL) (FrP_C hP) R (fun x i b1 b2 b3 => ?_) ?_
    · simp (disch := omega) only [up_ne, up_eq]
    · unfold RN at R4 ⊢
      simp (disch := omega) only [up_ne, up_eq]
      exact ⟨R4.1, trivial, trivial⟩
  · refine sm_bad2 hL hP R (z := -2) ?_ (fun g hg => ?_)
    · unfold f_X5_crowd
      rw [ev_within, Option.bind_some, ev_within, Option.bind_some, ev_within, Option.bind_some]
      by_cases c1 : 1 ≤ n ∧ n ≤ 18
      · rw [if_pos c1, if_neg (by decide)]
        by_cases c2 : 1 ≤ m ∧ m ≤ 9
        · rw [if_pos c2, if_neg (by decide), if_neg (fun z => c ⟨c1, c2, z⟩), if_pos rfl]
          rfl
        · rw [if_neg c2, if_pos rfl]
          rfl
      · rw [if_neg c1, if_pos rfl]
        rfl
    · unfold f_X6_crowd
      rw [ev_in, Option.bind_some, ev_in, Option.bind_some, ev_in, Option.bind_some, ev_bad]
      by_cases c1 : 1 ≤ n ∧ n ≤ 18
      · rw [if_pos c1, if_neg (by decide)]
        by_cases c2 : 1 ≤ m ∧ m ≤ 9
        · rw [if_pos c2, if_neg (by decide), if_neg (fun z => c ⟨c1, c2, z⟩), if_pos rfl]
          rfl
        · rw [if_neg c2, if_pos rfl]
          rfl
      · rw [if_neg c1, if_pos rfl]
        rfl
end SIM
