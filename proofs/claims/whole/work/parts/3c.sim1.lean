-- needs: 3a 3b
theorem RI_congr {h h' : fx_H} (e : ∀ a i : Int, a = 40 ∨ (88 ≤ a ∧ a ≤ 125) ∨ a = 128 ∨ a = 129 → h' a i = h a i) (r : RI h) : RI h' := by
  intro i h0 h1
  obtain ⟨r1, r2, r3⟩ := r i h0 h1
  rw [e 129 _ (by omega), e 40 _ (by omega)]
  refine ⟨r1, r2, fun q => ?_⟩
  obtain ⟨r4, r5⟩ := r3 q
  have hb := r4
  unfold TV at hb
  exact ⟨TV_congr (fun a j b1 b2 => e a j (by omega)) r4, TR_congr (fun a j b1 b2 => e a j (by omega)) (fun j _ _ => e 128 j (by omega)) ⟨hb.1.2, hb.2.2.2.2.2.1.2⟩ r5⟩
theorem RS_congr {h h' : fx_H} (e : ∀ a i : Int, a = 46 ∨ (79 ≤ a ∧ a ≤ 83) → h' a i = h a i) (r : RS h) : RS h' :=
  ⟨fun p a b => by rw [e _ _ (by omega)]; exact r.1 p a b, fun p q a b c d => by rw [e _ _ (by omega)]; exact r.2 p q a b c d⟩
theorem RT_congr {h h' : fx_H} (e : ∀ a i : Int, a = 41 ∨ a = 42 ∨ a = 141 → h' a i = h a i) (e2 : h' 126 17 = h 126 17) (r : RT h) : RT h' := by
  unfold RT at r ⊢
  rw [e2, e 41 _ (by omega)]
  exact ⟨r.1, fun i a b => by rw [e 141 _ (by omega), e 42 _ (by omega)]; exact r.2 i a b⟩
section SIM
variable {CL CP : fx_H → Prop} {k : Int} {h : fx_H}
theorem Rel_inc (R : Rel CL CP k h) : Rel CL CP (k + 1) h := by
  obtain ⟨r1, r2, r3, r4, r5, r6, ⟨r7, r8⟩, r9⟩ := R
  exact ⟨r1, r2, r3, r4, r5, r6, ⟨⟨r7, by omega⟩, r9⟩⟩
/-- the town has changed -/
theorem Rel_town {h' : fx_H} (R : Rel CL CP k h) (e : ∀ a i : Int, ¬ (1 ≤ a ∧ a ≤ 19) → a ≠ 127 → ¬ (a = 0 ∧ i = 13) → h' a i = h a i) (ec : h' 0 13 = h 0 13 + 1) (v : TV 1 h') (r : TR 1 127 0 h') : Rel CL CP (k + 1) h' := by
  obtain ⟨r1, r2, r3, ⟨r4, r4'⟩, r5, r6, ⟨r7, r8⟩, ⟨r9, r10⟩, r11, r12⟩ := R
  refine ⟨v, r, RI_congr (fun a i q => e a i (by omega) (by omega) (by omega)) r3, ?_, RT_congr (fun a i q => e a i (by omega) (by omega) (by omega)) (e _ _ (by omega) (by omega) (by omega)) r5, RS_congr (fun a i q => e a i (by omega) (by omega) (by omega)) r6, ?_⟩
  · unfold RN
    rw [e 0 10 (by omega) (by omega) (by omega), e 0 11 (by omega) (by omega) (by omega), e 0 12 (by omega) (by omega) (by omega), e 0 1000008 (by omega) (by omega) (by omega), e 0 1000009 (by omega) (by omega) (by omega), e 130 0 (by omega) (by omega) (by omega), e 130 1 (by omega) (by omega) (by omega), e 130 2 (by omega) (by omega) (by omega), e 126 1000004 (by omega) (by omega) (by omega), e 126 1000005 (by omega) (by omega) (by omega)]
    exact ⟨r4, r4'⟩
  · unfold RC
    rw [ec, e 48 5 (by omega) (by omega) (by omega), e 84 4 (by omega) (by omega) (by omega)]
    exact ⟨⟨by omega, by omega⟩, ⟨by omega, fun q => by omega⟩, ⟨by omega, fun q => by omega⟩⟩
/-- nothing has changed but refusals and parts -/
theorem Rel_ref {h' : fx_H} (hL : FrC CL) (hP : FrC CP) (R : Rel CL CP k h) (e : ∀ a i : Int, a ≠ 130 → ¬ (a = 0 ∧ i ≠ 13) → ¬ (a = 126 ∧ i ≠ 17) → h' a i = h a i) (rn : RN h') : Rel CL CP (k + 1) h' := by
  obtain ⟨r1, r2, r3, r4, r5, r6, ⟨r7, r8⟩, ⟨r9, r10⟩, r11, r12⟩ := R
  have hb := r1
  unfold TV at hb
  have ec : h' 0 13 = h 0 13 := e 0 13 (by omega) (by omega) (by omega)
  refine ⟨TV_congr (fun a i _ _ => e a i (by omega) (by omega) (by omega)) r1, TR_congr (fun a i _ _ => e a i (by omega) (by omega) (by omega)) (fun i _ _ => e 127 i (by omega) (by omega) (by omega)) ⟨hb.1.2, hb.2.2.2.2.2.1.2⟩ r2, RI_congr (fun a i q => e a i (by omega) (by omega) (by omega)) r3, rn, RT_congr (fun a i q => e a i (by omega) (by omega) (by omega)) (e _ _ (by omega) (by omega) (by omega)) r5, RS_congr (fun a i q => e a i (by omega) (by omega) (by omega)) r6, ?_⟩
  unfold RC
  rw [ec, e 48 5 (by omega) (by omega) (by omega), e 84 4 (by omega) (by omega) (by omega)]
  exact ⟨⟨r7, by omega⟩, ⟨r9, fun q => hL h h' (fun a i q => e a i (by omega) (by omega) (by omega)) (r10 q)⟩, ⟨r11, fun q => hP h h' (fun a i q => e a i (by omega) (by omega) (by omega)) (r12 q)⟩⟩
/-- the three refusals -/
theorem ref_bad (hL : FrC CL) (hP : FrC CP) (R : Rel CL CP k h) (z : Int) : Ret (f_X5_refuseBad FU La_167 0 z h) (fun r => r.1 = z ∧ Ret (f_X6_bad FU La_167 126 z r.2) (fun q => q.1 = z ∧ Rel CL CP (k + 1) q.2)) := by
  obtain ⟨⟨a1, a2, a3⟩, a4, a5⟩ := R.2.2.2.1
  refine Ret.eq rfl ⟨rfl, ?_⟩
  unfold f_X6_bad
  rw [lb_tg_126_3, rd_ok (by omega) (by rw [lb_ln_130]; omega), Option.bind_some, wr_ok (by omega) (by rw [lb_ln_130]; omega), Option.bind_some]
  refine Ret.ok ⟨rfl, Rel_ref hL hP R (fun a i b1 b2 b3 => ?_) ?_⟩
  · simp (disch := omega) only [up_ne]
  · unfold RN
    simp (disch := omega) only [up_ne, up_eq]
    exact ⟨⟨by rw [a1], a2, a3⟩, a4, a5⟩
theorem ref_no (hL : FrC CL) (hP : FrC CP) (R : Rel CL CP k h) : Ret (f_X5_refuseNo FU La_167 0 h) (fun r => r.1 = -3 ∧ Ret (f_X6_no FU La_167 126 r.2) (fun q => q.1 = -3 ∧ Rel CL CP (k + 1) q.2)) := by
  obtain ⟨⟨a1, a2, a3⟩, a4, a5⟩ := R.2.2.2.1
  refine Ret.eq rfl ⟨rfl, ?_⟩
  unfold f_X6_no
  rw [lb_tg_126_3, rd_ok (by omega) (by rw [lb_ln_130]; omega), Option.bind_some, wr_ok (by omega) (by rw [lb_ln_130]; omega), Option.bind_some]
  refine Ret.ok ⟨rfl, Rel_ref hL hP R (fun a i b1 b2 b3 => ?_) ?_⟩
  · simp (disch := omega) only [up_ne]
  · unfold RN
    simp (disch := omega) only [up_ne, up_eq]
    exact ⟨⟨a1, by rw [a2], a3⟩, a4, a5⟩
theorem ref_full (hL : FrC CL) (hP : FrC CP) (R : Rel CL CP k h) : Ret (f_X5_refuseFull FU La_167 0 h) (fun r => r.1 = -4 ∧ Ret (f_X6_full FU La_167 126 r.2) (fun q => q.1 = -4 ∧ Rel CL CP (k + 1) q.2)) := by
  obtain ⟨⟨a1, a2, a3⟩, a4, a5⟩ := R.2.2.2.1
  refine Ret.eq rfl ⟨rfl, ?_⟩
  unfold f_X6_full
  rw [lb_tg_126_3, rd_ok (by omega) (by rw [lb_ln_130]; omega), Option.bind_some, wr_ok (by omega) (by rw [lb_ln_130]; omega), Option.bind_some]
  refine Ret.ok ⟨rfl, Rel_ref hL hP R (fun a i b1 b2 b3 => ?_) ?_⟩
  · simp (disch := omega) only [up_ne]
  · unfold RN
    simp (disch := omega) only [up_ne, up_eq]
    exact ⟨⟨a1, a2, by rw [a3]⟩, a4, a5⟩
end SIM
