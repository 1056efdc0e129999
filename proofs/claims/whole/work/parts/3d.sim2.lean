-- needs: 3a 3b 3c
theorem ev_within (Λ : fx_L) (v lo hi : Int) (h : fx_H) : f_X5_within FU Λ v lo hi h = some (if lo ≤ v ∧ v ≤ hi then 1 else 0) := by
  unfold f_X5_within
  split <;> rfl
theorem ev_in (Λ : fx_L) (v lo hi : Int) (h : fx_H) : f_X6_in FU Λ v lo hi h = some (if lo ≤ v ∧ v ≤ hi then 1 else 0) := by
  unfold f_X6_in
  split <;> rfl
theorem zb_ite {c : Prop} [Decidable c] : fx_zb (if c then 1 else 0) = some (if c then 1 else 0) := by split <;> rfl
theorem ite10 {c : Prop} [Decidable c] : ((if c then (1 : Int) else 0) = 0) = ¬ c := by split <;> simp_all
theorem ev_hasThing {Λ : fx_L} {c v : Int} {h : fx_H} (h0 : 0 ≤ h c 0) (h1 : h c 0 ≤ 9) : f_X4_hasThing FU Λ c v h = some (if 0 ≤ v ∧ v < h c 0 then 1 else 0) := by
  unfold f_X4_hasThing
  simp (disch := omega) only [ev_within, Option.bind_some, zb_ite, wid]
  congr 2
  exact propext ⟨fun q => by omega, fun q => by omega⟩
theorem ev_hasPerson {Λ : fx_L} {c v : Int} {h : fx_H} (h0 : 1 ≤ h c 2) (h1 : h c 2 ≤ 5) : f_X4_hasPerson FU Λ c v h = some (if 0 ≤ v ∧ v < h c 2 then 1 else 0) := by
  unfold f_X4_hasPerson
  simp (disch := omega) only [ev_within, Option.bind_some, zb_ite, wid]
  congr 2
  exact propext ⟨fun q => by omega, fun q => by omega⟩
theorem ev_hasHour {Λ : fx_L} {c v : Int} {h : fx_H} (h0 : 1 ≤ h c 3) (h1 : h c 3 ≤ 5) : f_X4_hasHour FU Λ c v h = some (if 0 ≤ v ∧ v < h c 3 then 1 else 0) := by
  unfold f_X4_hasHour
  simp (disch := omega) only [ev_within, Option.bind_some, zb_ite, wid]
  congr 2
  exact propext ⟨fun q => by omega, fun q => by omega⟩
theorem rd127 {g : fx_H} {i : Int} (h0 : 0 ≤ i) (h1 : i < 125) : fx_rd La_167 g 127 i = some (g 127 i) := rd_ok h0 (by rw [lb_ln_127]; exact h1)
theorem wr127 {g : fx_H} {i v : Int} (h0 : 0 ≤ i) (h1 : i < 125) : fx_wr La_167 g 127 i v = some (fx_up g 127 i v) := wr_ok h0 (by rw [lb_ln_127]; exact h1)
theorem ev_things (g : fx_H) : f_X6_things FU La_167 126 g = some (g 127 0) := by
  unfold f_X6_things
  rw [lb_tg_126_0, rd127 (by omega) (by omega)]; rfl
theorem ev_people (g : fx_H) : f_X6_people FU La_167 126 g = some (g 127 10) := by
  unfold f_X6_people
  rw [lb_tg_126_0, rd127 (by omega) (by omega)]; rfl
theorem ev_hours (g : fx_H) : f_X6_hours FU La_167 126 g = some (g 127 11) := by
  unfold f_X6_hours
  rw [lb_tg_126_0, rd127 (by omega) (by omega)]; rfl
theorem ev_isThing {v : Int} {g : fx_H} (h0 : 0 ≤ g 127 0) (h1 : g 127 0 ≤ 9) : f_X6_isThing FU La_167 126 v g = some (if 0 ≤ v ∧ v < g 127 0 then 1 else 0) := by
  unfold f_X6_isThing
  simp (disch := omega) only [ev_things, ev_in, Option.bind_some, zb_ite, wid]
  congr 2
  exact propext ⟨fun q => by omega, fun q => by omega⟩
theorem ev_isOne {v : Int} {g : fx_H} (h0 : 1 ≤ g 127 10) (h1 : g 127 10 ≤ 5) : f_X6_isOne FU La_167 126 v g = some (if 0 ≤ v ∧ v < g 127 10 then 1 else 0) := by
  unfold f_X6_isOne
  simp (disch := omega) only [ev_people, ev_in, Option.bind_some, zb_ite, wid]
  congr 2
  exact propext ⟨fun q => by omega, fun q => by omega⟩
theorem ev_isHour {v : Int} {g : fx_H} (h0 : 1 ≤ g 127 11) (h1 : g 127 11 ≤ 5) : f_X6_isHour FU La_167 126 v g = some (if 0 ≤ v ∧ v < g 127 11 then 1 else 0) := by
  unfold f_X6_isHour
  simp (disch := omega) only [ev_hours, ev_in, Option.bind_some, zb_ite, wid]
  congr 2
  exact propext ⟨fun q => by omega, fun q => by omega⟩
theorem ev_bad (g : fx_H) (z : Int) : f_X6_bad FU La_167 126 z g = some (z, fx_up g 130 0 (fx_w (g 130 0 + 1))) := by
  unfold f_X6_bad
  rw [lb_tg_126_3, rd_ok (by omega) (by rw [lb_ln_130]; omega), Option.bind_some, wr_ok (by omega) (by rw [lb_ln_130]; omega)]; rfl
theorem ev_no (g : fx_H) : f_X6_no FU La_167 126 g = some (-3, fx_up g 130 1 (fx_w (g 130 1 + 1))) := by
  unfold f_X6_no
  rw [lb_tg_126_3, rd_ok (by omega) (by rw [lb_ln_130]; omega), Option.bind_some, wr_ok (by omega) (by rw [lb_ln_130]; omega)]; rfl
theorem ev_full (g : fx_H) : f_X6_full FU La_167 126 g = some (-4, fx_up g 130 2 (fx_w (g 130 2 + 1))) := by
  unfold f_X6_full
  rw [lb_tg_126_3, rd_ok (by omega) (by rw [lb_ln_130]; omega), Option.bind_some, wr_ok (by omega) (by rw [lb_ln_130]; omega)]; rfl
/-- a call of the class, then the same one of the reference: the same answer, and all is as it was between them -/
def Sm (CL CP : fx_H → Prop) (k : Int) (x : Option (Int × fx_H)) (y : fx_H → Option (Int × fx_H)) : Prop := Ret x (fun r => Ret (y r.2) (fun q => q.1 = r.1 ∧ Rel CL CP (k + 1) q.2))
section SIM
variable {CL CP : fx_H → Prop} {k : Int} {h : fx_H} {x : Option (Int × fx_H)} {y : fx_H → Option (Int × fx_H)}
theorem sm_bad (hL : FrC CL) (hP : FrC CP) (R : Rel CL CP k h) {z : Int} (hx : x = some (z, fx_up h 0 10 (fx_w (h 0 10 + 1)))) (hy : ∀ g : fx_H, (∀ a i : Int, a ≠ 0 → g a i = h a i) → y g = some (z, fx_up g 130 0 (fx_w (g 130 0 + 1)))) : Sm CL CP k x y := by
  obtain ⟨⟨a1, a2, a3⟩, a4, a5⟩ := R.2.2.2.1
  refine Ret.eq hx (Ret.eq (hy _ (fun a i b => up_ne (by omega))) ⟨rfl, Rel_ref hL hP R (fun a i b1 b2 b3 => ?_) ?_⟩)
  · simp (disch := omega) only [up_ne]
  · unfold RN
    simp (disch := omega) only [up_ne, up_eq]
    exact ⟨⟨by rw [a1], a2, a3⟩, a4, a5⟩
theorem sm_no (hL : FrC CL) (hP : FrC CP) (R : Rel CL CP k h) (hx : x = some (-3, fx_up h 0 11 (fx_w (h 0 11 + 1)))) (hy : ∀ g : fx_H, (∀ a i : Int, a ≠ 0 → g a i = h a i) → y g = some (-3, fx_up g 130 1 (fx_w (g 130 1 + 1)))) : Sm CL CP k x y := by
  obtain ⟨⟨a1, a2, a3⟩, a4, a5⟩ := R.2.2.2.1
  refine Ret.eq hx (Ret.eq (hy _ (fun a i b => up_ne (by omega))) ⟨rfl, Rel_ref hL hP R (fun a i b1 b2 b3 => ?_) ?_⟩)
  · simp (disch := omega) only [up_ne]
  · unfold RN
    simp (disch := omega) only [up_ne, up_eq]
    exact ⟨⟨a1, by rw [a2], a3⟩, a4, a5⟩
theorem sm_full (hL : FrC CL) (hP : FrC CP) (R : Rel CL CP k h) (hx : x = some (-4, fx_up h 0 12 (fx_w (h 0 12 + 1)))) (hy : ∀ g : fx_H, (∀ a i : Int, a ≠ 0 → g a i = h a i) → y g = some (-4, fx_up g 130 2 (fx_w (g 130 2 + 1)))) : Sm CL CP k x y := by
  obtain ⟨⟨a1, a2, a3⟩, a4, a5⟩ := R.2.2.2.1
  refine Ret.eq hx (Ret.eq (hy _ (fun a i b => up_ne (by omega))) ⟨rfl, Rel_ref hL hP R (fun a i b1 b2 b3 => ?_) ?_⟩)
  · simp (disch := omega) only [up_ne]
  · unfold RN
    simp (disch := omega) only [up_ne, up_eq]
    exact ⟨⟨a1, a2, by rw [a3]⟩, a4, a5⟩
end SIM
