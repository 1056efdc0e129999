def fx_chk (Λ : fx_L) (a : Int) (k' : Nat) : Bool := (List.range (fx_ft k').length).all (fun i => match (fx_ft k').getD i 0 with
  | j + 2 => decide (0 ≤ fx_tg Λ a i) && decide (fx_tg Λ a i < Λ.1) && decide (fx_kd Λ (fx_tg Λ a i) = j)
  | _ => true)
theorem fx_chk_use {Λ : fx_L} {a : Int} {k' : Nat} (h : fx_chk Λ a k' = true) : ∀ (i j : Nat), (fx_ft k')[i]? = some (j + 2) → fx_at Λ (fx_tg Λ a i) j := by
  intro i j hij
  have hl : i < (fx_ft k').length := (List.getElem?_eq_some_iff.mp hij).1
  have h1 := List.all_eq_true.mp h i (List.mem_range.mpr hl)
  have hg : (fx_ft k').getD i 0 = j + 2 := by simp [List.getD, hij]
  rw [hg] at h1
  simp only [Bool.and_eq_true, decide_eq_true_eq] at h1
  exact ⟨h1.1.1, h1.1.2, h1.2⟩
theorem fx_chk10 {Λ : fx_L} {a : Int} (n : Nat) (h : (List.range n).all (fun i => decide (0 ≤ fx_tg Λ a (i : Nat)) && decide (fx_tg Λ a (i : Nat) < Λ.1) && decide (fx_kd Λ (fx_tg Λ a (i : Nat)) = 4)) = true) (i : Int) (h0 : 0 ≤ i) (h1 : i < n) : fx_at Λ (fx_tg Λ a i) 4 := by
  have h2 := List.all_eq_true.mp h i.toNat (List.mem_range.mpr (by omega))
  rw [Int.toNat_of_nonneg h0] at h2
  simp only [Bool.and_eq_true, decide_eq_true_eq] at h2
  exact ⟨h2.1.1, h2.1.2, h2.2⟩
theorem kF_X0 : ∀ j, j < 6 → (parseFieldDescriptor (TX0 j).2.2.1).map defaultValue = some (fx_d0 ((fx_ft 0).getD j 0)) := by decide +kernel
theorem kF_X1 : ∀ j, j < 13 → (parseFieldDescriptor (TX1 j).2.2.1).map defaultValue = some (fx_d0 ((fx_ft 1).getD j 0)) := by decide +kernel
theorem kF_X2 : ∀ j, j < 6 → (parseFieldDescriptor (TX2 j).2.2.1).map defaultValue = some (fx_d0 ((fx_ft 2).getD j 0)) := by decide +kernel
theorem kF_X3 : ∀ j, j < 7 → (parseFieldDescriptor (TX3 j).2.2.1).map defaultValue = some (fx_d0 ((fx_ft 3).getD j 0)) := by decide +kernel
theorem kF_X4 : ∀ j, j < 14 → (parseFieldDescriptor (TX4 j).2.2.1).map defaultValue = some (fx_d0 ((fx_ft 4).getD j 0)) := by decide +kernel
theorem kF_X5 : ∀ j, j < 14 → (parseFieldDescriptor (TX5 j).2.2.1).map defaultValue = some (fx_d0 ((fx_ft 5).getD j 0)) := by decide +kernel
theorem kF_X6 : ∀ j, j < 25 → (parseFieldDescriptor (TX6 j).2.2.1).map defaultValue = some (fx_d0 ((fx_ft 6).getD j 0)) := by decide +kernel
