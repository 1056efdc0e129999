def fx_chk (Λ : fx_L) (a : Int) (k' : Nat) : Bool := (List.range (fx_ft k').length).all (fun i => match (fx_ft k').getD i 0 with
  | j + 2 => decide (0 ≤ fx_tg Λ a i) && decide (fx_tg Λ a i < Λ.1) && decide (fx_kd Λ (fx_tg Λ a i) = j)
  | _ => true)
theorem fx_chk_use {Λ : fx_L} {a : Int} {k' : Nat} (h : fx_chk Λ a k' = true) : ∀ (i j : Nat), (fx_ft k')[i]? = some (j + 2) → fx_at Λ (fx_tg Λ a i) j := by
  intro i j hij
  have hl : i < (fx_ft k').length := (List.getElem?_eq_some_iff.mp hij).1
  have h1 := List.all_eq_true.mp h i (List.mem_range.mpr hl)
  have hg : (fx_ft k').getD i 0 = j + 2 := by simp [List.getD, hij]
  rw [hg] at h1
  simp only [Bool.and_eq_true, decide_eq_true_eq] at h1
  exact ⟨h1.1.1, h1.1.2, h1.2⟩
theorem fx_chk10 {Λ : fx_L} {a : Int} (n : Nat) (h : (List.range n).all (fun i => decide (0 ≤ fx_tg Λ a (i : Nat)) && decide (fx_tg Λ a (i : Nat) < Λ.1) && decide (fx_kd Λ (fx_tg Λ a (i : Nat)) = 4)) = true) (i : Int) (h0 : 0 ≤ i) (h1 : i < n) : fx_at Λ (fx_tg Λ a i) 4 := by
  have h2 := List.all_eq_true.mp h i.toNat (List.mem_range.mpr (by omega))
  rw [Int.toNat_of_nonneg h0] at h2
  simp only [Bool.and_eq_true, decide_eq_true_eq] at h2
  exact ⟨h2.1.1, h2.1.2, h2.2⟩

section FX2
variable {M : fx_M} {D : va_G} {cy : Nat → ClassId} {ad ex : Nat → Nat} {A : Nat → Prop} {Λ : fx_L} {cc : ByteArray} {own : String} {nL : Nat} {rm : Room} {c n : Nat} {ad0 : Nat → Nat} {n0 : Nat} {pc : Nat} {ls : List (Option fx_V)} {st : List fx_V} {h : fx_H} {mc ms : Nat} {Λf : fx_L} {hof : fx_H}
theorem fx_newarr2 (F : fx_FC M D cy ad ex A Λ cc own nL rm c n ad0 n0) {atype : ArrayType} {ty : FieldType} (kd t0 : Nat) {len : Int} (hty : newarray.typeOf atype = ty) (hk : (kd = 7 ∧ t0 = 0 ∧ ty = .byte) ∨ (kd = 8 ∧ t0 = 1 ∧ ty = .int) ∨ (kd = 9 ∧ t0 = 2 ∧ ty = .boolean)) (hlen : 0 ≤ len ∧ len ≤ 100000) (lk : Cond.arrayClass ty ∈ fx_WS) (hroom : c + 1 ≤ rm.cells ∧ n + len.toNat ≤ rm.slots) (d : decode cc pc = .ok (.newarray atype, 2)) {Λ2 : fx_L} {a : Int} {t : Nat} (hΛ : Λ2 = fx_push Λ kd len (fun _ => -1)) (ha : (Λ.1 : Int) = a) (ht : kd + 2 = t)
    (g : ∀ ad' : Nat → Nat, fx_FC (fx_inc M 1 len.toNat) D cy ad' ex A Λ2 cc own nL rm (c + 1) (n + len.toNat) ad0 n0 → fx_J (fx_inc M 1 len.toNat) (D, cy, ad', ex, A) Λ2 nL (pc + 2) ls ((t, a) :: st) (fx_z h a)) : fx_J M (D, cy, ad, ex, A) Λ nL pc ls ((0, len) :: st) h := by
  subst hΛ ha ht; exact fx_newarr F kd t0 hty hk hlen lk hroom d g
theorem fx_anew2 (F : fx_FC M D cy ad ex A Λ cc own nL rm c n ad0 n0) {index : Nat} {len : Int} (hlen : 0 ≤ len ∧ len ≤ 100000) (lk : Cond.classLink own index RX4 ∈ fx_WS) (hroom : c + 1 ≤ rm.cells ∧ n + len.toNat ≤ rm.slots) (d : decode cc pc = .ok (.anewarray index, 3)) {Λ2 : fx_L} {a : Int} (hΛ : Λ2 = fx_push Λ 22 len (fun _ => -1)) (ha : (Λ.1 : Int) = a)
    (g : ∀ ad' : Nat → Nat, fx_FC (fx_inc M 1 len.toNat) D cy ad' ex A Λ2 cc own nL rm (c + 1) (n + len.toNat) ad0 n0 → fx_J (fx_inc M 1 len.toNat) (D, cy, ad', ex, A) Λ2 nL (pc + 3) ls ((24, a) :: st) (fx_z h a)) : fx_J M (D, cy, ad, ex, A) Λ nL pc ls ((0, len) :: st) h := by
  subst hΛ ha; exact fx_anew F hlen lk hroom d g
theorem fx_mna2 (F : fx_FC M D cy ad ex A Λ cc own nL rm c n ad0 n0) {index : Nat} (N K : Nat) (hN : N ≤ 1000 ∧ K ≤ 1000) (lk : Cond.classLink own index ("[" ++ (FieldType.array .int).toString) ∈ fx_WS) (lk2 : Cond.arrayClass .int ∈ fx_WS) (hroom : c + (1 + N) ≤ rm.cells ∧ n + (N + N * K) ≤ rm.slots) (d : decode cc pc = .ok (.multianewarray index 2, 4)) {Λ2 : fx_L} {a : Int} (hΛ : Λ2 = fx_grid Λ N K) (ha : (Λ.1 : Int) = a)
    (g : ∀ ad' : Nat → Nat, fx_FC (fx_inc M (1 + N) (N + N * K)) D cy ad' ex A Λ2 cc own nL rm (c + (1 + N)) (n + (N + N * K)) ad0 n0 → fx_J (fx_inc M (1 + N) (N + N * K)) (D, cy, ad', ex, A) Λ2 nL (pc + 4) ls ((13, a) :: st) (fx_zg h a)) : fx_J M (D, cy, ad, ex, A) Λ nL pc ls ((0, (K : Int)) :: (0, (N : Int)) :: st) h := by
  subst hΛ ha; exact fx_mna F N K hN lk lk2 hroom d g
theorem fx_new2 (F : fx_FC M D cy ad ex A Λ cc own nL rm c n ad0 n0) {C : String} {T : u_T} {N index : Nat} (ci : Nat) (hC : fx_cls ci C T N) (hdef : ∀ j, j < N → (parseFieldDescriptor (T j).2.2.1).map defaultValue = some (fx_d0 ((fx_ft ci).getD j 0))) (l1 : Cond.classLink own index C ∈ fx_WS) (l2 : Cond.instantiable C N ∈ fx_WS) (l3 : Cond.initialized C ∈ fx_WS) (hroom : c + 1 ≤ rm.cells ∧ n + N ≤ rm.slots) (d : decode cc pc = .ok (.new index, 3)) {Λ2 : fx_L} {a : Int} {t : Nat} (hΛ : Λ2 = fx_push Λ (12 + ci) 0 (fun _ => -1)) (ha : (Λ.1 : Int) = a) (ht : 12 + ci + 2 = t)
    (g : ∀ ad' : Nat → Nat, fx_FC (fx_inc M 1 N) D cy ad' ex A Λ2 cc own nL rm (c + 1) (n + N) ad0 n0 → fx_J (fx_inc M 1 N) (D, cy, ad', ex, A) Λ2 nL (pc + 3) ls ((t, a) :: st) (fx_z h a)) : fx_J M (D, cy, ad, ex, A) Λ nL pc ls st h := by
  subst hΛ ha ht; exact fx_new F ci hC hdef l1 l2 l3 hroom d g
theorem fx_putF2 (F : fx_FC M D cy ad ex A Λ cc own nL rm c n ad0 n0) (K : fx_FrC M D cy ex A ad0 n0 mc ms Λf hof) {a b : Int} {C : String} {T : u_T} {N index : Nat} (ci k kb : Nat) (kz : Int) (hz : (k : Int) = kz) (hC : fx_cls ci C T N) (hkb : kb < 60) (ht : ∃ r, (fx_ft ci)[k]? = some (r + 2)) (hfin : (T k).2.2.2 = true) (hdecl : (T k).1 = own) {ty : FieldType} (hd : parseFieldDescriptor (T k).2.2.1 = some ty) (hnar : ∀ q, narrow ty (.ref q) = .ref q ∧ fits ty (.ref q) = true) (lk : Cond.fieldLink own index (T k).1 (T k).2.1 (T k).2.2.1 ∈ fx_WS) (d : decode cc pc = .ok (.putfield index, 3)) {Λ2 : fx_L} (hΛ : Λ2 = fx_stg Λ a kz b) (g : fx_FC M D cy ad ex A Λ2 cc own nL rm c n ad0 n0 → fx_J M (D, cy, ad, ex, A) Λ2 nL (pc + 3) ls st h) : fx_J M (D, cy, ad, ex, A) Λ nL pc ls ((kb + 2, b) :: (12 + ci + 2, a) :: st) h := by
  subst hΛ; exact fx_putF F K ci k kb kz hz hC hkb ht hfin hdecl hd hnar lk d g
theorem fx_astU2 (F : fx_FC M D cy ad ex A Λ cc own nL rm c n ad0 n0) {a i b : Int} (h2 : 0 ≤ i) (h3 : i < fx_ln Λ a) (d : decode cc pc = .ok (.aastore, 1)) {Λ2 : fx_L} (hΛ : Λ2 = fx_stg Λ a i b) (g : fx_FC M D cy ad ex A Λ2 cc own nL rm c n ad0 n0 → fx_J M (D, cy, ad, ex, A) Λ2 nL (pc + 1) ls st h) : fx_J M (D, cy, ad, ex, A) Λ nL pc ls ((4 + 2, b) :: (0, i) :: (22 + 2, a) :: st) h := by
  subst hΛ; exact fx_astU F h2 h3 d g
theorem fx_seal2 {ls' : List (Option fx_V)} {st' : List fx_V} (F : fx_FC M D cy ad ex A Λ cc own nL rm c n ad0 n0) {a : Int} (k k' : Nat) (hk : (12 ≤ k ∧ k < 19 ∧ k' = k - 12) ∨ (k = 22 ∧ k' = 10)) (ha : fx_at Λ a k) {Λ2 : fx_L} (hΛ : Λ2 = fx_skd Λ a k') (hnew : (k' < 7 → ∀ (i j : Nat), (fx_ft k')[i]? = some (j + 2) → fx_at Λ2 (fx_tg Λ2 a i) j) ∧ (k' = 10 → ∀ i : Int, 0 ≤ i → i < fx_ln Λ a → fx_at Λ2 (fx_tg Λ2 a i) 4)) (hls' : ls.map (Option.map (fx_rtg a k k')) = ls') (hst' : st.map (fx_rtg a k k') = st') (g : fx_FC M D cy ad ex A Λ2 cc own nL rm c n ad0 n0 → fx_J M (D, cy, ad, ex, A) Λ2 nL pc ls' st' h) : fx_J M (D, cy, ad, ex, A) Λ nL pc ls st h := by
  subst hΛ; exact fx_seal F k k' hk ha hnew hls' hst' g
end FX2

theorem kF_X0 : ∀ j, j < 6 → (parseFieldDescriptor (TX0 j).2.2.1).map defaultValue = some (fx_d0 ((fx_ft 0).getD j 0)) := by decide +kernel
theorem kF_X1 : ∀ j, j < 13 → (parseFieldDescriptor (TX1 j).2.2.1).map defaultValue = some (fx_d0 ((fx_ft 1).getD j 0)) := by decide +kernel
theorem kF_X2 : ∀ j, j < 6 → (parseFieldDescriptor (TX2 j).2.2.1).map defaultValue = some (fx_d0 ((fx_ft 2).getD j 0)) := by decide +kernel
theorem kF_X3 : ∀ j, j < 7 → (parseFieldDescriptor (TX3 j).2.2.1).map defaultValue = some (fx_d0 ((fx_ft 3).getD j 0)) := by decide +kernel
theorem kF_X4 : ∀ j, j < 14 → (parseFieldDescriptor (TX4 j).2.2.1).map defaultValue = some (fx_d0 ((fx_ft 4).getD j 0)) := by decide +kernel
theorem kF_X5 : ∀ j, j < 14 → (parseFieldDescriptor (TX5 j).2.2.1).map defaultValue = some (fx_d0 ((fx_ft 5).getD j 0)) := by decide +kernel
theorem kF_X6 : ∀ j, j < 25 → (parseFieldDescriptor (TX6 j).2.2.1).map defaultValue = some (fx_d0 ((fx_ft 6).getD j 0)) := by decide +kernel
