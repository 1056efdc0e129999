/-! ===== fx: rows of fields and arrays ===== -/
theorem fx_v_cell {ad ex : Nat → Nat} {k : Nat} {a : Int} (hk : k < 60) : fx_v ad ex (k + 2, a) = .ref (ad a.toNat) := by
  have hb : Nat.ble 60 k = false := by
    cases hq : Nat.ble 60 k
    · rfl
    · exact absurd (Nat.le_of_ble_eq_true hq) (by omega)
  unfold fx_v
  simp only [hb]
theorem fx_ok_cell {Λ : fx_L} {k : Nat} {a : Int} (hk : k < 60) (h : fx_ok Λ (k + 2, a)) : fx_at Λ a k := by
  have hb : Nat.ble 60 k = false := by
    cases hq : Nat.ble 60 k
    · rfl
    · exact absurd (Nat.le_of_ble_eq_true hq) (by omega)
  unfold fx_ok at h
  simp only [hb] at h
  exact h
theorem fx_cell_ok {Λ : fx_L} {k : Nat} {a : Int} (hk : k < 60) (h : fx_at Λ a k) : fx_ok Λ (k + 2, a) := by
  have hb : Nat.ble 60 k = false := by
    cases hq : Nat.ble 60 k
    · rfl
    · exact absurd (Nat.le_of_ble_eq_true hq) (by omega)
  unfold fx_ok
  simp only [hb]
  exact h
def fx_cls (ci : Nat) (C : String) (T : u_T) (N : Nat) : Prop := vwCl[ci]? = some (C, T, N) ∧ ci < 7 ∧ N ≤ 1000 ∧ (fx_ft ci).length = N ∧ (∀ w ∈ u_ws C T N, w ∈ fx_WS) ∧ (∃ ty : Nat → FieldType, ∀ k, k < N → parseFieldDescriptor (T k).2.2.1 = some (ty k)) ∧ (∀ a, a < N → ∀ b, b < N → a ≠ b → (T a).2.1 ≠ (T b).2.1)
section FXH
variable {X : (Nat → Nat) → (Nat → Prop) → State → Prop} {M : fx_M} {G : fx_G} {Λ : fx_L} {cc : ByteArray} {own : String} {nL pc : Nat} {rm : Room} {ls : List (Option fx_V)} {st : List fx_V} {h : fx_H}
theorem fx_getI (F : fx_F X M G Λ cc own nL rm) {a : Int} {C : String} {T : u_T} {N index : Nat} (ci k : Nat) (hC : fx_cls ci C T N)  (ht : (fx_ft ci)[k]? = some (0)) (lk : Cond.fieldLink own index (T k).1 (T k).2.1 (T k).2.2.1 ∈ fx_WS) (d : decode cc pc = .ok (.getfield index, 3)) (g : fx_J M G Λ nL (pc + 3) ls ((0, h a k) :: st) h) : fx_J M G Λ nL pc ls ((ci + 2, a) :: st) h := by
  obtain ⟨p, l, e, R, s, m, args, below, meth, c, cells, slots, Q⟩ := M
  obtain ⟨D, cy, ad, ex, A⟩ := G
  obtain ⟨hx, hb, hml, hown, hts, hK, hwf, hA, hRm, hlocks, hcr, hX⟩ := F
  intro hls hst hR H locs la hP hD hS hl
  have hx' := hst _ List.mem_cons_self
  have hr' : ∀ v ∈ st, fx_ok Λ v := fun v hv => hst v (List.mem_cons_of_mem _ hv)
  obtain ⟨hc, h7, hN, hlen, hin, ⟨ty0, hty⟩, hnm⟩ := hC
  obtain ⟨h0, h1, hkd⟩ := fx_ok_cell (by omega) hx'
  have hk : k < N := by rw [← hlen]; exact (List.getElem?_eq_some_iff.mp ht).1
  have he := fx_ws_at (cy := cy) (ad := ad) (h := h) h0 h1
  rw [fx_cell_obj hkd h7] at he
  rw [List.map_cons, fx_v_cell (by omega)]
  have h9 := g hls (fx_okc (hR.1 a k (by omega)) hr') hR H locs la hP hD hS hl
  rw [List.map_cons] at h9
  exact va_get (C := C) (T := T) (N := N) hx hb hts hin hown hK hP a.toNat he hc k hk (hts _ lk) (fun _ q => q) (fx_fs_at ht) d h9
theorem fx_getL (F : fx_F X M G Λ cc own nL rm) {a : Int} {C : String} {T : u_T} {N index : Nat} (ci k : Nat) (hC : fx_cls ci C T N)  (ht : (fx_ft ci)[k]? = some (1)) (lk : Cond.fieldLink own index (T k).1 (T k).2.1 (T k).2.2.1 ∈ fx_WS) (d : decode cc pc = .ok (.getfield index, 3)) (g : fx_J M G Λ nL (pc + 3) ls ((1, h a (1000000 + k)) :: st) h) : fx_J M G Λ nL pc ls ((ci + 2, a) :: st) h := by
  obtain ⟨p, l, e, R, s, m, args, below, meth, c, cells, slots, Q⟩ := M
  obtain ⟨D, cy, ad, ex, A⟩ := G
  obtain ⟨hx, hb, hml, hown, hts, hK, hwf, hA, hRm, hlocks, hcr, hX⟩ := F
  intro hls hst hR H locs la hP hD hS hl
  have hx' := hst _ List.mem_cons_self
  have hr' : ∀ v ∈ st, fx_ok Λ v := fun v hv => hst v (List.mem_cons_of_mem _ hv)
  obtain ⟨hc, h7, hN, hlen, hin, ⟨ty0, hty⟩, hnm⟩ := hC
  obtain ⟨h0, h1, hkd⟩ := fx_ok_cell (by omega) hx'
  have hk : k < N := by rw [← hlen]; exact (List.getElem?_eq_some_iff.mp ht).1
  have he := fx_ws_at (cy := cy) (ad := ad) (h := h) h0 h1
  rw [fx_cell_obj hkd h7] at he
  rw [List.map_cons, fx_v_cell (by omega)]
  have h9 := g hls (fx_okc (hR.2 a _) hr') hR H locs la hP hD hS hl
  rw [List.map_cons] at h9
  exact va_get (C := C) (T := T) (N := N) hx hb hts hin hown hK hP a.toNat he hc k hk (hts _ lk) (fun _ q => q) (fx_fs_at ht) d h9
theorem fx_getR (F : fx_F X M G Λ cc own nL rm) {a : Int} {C : String} {T : u_T} {N index : Nat} (ci k : Nat) (hC : fx_cls ci C T N)  {r : Nat} (hr18 : r < 60) (ht : (fx_ft ci)[k]? = some (r + 2)) (lk : Cond.fieldLink own index (T k).1 (T k).2.1 (T k).2.2.1 ∈ fx_WS) (d : decode cc pc = .ok (.getfield index, 3)) (g : fx_J M G Λ nL (pc + 3) ls ((r + 2, fx_tg Λ a k) :: st) h) : fx_J M G Λ nL pc ls ((ci + 2, a) :: st) h := by
  obtain ⟨p, l, e, R, s, m, args, below, meth, c, cells, slots, Q⟩ := M
  obtain ⟨D, cy, ad, ex, A⟩ := G
  obtain ⟨hx, hb, hml, hown, hts, hK, hwf, hA, hRm, hlocks, hcr, hX⟩ := F
  intro hls hst hR H locs la hP hD hS hl
  have hx' := hst _ List.mem_cons_self
  have hr' : ∀ v ∈ st, fx_ok Λ v := fun v hv => hst v (List.mem_cons_of_mem _ hv)
  obtain ⟨hc, h7, hN, hlen, hin, ⟨ty0, hty⟩, hnm⟩ := hC
  obtain ⟨h0, h1, hkd⟩ := fx_ok_cell (by omega) hx'
  have hk : k < N := by rw [← hlen]; exact (List.getElem?_eq_some_iff.mp ht).1
  have he := fx_ws_at (cy := cy) (ad := ad) (h := h) h0 h1
  rw [fx_cell_obj hkd h7] at he
  rw [List.map_cons, fx_v_cell (by omega)]
  have hpos := ((hwf a h0 h1).2.2.1 (by rw [hkd]; exact h7) k r (by rw [hkd]; exact ht)).1
  have h9 := g hls (fx_okc (fx_cell_ok hr18 ((hwf a h0 h1).2.2.1 (by rw [hkd]; exact h7) k r (by rw [hkd]; exact ht))) hr') hR H locs la hP hD hS hl
  rw [List.map_cons, fx_v_cell hr18, ← show va_rf (fx_ro ad (fx_tg Λ a k)) = .ref (ad (fx_tg Λ a k).toNat) by rw [fx_ro_pos hpos]; rfl] at h9
  exact va_get (C := C) (T := T) (N := N) hx hb hts hin hown hK hP a.toNat he hc k hk (hts _ lk) (fun _ q => q) (fx_fs_at ht) d h9
theorem fx_putI (F : fx_F X M G Λ cc own nL rm) {a : Int} {C : String} {T : u_T} {N index : Nat} (ci k : Nat) (hC : fx_cls ci C T N) (ht : (fx_ft ci)[k]? = some 0) (hfin : (T k).2.2.2 = false) (hd : parseFieldDescriptor (T k).2.2.1 = some .int) (lk : Cond.fieldLink own index (T k).1 (T k).2.1 (T k).2.2.1 ∈ fx_WS) {x : Int} (d : decode cc pc = .ok (.putfield index, 3)) (g : fx_J M G Λ nL (pc + 3) ls st (fx_up h a k x)) : fx_J M G Λ nL pc ls ((0, x) :: (ci + 2, a) :: st) h := by
  obtain ⟨p, l, e, R, s, m, args, below, meth, c, cells, slots, Q⟩ := M
  obtain ⟨D, cy, ad, ex, A⟩ := G
  obtain ⟨hx, hb, hml, hown, hts, hK, hwf, hA, hRm, hlocks, hcr, hX⟩ := F
  intro hls hst hR H locs la hP hD hS hl
  have hz' := hst _ List.mem_cons_self
  have hx' := hst _ (List.mem_cons_of_mem _ List.mem_cons_self)
  have hr' : ∀ v ∈ st, fx_ok Λ v := fun v hv => hst v (List.mem_cons_of_mem _ (List.mem_cons_of_mem _ hv))
  obtain ⟨hc, h7, hN, hlen, hin, ⟨ty0, hty⟩, hnm⟩ := hC
  obtain ⟨h0, h1, hkd⟩ := fx_ok_cell (by omega) hx'
  have hk : k < N := by rw [← hlen]; exact (List.getElem?_eq_some_iff.mp ht).1
  have he := fx_ws_at (cy := cy) (ad := ad) (h := h) h0 h1
  rw [fx_cell_obj hkd h7] at he
  rw [List.map_cons, List.map_cons, fx_v_cell (by omega)]
  refine va_put (C := C) (T := T) (N := N) (v := .int (Int32.ofInt x)) hx hb hts hin ty0 hty hnm hown hK hP hD hS a.toNat he hc k hk (hts _ lk) (fun _ q => q) hfin hd rfl rfl (by rw [fx_fs_len, hlen]; exact hk) d (fun H1 locs1 hP1 hD1 hS1 => ?_)
  have hg : (fx_ft ci).getD k 0 = 0 := by simp [List.getD, ht]
  have hcell : fx_cell cy ad Λ (fx_up h a k x) a = .inr (ci, (fx_fs ad Λ h a (fx_ft ci)).set k (.int (Int32.ofInt x))) := by
    rw [fx_cell_obj hkd h7]
    congr 2
    refine (fx_fs_set ?_ (fun k' hk' => ?_)).symm
    · rw [hg]
      simp [fx_fv, fx_up]
    · by_cases hq : (fx_ft ci).length ≤ k'
      · exact Or.inr (Or.inr hq)
      · exact Or.inl ⟨by omega, by omega⟩
  rw [fx_ws_set h0 hcell] at hP1 hD1
  exact g hls hr' (fx_up_rg hR (fx_ok_i hz')) H1 locs1 la hP1 hD1 hS1 hl
theorem fx_putZ (F : fx_F X M G Λ cc own nL rm) {a : Int} {C : String} {T : u_T} {N index : Nat} (ci k : Nat) (hC : fx_cls ci C T N) (ht : (fx_ft ci)[k]? = some 0) (hfin : (T k).2.2.2 = false) (hd : parseFieldDescriptor (T k).2.2.1 = some .boolean) (lk : Cond.fieldLink own index (T k).1 (T k).2.1 (T k).2.2.1 ∈ fx_WS) {x : Int} (hbz : x = 0 ∨ x = 1) (d : decode cc pc = .ok (.putfield index, 3)) (g : fx_J M G Λ nL (pc + 3) ls st (fx_up h a k x)) : fx_J M G Λ nL pc ls ((0, x) :: (ci + 2, a) :: st) h := by
  obtain ⟨p, l, e, R, s, m, args, below, meth, c, cells, slots, Q⟩ := M
  obtain ⟨D, cy, ad, ex, A⟩ := G
  obtain ⟨hx, hb, hml, hown, hts, hK, hwf, hA, hRm, hlocks, hcr, hX⟩ := F
  intro hls hst hR H locs la hP hD hS hl
  have hz' := hst _ List.mem_cons_self
  have hx' := hst _ (List.mem_cons_of_mem _ List.mem_cons_self)
  have hr' : ∀ v ∈ st, fx_ok Λ v := fun v hv => hst v (List.mem_cons_of_mem _ (List.mem_cons_of_mem _ hv))
  obtain ⟨hc, h7, hN, hlen, hin, ⟨ty0, hty⟩, hnm⟩ := hC
  obtain ⟨h0, h1, hkd⟩ := fx_ok_cell (by omega) hx'
  have hk : k < N := by rw [← hlen]; exact (List.getElem?_eq_some_iff.mp ht).1
  have he := fx_ws_at (cy := cy) (ad := ad) (h := h) h0 h1
  rw [fx_cell_obj hkd h7] at he
  rw [List.map_cons, List.map_cons, fx_v_cell (by omega)]
  refine va_put (C := C) (T := T) (N := N) (v := .int (Int32.ofInt x)) hx hb hts hin ty0 hty hnm hown hK hP hD hS a.toNat he hc k hk (hts _ lk) (fun _ q => q) hfin hd (by rcases hbz with rfl | rfl <;> rfl) (by rcases hbz with rfl | rfl <;> rfl) (by rw [fx_fs_len, hlen]; exact hk) d (fun H1 locs1 hP1 hD1 hS1 => ?_)
  have hg : (fx_ft ci).getD k 0 = 0 := by simp [List.getD, ht]
  have hcell : fx_cell cy ad Λ (fx_up h a k x) a = .inr (ci, (fx_fs ad Λ h a (fx_ft ci)).set k (.int (Int32.ofInt x))) := by
    rw [fx_cell_obj hkd h7]
    congr 2
    refine (fx_fs_set ?_ (fun k' hk' => ?_)).symm
    · rw [hg]
      simp [fx_fv, fx_up]
    · by_cases hq : (fx_ft ci).length ≤ k'
      · exact Or.inr (Or.inr hq)
      · exact Or.inl ⟨by omega, by omega⟩
  rw [fx_ws_set h0 hcell] at hP1 hD1
  exact g hls hr' (fx_up_rg hR (fx_ok_i hz')) H1 locs1 la hP1 hD1 hS1 hl
theorem fx_putL (F : fx_F X M G Λ cc own nL rm) {a : Int} {C : String} {T : u_T} {N index : Nat} (ci k : Nat) (hC : fx_cls ci C T N) (ht : (fx_ft ci)[k]? = some 1) (hfin : (T k).2.2.2 = false) (hd : parseFieldDescriptor (T k).2.2.1 = some .long) (lk : Cond.fieldLink own index (T k).1 (T k).2.1 (T k).2.2.1 ∈ fx_WS) {x : Int} (d : decode cc pc = .ok (.putfield index, 3)) (g : fx_J M G Λ nL (pc + 3) ls st (fx_up h a (1000000 + k) x)) : fx_J M G Λ nL pc ls ((1, x) :: (ci + 2, a) :: st) h := by
  obtain ⟨p, l, e, R, s, m, args, below, meth, c, cells, slots, Q⟩ := M
  obtain ⟨D, cy, ad, ex, A⟩ := G
  obtain ⟨hx, hb, hml, hown, hts, hK, hwf, hA, hRm, hlocks, hcr, hX⟩ := F
  intro hls hst hR H locs la hP hD hS hl
  have hz' := hst _ List.mem_cons_self
  have hx' := hst _ (List.mem_cons_of_mem _ List.mem_cons_self)
  have hr' : ∀ v ∈ st, fx_ok Λ v := fun v hv => hst v (List.mem_cons_of_mem _ (List.mem_cons_of_mem _ hv))
  obtain ⟨hc, h7, hN, hlen, hin, ⟨ty0, hty⟩, hnm⟩ := hC
  obtain ⟨h0, h1, hkd⟩ := fx_ok_cell (by omega) hx'
  have hk : k < N := by rw [← hlen]; exact (List.getElem?_eq_some_iff.mp ht).1
  have he := fx_ws_at (cy := cy) (ad := ad) (h := h) h0 h1
  rw [fx_cell_obj hkd h7] at he
  rw [List.map_cons, List.map_cons, fx_v_cell (by omega)]
  refine va_put (C := C) (T := T) (N := N) (v := .long (Int64.ofInt x)) hx hb hts hin ty0 hty hnm hown hK hP hD hS a.toNat he hc k hk (hts _ lk) (fun _ q => q) hfin hd rfl rfl (by rw [fx_fs_len, hlen]; exact hk) d (fun H1 locs1 hP1 hD1 hS1 => ?_)
  have hg : (fx_ft ci).getD k 0 = 1 := by simp [List.getD, ht]
  have hcell : fx_cell cy ad Λ (fx_up h a (1000000 + k) x) a = .inr (ci, (fx_fs ad Λ h a (fx_ft ci)).set k (.long (Int64.ofInt x))) := by
    rw [fx_cell_obj hkd h7]
    congr 2
    refine (fx_fs_set ?_ (fun k' hk' => ?_)).symm
    · rw [hg]
      simp [fx_fv, fx_up]
    · by_cases hq : (fx_ft ci).length ≤ k'
      · exact Or.inr (Or.inr hq)
      · exact Or.inl ⟨by omega, by omega⟩
  rw [fx_ws_set h0 hcell] at hP1 hD1
  exact g hls hr' (fx_up_rgl hR (by omega) (fx_ok_l hz')) H1 locs1 la hP1 hD1 hS1 hl
theorem fx_aldI (F : fx_F X M G Λ cc own nL rm) {a i : Int} (h2 : 0 ≤ i) (h3 : i < fx_ln Λ a) (d : decode cc pc = .ok (.iaload, 1)) (g : fx_J M G Λ nL (pc + 1) ls ((0, h a i) :: st) h) : fx_J M G Λ nL pc ls ((0, i) :: (8 + 2, a) :: st) h := by
  obtain ⟨p, l, e, R, s, m, args, below, meth, c, cells, slots, Q⟩ := M
  obtain ⟨D, cy, ad, ex, A⟩ := G
  obtain ⟨hx, hb, hml, hown, hts, hK, hwf, hA, hRm, hlocks, hcr, hX⟩ := F
  intro hls hst hR H locs la hP hD hS hl
  have hy' := hst _ List.mem_cons_self
  have hx' := hst _ (List.mem_cons_of_mem _ List.mem_cons_self)
  have hr' : ∀ v ∈ st, fx_ok Λ v := fun v hv => hst v (List.mem_cons_of_mem _ (List.mem_cons_of_mem _ hv))
  obtain ⟨h0, h1, hkd⟩ := fx_ok_cell (by omega) hx'
  have he := fx_ws_at (cy := cy) (ad := ad) (h := h) h0 h1
  have hcell : fx_cell cy ad Λ h a = fx_ai (cy 1) Λ h a := by unfold fx_cell; rw [hkd]; rfl
  rw [hcell] at he
  have hln := (hwf a h0 h1).1
  have hlm := (hwf a h0 h1).2.1
  have h9 := g hls (fx_okc (hR.1 a i (by omega)) hr') hR H locs la hP hD hS hl
  rw [List.map_cons, List.map_cons, fx_v_cell (by omega)]
  refine va_iald hx hb hK hP a.toNat 1 he rfl (fx_in (fx_ok_i hy') h2 (by omega)) d ?_
  have e9 : ((Int32.ofInt (0, i).2).toNatClampNeg : Int) = i := by rw [fx_cl (fx_ok_i hy')]; exact Int.toNat_of_nonneg h2
  simp only [e9]
  exact h9
theorem fx_aldB (F : fx_F X M G Λ cc own nL rm) {a i : Int} (h2 : 0 ≤ i) (h3 : i < fx_ln Λ a) (d : decode cc pc = .ok (.baload, 1)) (g : fx_J M G Λ nL (pc + 1) ls ((0, h a i) :: st) h) : fx_J M G Λ nL pc ls ((0, i) :: (7 + 2, a) :: st) h := by
  obtain ⟨p, l, e, R, s, m, args, below, meth, c, cells, slots, Q⟩ := M
  obtain ⟨D, cy, ad, ex, A⟩ := G
  obtain ⟨hx, hb, hml, hown, hts, hK, hwf, hA, hRm, hlocks, hcr, hX⟩ := F
  intro hls hst hR H locs la hP hD hS hl
  have hy' := hst _ List.mem_cons_self
  have hx' := hst _ (List.mem_cons_of_mem _ List.mem_cons_self)
  have hr' : ∀ v ∈ st, fx_ok Λ v := fun v hv => hst v (List.mem_cons_of_mem _ (List.mem_cons_of_mem _ hv))
  obtain ⟨h0, h1, hkd⟩ := fx_ok_cell (by omega) hx'
  have he := fx_ws_at (cy := cy) (ad := ad) (h := h) h0 h1
  have hcell : fx_cell cy ad Λ h a = fx_ai (cy 0) Λ h a := by unfold fx_cell; rw [hkd]; rfl
  rw [hcell] at he
  have hln := (hwf a h0 h1).1
  have hlm := (hwf a h0 h1).2.1
  have h9 := g hls (fx_okc (hR.1 a i (by omega)) hr') hR H locs la hP hD hS hl
  rw [List.map_cons, List.map_cons, fx_v_cell (by omega)]
  refine va_bald hx hb hK hP a.toNat 0 he rfl (fx_in (fx_ok_i hy') h2 (by omega)) d ?_
  have e9 : ((Int32.ofInt (0, i).2).toNatClampNeg : Int) = i := by rw [fx_cl (fx_ok_i hy')]; exact Int.toNat_of_nonneg h2
  simp only [e9]
  exact h9
theorem fx_aldZ (F : fx_F X M G Λ cc own nL rm) {a i : Int} (h2 : 0 ≤ i) (h3 : i < fx_ln Λ a) (d : decode cc pc = .ok (.baload, 1)) (g : fx_J M G Λ nL (pc + 1) ls ((0, h a i) :: st) h) : fx_J M G Λ nL pc ls ((0, i) :: (9 + 2, a) :: st) h := by
  obtain ⟨p, l, e, R, s, m, args, below, meth, c, cells, slots, Q⟩ := M
  obtain ⟨D, cy, ad, ex, A⟩ := G
  obtain ⟨hx, hb, hml, hown, hts, hK, hwf, hA, hRm, hlocks, hcr, hX⟩ := F
  intro hls hst hR H locs la hP hD hS hl
  have hy' := hst _ List.mem_cons_self
  have hx' := hst _ (List.mem_cons_of_mem _ List.mem_cons_self)
  have hr' : ∀ v ∈ st, fx_ok Λ v := fun v hv => hst v (List.mem_cons_of_mem _ (List.mem_cons_of_mem _ hv))
  obtain ⟨h0, h1, hkd⟩ := fx_ok_cell (by omega) hx'
  have he := fx_ws_at (cy := cy) (ad := ad) (h := h) h0 h1
  have hcell : fx_cell cy ad Λ h a = fx_ai (cy 2) Λ h a := by unfold fx_cell; rw [hkd]; rfl
  rw [hcell] at he
  have hln := (hwf a h0 h1).1
  have hlm := (hwf a h0 h1).2.1
  have h9 := g hls (fx_okc (hR.1 a i (by omega)) hr') hR H locs la hP hD hS hl
  rw [List.map_cons, List.map_cons, fx_v_cell (by omega)]
  refine va_zald hx hb hK hP a.toNat 2 he rfl (fx_in (fx_ok_i hy') h2 (by omega)) d ?_
  have e9 : ((Int32.ofInt (0, i).2).toNatClampNeg : Int) = i := by rw [fx_cl (fx_ok_i hy')]; exact Int.toNat_of_nonneg h2
  simp only [e9]
  exact h9
theorem fx_astI (F : fx_F X M G Λ cc own nL rm) {a i x : Int} (h2 : 0 ≤ i) (h3 : i < fx_ln Λ a) (d : decode cc pc = .ok (.iastore, 1)) (g : fx_J M G Λ nL (pc + 1) ls st (fx_up h a i x)) : fx_J M G Λ nL pc ls ((0, x) :: (0, i) :: (8 + 2, a) :: st) h := by
  obtain ⟨p, l, e, R, s, m, args, below, meth, c, cells, slots, Q⟩ := M
  obtain ⟨D, cy, ad, ex, A⟩ := G
  obtain ⟨hx, hb, hml, hown, hts, hK, hwf, hA, hRm, hlocks, hcr, hX⟩ := F
  intro hls hst hR H locs la hP hD hS hl
  have hz' := hst _ List.mem_cons_self
  have hy' := hst _ (List.mem_cons_of_mem _ List.mem_cons_self)
  have hx' := hst _ (List.mem_cons_of_mem _ (List.mem_cons_of_mem _ List.mem_cons_self))
  have hr' : ∀ v ∈ st, fx_ok Λ v := fun v hv => hst v (List.mem_cons_of_mem _ (List.mem_cons_of_mem _ (List.mem_cons_of_mem _ hv)))
  obtain ⟨h0, h1, hkd⟩ := fx_ok_cell (by omega) hx'
  have he := fx_ws_at (cy := cy) (ad := ad) (h := h) h0 h1
  have hcell : ∀ h : fx_H, fx_cell cy ad Λ h a = fx_ai (cy 1) Λ h a := fun h => by unfold fx_cell; rw [hkd]; rfl
  rw [hcell] at he
  rw [List.map_cons, List.map_cons, List.map_cons, fx_v_cell (by omega)]
  refine va_iast hx hb hK hP hD hS a.toNat 1 he rfl (fx_in (fx_ok_i hy') h2 (by omega)) d (fun H1 locs1 hP1 hD1 hS1 => ?_)
  have ev : Int32.ofInt x = Int32.ofInt x := rfl
  have hc1 : fx_cell cy ad Λ (fx_up h a i x) a = .inl (cy 1, (fx_ln Λ a).toNat, .inl (upd (fun j : Nat => Int32.ofInt (h a j)) (Int32.ofInt (0, i).2).toNatClampNeg (Int32.ofInt x))) := by
    rw [hcell, ev]
    unfold fx_ai
    congr 4
    funext j
    rw [fx_cl (fx_ok_i hy')]
    unfold upd fx_up
    by_cases hj : j = i.toNat
    · subst hj
      simp [Int.toNat_of_nonneg h2]
    · have hj2 : ¬ (j : Int) = i := by omega
      simp [hj, hj2]
  rw [fx_ws_set h0 hc1] at hP1 hD1
  exact g hls hr' (fx_up_rg hR (fx_ok_i hz')) H1 locs1 la hP1 hD1 hS1 hl
theorem fx_astB (F : fx_F X M G Λ cc own nL rm) {a i x : Int} (h2 : 0 ≤ i) (h3 : i < fx_ln Λ a) (d : decode cc pc = .ok (.bastore, 1)) (g : fx_J M G Λ nL (pc + 1) ls st (fx_up h a i (fx_b x))) : fx_J M G Λ nL pc ls ((0, x) :: (0, i) :: (7 + 2, a) :: st) h := by
  obtain ⟨p, l, e, R, s, m, args, below, meth, c, cells, slots, Q⟩ := M
  obtain ⟨D, cy, ad, ex, A⟩ := G
  obtain ⟨hx, hb, hml, hown, hts, hK, hwf, hA, hRm, hlocks, hcr, hX⟩ := F
  intro hls hst hR H locs la hP hD hS hl
  have hz' := hst _ List.mem_cons_self
  have hy' := hst _ (List.mem_cons_of_mem _ List.mem_cons_self)
  have hx' := hst _ (List.mem_cons_of_mem _ (List.mem_cons_of_mem _ List.mem_cons_self))
  have hr' : ∀ v ∈ st, fx_ok Λ v := fun v hv => hst v (List.mem_cons_of_mem _ (List.mem_cons_of_mem _ (List.mem_cons_of_mem _ hv)))
  obtain ⟨h0, h1, hkd⟩ := fx_ok_cell (by omega) hx'
  have he := fx_ws_at (cy := cy) (ad := ad) (h := h) h0 h1
  have hcell : ∀ h : fx_H, fx_cell cy ad Λ h a = fx_ai (cy 0) Λ h a := fun h => by unfold fx_cell; rw [hkd]; rfl
  rw [hcell] at he
  rw [List.map_cons, List.map_cons, List.map_cons, fx_v_cell (by omega)]
  refine va_bast hx hb hK hP hD hS a.toNat 0 he rfl (fx_in (fx_ok_i hy') h2 (by omega)) d (fun H1 locs1 hP1 hD1 hS1 => ?_)
  have ev : vp_nar .byte (Int32.ofInt x) = Int32.ofInt (fx_b x) := by show (Int32.ofInt x).toInt8.toInt32 = Int32.ofInt (fx_b x); unfold fx_b; rw [fx_of_toInt]
  have hc1 : fx_cell cy ad Λ (fx_up h a i (fx_b x)) a = .inl (cy 0, (fx_ln Λ a).toNat, .inl (upd (fun j : Nat => Int32.ofInt (h a j)) (Int32.ofInt (0, i).2).toNatClampNeg (vp_nar .byte (Int32.ofInt x)))) := by
    rw [hcell, ev]
    unfold fx_ai
    congr 4
    funext j
    rw [fx_cl (fx_ok_i hy')]
    unfold upd fx_up
    by_cases hj : j = i.toNat
    · subst hj
      simp [Int.toNat_of_nonneg h2]
    · have hj2 : ¬ (j : Int) = i := by omega
      simp [hj, hj2]
  rw [fx_ws_set h0 hc1] at hP1 hD1
  exact g hls hr' (fx_up_rg hR (fx_toInt_R _)) H1 locs1 la hP1 hD1 hS1 hl
theorem fx_astZ (F : fx_F X M G Λ cc own nL rm) {a i x : Int} (h2 : 0 ≤ i) (h3 : i < fx_ln Λ a) (hbz : x = 0 ∨ x = 1) (d : decode cc pc = .ok (.bastore, 1)) (g : fx_J M G Λ nL (pc + 1) ls st (fx_up h a i x)) : fx_J M G Λ nL pc ls ((0, x) :: (0, i) :: (9 + 2, a) :: st) h := by
  obtain ⟨p, l, e, R, s, m, args, below, meth, c, cells, slots, Q⟩ := M
  obtain ⟨D, cy, ad, ex, A⟩ := G
  obtain ⟨hx, hb, hml, hown, hts, hK, hwf, hA, hRm, hlocks, hcr, hX⟩ := F
  intro hls hst hR H locs la hP hD hS hl
  have hz' := hst _ List.mem_cons_self
  have hy' := hst _ (List.mem_cons_of_mem _ List.mem_cons_self)
  have hx' := hst _ (List.mem_cons_of_mem _ (List.mem_cons_of_mem _ List.mem_cons_self))
  have hr' : ∀ v ∈ st, fx_ok Λ v := fun v hv => hst v (List.mem_cons_of_mem _ (List.mem_cons_of_mem _ (List.mem_cons_of_mem _ hv)))
  obtain ⟨h0, h1, hkd⟩ := fx_ok_cell (by omega) hx'
  have he := fx_ws_at (cy := cy) (ad := ad) (h := h) h0 h1
  have hcell : ∀ h : fx_H, fx_cell cy ad Λ h a = fx_ai (cy 2) Λ h a := fun h => by unfold fx_cell; rw [hkd]; rfl
  rw [hcell] at he
  rw [List.map_cons, List.map_cons, List.map_cons, fx_v_cell (by omega)]
  refine va_zast hx hb hK hP hD hS a.toNat 2 he rfl (fx_in (fx_ok_i hy') h2 (by omega)) d (fun H1 locs1 hP1 hD1 hS1 => ?_)
  have ev : vp_nar .boolean (Int32.ofInt x) = Int32.ofInt x := by rcases hbz with rfl | rfl <;> rfl
  have hc1 : fx_cell cy ad Λ (fx_up h a i x) a = .inl (cy 2, (fx_ln Λ a).toNat, .inl (upd (fun j : Nat => Int32.ofInt (h a j)) (Int32.ofInt (0, i).2).toNatClampNeg (vp_nar .boolean (Int32.ofInt x)))) := by
    rw [hcell, ev]
    unfold fx_ai
    congr 4
    funext j
    rw [fx_cl (fx_ok_i hy')]
    unfold upd fx_up
    by_cases hj : j = i.toNat
    · subst hj
      simp [Int.toNat_of_nonneg h2]
    · have hj2 : ¬ (j : Int) = i := by omega
      simp [hj, hj2]
  rw [fx_ws_set h0 hc1] at hP1 hD1
  exact g hls hr' (fx_up_rg hR (fx_ok_i hz')) H1 locs1 la hP1 hD1 hS1 hl
theorem fx_aldT (F : fx_F X M G Λ cc own nL rm) {a i : Int} (h2 : 0 ≤ i) (h3 : i < fx_ln Λ a) (d : decode cc pc = .ok (.aaload, 1)) (g : fx_J M G Λ nL (pc + 1) ls ((4 + 2, fx_tg Λ a i) :: st) h) : fx_J M G Λ nL pc ls ((0, i) :: (10 + 2, a) :: st) h := by
  obtain ⟨p, l, e, R, s, m, args, below, meth, c, cells, slots, Q⟩ := M
  obtain ⟨D, cy, ad, ex, A⟩ := G
  obtain ⟨hx, hb, hml, hown, hts, hK, hwf, hA, hRm, hlocks, hcr, hX⟩ := F
  intro hls hst hR H locs la hP hD hS hl
  have hy' := hst _ List.mem_cons_self
  have hx' := hst _ (List.mem_cons_of_mem _ List.mem_cons_self)
  have hr' : ∀ v ∈ st, fx_ok Λ v := fun v hv => hst v (List.mem_cons_of_mem _ (List.mem_cons_of_mem _ hv))
  obtain ⟨h0, h1, hkd⟩ := fx_ok_cell (by omega) hx'
  have he := fx_ws_at (cy := cy) (ad := ad) (h := h) h0 h1
  have hcell : fx_cell cy ad Λ h a = fx_ar (cy 3) ad Λ a := by unfold fx_cell; rw [hkd]; rfl
  rw [hcell] at he
  have hpos := ((hwf a h0 h1).2.2.2.1 hkd i h2 h3).1
  have h9 := g hls (fx_okc (fx_cell_ok (by omega) ((hwf a h0 h1).2.2.2.1 hkd i h2 h3)) hr') hR H locs la hP hD hS hl
  rw [List.map_cons, fx_v_cell (by omega), ← show va_rf (fx_ro ad (fx_tg Λ a i)) = .ref (ad (fx_tg Λ a i).toNat) by rw [fx_ro_pos hpos]; rfl] at h9
  rw [List.map_cons, List.map_cons, fx_v_cell (by omega)]
  refine va_aldq hx hb hK hP a.toNat 3 he rfl (fx_in (fx_ok_i hy') h2 (by omega)) d ?_
  have e9 : ((Int32.ofInt (0, i).2).toNatClampNeg : Int) = i := by rw [fx_cl (fx_ok_i hy')]; exact Int.toNat_of_nonneg h2
  simp only [e9]
  exact h9
theorem va_aldg {p : Program} {l : Launch} {e : Env} {R : Room} {s : State} {m : MethodId} {args : Array Value} {below : List Frame} {meth : Method} {c : Code} {H : Heap} {locs : List Loc} {cells slots : Nat} {Q : State → Prop} {la : Array Slot} {rest : List Value} {D : va_G} {cl : List vw_C} {a : Nat} {tys : List (ClassId × FieldType)} {ws : va_W} (hexec : p.tables.exec = Jvm.exec) (hb : c.code = cc) (hK : va_K D cl tys s) (hP : va_P D cl ws H) (q0 t0 : Nat) {cA : ClassId} {ty : FieldType} {n : Nat} {f : Nat → Option Nat} (ha : ws[q0]? = some (a, .inl (cA, n, .inr (.inr (.inr (.inr f)))))) (ht : tys[t0]? = some (cA, .array ty)) {i : Int32} (hin : vp_in i n) (hdg : decode cc pc = .ok (.aaload, 1))
    (kk : W p l e R s m args below meth c H locs cells slots Q (F0 m (pc + 1) la (va_rf (f i.toNatClampNeg) :: rest))) : W p l e R s m args below meth c H locs cells slots Q (F0 m pc la (.int i :: .ref a :: rest)) := by
  have hlt : i.toNatClampNeg < n := Nat.not_le.mp fun q => hin (Or.inr q)
  exact W.aald (v := va_rf (f i.toNatClampNeg)) (ty := .array ty) hexec hb (hP q0 _ ha) ((hK.2 t0 _ ht).1 n (fun j => va_rf (f j))) rfl (fun q => by cases q) (by show ¬ (i < 0 ∨ (arrV _ _ _).slots.size ≤ _); rw [arrV_size]; exact hin) (by show (arrV _ _ _).slots[_]? = _; rw [arrV_read _ _ hlt]) rfl rfl hdg kk
theorem fx_aldG (F : fx_F X M G Λ cc own nL rm) {a i : Int} (h2 : 0 ≤ i) (h3 : i < fx_ln Λ a) (d : decode cc pc = .ok (.aaload, 1)) (g : fx_J M G Λ nL (pc + 1) ls ((8 + 2, fx_tg Λ a i) :: st) h) : fx_J M G Λ nL pc ls ((0, i) :: (11 + 2, a) :: st) h := by
  obtain ⟨p, l, e, R, s, m, args, below, meth, c, cells, slots, Q⟩ := M
  obtain ⟨D, cy, ad, ex, A⟩ := G
  obtain ⟨hx, hb, hml, hown, hts, hK, hwf, hA, hRm, hlocks, hcr, hX⟩ := F
  intro hls hst hR H locs la hP hD hS hl
  have hy' := hst _ List.mem_cons_self
  have hx' := hst _ (List.mem_cons_of_mem _ List.mem_cons_self)
  have hr' : ∀ v ∈ st, fx_ok Λ v := fun v hv => hst v (List.mem_cons_of_mem _ (List.mem_cons_of_mem _ hv))
  obtain ⟨h0, h1, hkd⟩ := fx_ok_cell (by omega) hx'
  have he := fx_ws_at (cy := cy) (ad := ad) (h := h) h0 h1
  have hcell : fx_cell cy ad Λ h a = fx_ar (cy 4) ad Λ a := by unfold fx_cell; rw [hkd]; rfl
  rw [hcell] at he
  have hpos := ((hwf a h0 h1).2.2.2.2 hkd i h2 h3).1
  have h9 := g hls (fx_okc (fx_cell_ok (by omega) ((hwf a h0 h1).2.2.2.2 hkd i h2 h3)) hr') hR H locs la hP hD hS hl
  rw [List.map_cons, fx_v_cell (by omega), ← show va_rf (fx_ro ad (fx_tg Λ a i)) = .ref (ad (fx_tg Λ a i).toNat) by rw [fx_ro_pos hpos]; rfl] at h9
  rw [List.map_cons, List.map_cons, fx_v_cell (by omega)]
  refine va_aldg hx hb hK hP a.toNat 4 he rfl (fx_in (fx_ok_i hy') h2 (by omega)) d ?_
  have e9 : ((Int32.ofInt (0, i).2).toNatClampNeg : Int) = i := by rw [fx_cl (fx_ok_i hy')]; exact Int.toNat_of_nonneg h2
  simp only [e9]
  exact h9
theorem fx_alenI (F : fx_F X M G Λ cc own nL rm) {a : Int} (d : decode cc pc = .ok (.arraylength, 1)) (g : fx_J M G Λ nL (pc + 1) ls ((0, fx_ln Λ a) :: st) h) : fx_J M G Λ nL pc ls ((8 + 2, a) :: st) h := by
  obtain ⟨p, l, e, R, s, m, args, below, meth, c, cells, slots, Q⟩ := M
  obtain ⟨D, cy, ad, ex, A⟩ := G
  obtain ⟨hx, hb, hml, hown, hts, hK, hwf, hA, hRm, hlocks, hcr, hX⟩ := F
  intro hls hst hR H locs la hP hD hS hl
  have hx' := hst _ List.mem_cons_self
  have hr' : ∀ v ∈ st, fx_ok Λ v := fun v hv => hst v (List.mem_cons_of_mem _ hv)
  obtain ⟨h0, h1, hkd⟩ := fx_ok_cell (by omega) hx'
  have he := fx_ws_at (cy := cy) (ad := ad) (h := h) h0 h1
  have hcell : fx_cell cy ad Λ h a = fx_ai (cy 1) Λ h a := by unfold fx_cell; rw [hkd]; rfl
  rw [hcell] at he
  have hw1 := (hwf a h0 h1).1
  have hw2 := (hwf a h0 h1).2.1
  rw [List.map_cons, fx_v_cell (by omega)]
  have hlr : fx_R (fx_ln Λ a) := by unfold fx_R; omega
  refine va_alen hx hb hK hP a.toNat 1 he rfl (v := Int32.ofInt (fx_ln Λ a)) ?_ d (g hls (fx_okc hlr hr') hR H locs la hP hD hS hl)
  show Int32.ofNat (fx_ln Λ a).toNat = _
  refine Int32.toInt_inj.mp ?_
  rw [fx_tR hlr]
  have := nI_toInt (n := (fx_ln Λ a).toNat) (by omega)
  unfold nI at this
  rw [this]
  omega
end FXH
