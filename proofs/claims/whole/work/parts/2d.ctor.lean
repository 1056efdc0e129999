/-! ===== fx: objects that are being made ===== -/
def fx_QcC (D : va_G) (cy : Nat → ClassId) (ad0 ex : Nat → Nat) (n0 : Nat) (A : Nat → Prop) (Λf : fx_L) (ho : fx_H) : Array Value → State → Outcome → State → Prop := fun _ st oc t => (∃ ad' : Nat → Nat, (∀ k, k < n0 → ad' k = ad0 k) ∧ oc = .returned none ∧ va_P D vwCl (fx_ws cy ad' Λf ho) t.heap ∧ va_D A (fx_ws cy ad' Λf ho) ∧ fx_rg ho ∧ fx_wf Λf ∧ fx_bd Λf ∧ n0 ≤ Λf.1) ∧ va_F A st t
def fx_MetC (y : MethodName) (cc : ByteArray) (nL : Nat) (rm : Room) (mc ms : Nat) (Λ : fx_L) (as : List fx_V) (h : fx_H) (Λf : fx_L) (ho : fx_H) : Prop := fx_rg h → (∀ v ∈ as, fx_ok Λ v) → fx_wf Λ → fx_bd Λ → ∀ (l : Launch) (D : va_G) (cy : Nat → ClassId) (ad ex : Nat → Nat) (sz : Nat),
  Met l y (Cond.code y cc nL none :: fx_WS) rm (fx_Pc D cy ad ex Λ as h sz) (fx_QcC D cy ad ex Λ.1 (va_A (fx_ws cy ad Λ h) sz) Λf ho) mc ms (va_A (fx_ws cy ad Λ h) sz)
def fx_FrC (M : fx_M) (D : va_G) (cy : Nat → ClassId) (ex : Nat → Nat) (A : Nat → Prop) (ad0 : Nat → Nat) (n0 mc ms : Nat) (Λf : fx_L) (ho : fx_H) : Prop := match M with
  | (p, l, e, R, s, m, args, below, meth, c, cells, slots, Q) => meth.sig.returnType = none ∧ meth.name = "<init>" ∧ Q = MQ below (fx_QcC D cy ad0 ex n0 A Λf ho) args s mc ms A
theorem fx_FrC_inc {M : fx_M} {D : va_G} {cy : Nat → ClassId} {ex : Nat → Nat} {A : Nat → Prop} {ad0 : Nat → Nat} {n0 mc ms a b : Nat} {Λf : fx_L} {ho : fx_H} (K : fx_FrC M D cy ex A ad0 n0 mc ms Λf ho) : fx_FrC (fx_inc M a b) D cy ex A ad0 n0 mc ms Λf ho := by
  obtain ⟨p, l, e, R, s, m, args, below, meth, c, cells, slots, Q⟩ := M
  exact K
theorem fx_enterC {y : MethodName} {cc : ByteArray} {nL : Nat} {rm : Room} {mc ms : Nat} {Λ : fx_L} {as : List fx_V} {h : fx_H} {Λf : fx_L} {ho : fx_H} {ls : List (Option fx_V)} (hy : plainName y.cls = true) (hyn : y.name = "<init>") (hlen : (fx_lay as).length ≤ nL) (hls : fx_lay as ++ List.replicate (nL - (fx_lay as).length) none = ls)
    (body : ∀ (M : fx_M) (D : va_G) (cy : Nat → ClassId) (ad ex : Nat → Nat) (A : Nat → Prop), fx_FC M D cy ad ex A Λ cc y.cls nL rm 0 0 ad Λ.1 → fx_FrC M D cy ex A ad Λ.1 mc ms Λf ho → fx_J M (D, cy, ad, ex, A) Λ nL 0 ls [] h) : fx_MetC y cc nL rm mc ms Λ as h Λf ho := by
  subst hls
  intro hR hok hwf hbd l D cy ad ex sz
  refine Met.ofW (cc := cc) (maxL := nL) (ret := none) hy rfl ?_
  intro p e s m args below meth c s₁ B hml hv
  obtain ⟨rfl, hsz, hP, hK, hD0, hX⟩ := hv
  have hts := atoms_spec (ws := Cond.code y cc nL none :: fx_WS) B.pre
  have hown : s.vm.findClass y.cls = some m.cls := findClass_of_methodNamed B.named
  have hin : meth.name = "<init>" := by rw [← hyn]; exact (name_of_methodNamed B.named B.method).1
  subst hsz
  have hD := hD0.self (sz := s.heap.size)
  rw [lg_entry_eq]
  have hsub : ∀ (i : Nat) (v : fx_V), (fx_lay as ++ List.replicate (nL - (fx_lay as).length) none)[i]? = some (some v) → (fx_lay as)[i]? = some (some v) := fun i v hi => by
    by_cases hi2 : i < (fx_lay as).length
    · rwa [List.getElem?_append_left hi2] at hi
    · rw [List.getElem?_append_right (by omega)] at hi
      have := List.mem_of_getElem? hi
      rw [List.mem_replicate] at this
      cases this.2
  have hen := lv_entry (as.map (fx_v ad ex)) (n := nL) (by rw [fx_lay_len]; exact hlen)
  exact body (p, l, e, rm, s, m, _, below, meth, c, 0, 0, _) D cy ad ex (va_A (fx_ws cy ad Λ h) s.heap.size) ⟨⟨B.exec, B.bytes, hml, hown, fun w hw => hts w (List.mem_cons_of_mem _ hw), hK, hwf, fun q hq => Or.inr hq, rfl, B.notSynchronized, ⟨Nat.zero_le _, Nat.zero_le _⟩, hX⟩, hbd, ⟨rfl, rfl⟩, fun _ _ => rfl, Nat.le_refl _⟩ ⟨B.returns, hin, rfl⟩
    (fun i v hi => hok v (fx_lay_args ad ex as 0 i v (hsub i v hi)).2) (fun v hv => by cases hv) hR s.heap [] _ hP hD va_S.rf ⟨hen.1, hen.2.1, fun i v hi => by
      have := hen.2.2 _ (fx_lay_args ad ex as 0 i v (hsub i v hi)).1
      simpa using this⟩
theorem fx_cell_objU {cy : Nat → ClassId} {ad : Nat → Nat} {Λ : fx_L} {h : fx_H} {a : Int} {ci : Nat} (hk : fx_kd Λ a = 12 + ci) (h7 : ci < 7) : fx_cell cy ad Λ h a = .inr (ci, fx_fs ad Λ h a (fx_ft ci)) := by
  unfold fx_cell
  rw [hk]
  match ci, h7 with
  | 0, _ | 1, _ | 2, _ | 3, _ | 4, _ | 5, _ | 6, _ => rfl
theorem fx_wf_stg {Λ : fx_L} {a i b : Int} (hwf : fx_wf Λ) (hk : 12 ≤ fx_kd Λ a) : fx_wf (fx_stg Λ a i b) := by
  intro x h0 h1
  by_cases hx : x = a
  · subst hx
    obtain ⟨w1, w2, -⟩ := hwf x h0 h1
    exact ⟨w1, w2, fun q => absurd (show fx_kd Λ x < 7 from q) (by omega), fun q => absurd (show fx_kd Λ x = 10 from q) (by omega), fun q => absurd (show fx_kd Λ x = 11 from q) (by omega)⟩
  · have et : ∀ j, fx_tg (fx_stg Λ a i b) x j = fx_tg Λ x j := fun j => by show (if x = a ∧ j = i then b else fx_tg Λ x j) = _; rw [if_neg (fun z => hx z.1)]
    obtain ⟨w1, w2, w3, w4, w5⟩ := hwf x h0 h1
    exact ⟨w1, w2, fun q j k hj => by rw [et]; exact w3 q j k hj, fun q j i1 i2 => by rw [et]; exact w4 q j i1 i2, fun q j i1 i2 => by rw [et]; exact w5 q j i1 i2⟩
theorem fx_bd_stg {Λ : fx_L} {a i b : Int} (hbd : fx_bd Λ) (hb : b < Λ.1) : fx_bd (fx_stg Λ a i b) := by
  intro x j h0 h1
  show (if x = a ∧ j = i then b else fx_tg Λ x j) < (Λ.1 : Int)
  split
  · exact hb
  · exact hbd x j h0 h1
theorem fx_ws_stg {cy : Nat → ClassId} {ad : Nat → Nat} {Λ : fx_L} {h : fx_H} {a i b : Int} {e : va_E} (h0 : 0 ≤ a) (he : fx_cell cy ad (fx_stg Λ a i b) h a = e) : (fx_ws cy ad Λ h).set a.toNat (ad a.toNat, e) = fx_ws cy ad (fx_stg Λ a i b) h := by
  subst he
  have := fx_map_set Λ.1 a.toNat (fun k : Nat => (ad k, fx_cell cy ad Λ h k)) (fun k : Nat => (ad k, fx_cell cy ad (fx_stg Λ a i b) h k)) (fun k hk => by
    show (ad k, fx_cell cy ad (fx_stg Λ a i b) h k) = (ad k, fx_cell cy ad Λ h k)
    congr 1
    refine fx_cell_congr rfl rfl (fun _ => rfl) (fun j => ?_)
    have : fx_tg (fx_stg Λ a i b) k j = fx_tg Λ k j := by show (if (k : Int) = a ∧ j = i then b else fx_tg Λ k j) = _; rw [if_neg (fun z => hk (by omega))]
    rw [this])
  rw [Int.toNat_of_nonneg h0] at this
  exact this
theorem fx_FC_lay {M : fx_M} {D : va_G} {cy : Nat → ClassId} {ad ex ad0 : Nat → Nat} {A : Nat → Prop} {Λ Λ' : fx_L} {cc : ByteArray} {own : String} {nL c n n0 : Nat} {rm : Room} (F : fx_FC M D cy ad ex A Λ cc own nL rm c n ad0 n0) (hn : Λ'.1 = Λ.1) (hwf : fx_wf Λ') (hbd : fx_bd Λ') : fx_FC M D cy ad ex A Λ' cc own nL rm c n ad0 n0 := by
  obtain ⟨p, l, e, R, s, m, args, below, meth, cd, cells, slots, Q⟩ := M
  obtain ⟨⟨hx, hb, hml, hown, hts, hK, hwf0, hA, hRm, hlocks, hcr, hX⟩, hbd0, hcs, hext, hn0⟩ := F
  exact ⟨⟨hx, hb, hml, hown, hts, hK, hwf, hA, hRm, hlocks, hcr, hX⟩, hbd, hcs, hext, by rw [hn]; exact hn0⟩
section FXK
variable {M : fx_M} {D : va_G} {cy : Nat → ClassId} {ad ex ad0 : Nat → Nat} {A : Nat → Prop} {Λ : fx_L} {cc : ByteArray} {own : String} {nL pc c n n0 mc ms : Nat} {rm : Room} {ls : List (Option fx_V)} {st : List fx_V} {h : fx_H} {Λf : fx_L} {hof : fx_H}
theorem fx_vretC (F : fx_FC M D cy ad ex A Λ cc own nL rm mc ms ad0 n0) (K : fx_FrC M D cy ex A ad0 n0 mc ms Λ h) (d : decode cc pc = .ok (.return_, 1)) : fx_J M (D, cy, ad, ex, A) Λ nL pc ls [] h := by
  obtain ⟨p, l, e, R, s, m, args, below, meth, cd, cells, slots, Q⟩ := M
  obtain ⟨⟨hx, hb, hml, hown, hts, hK, hwf, hA, hRm, hlocks, hcr, hX⟩, hbd, hcs, hext, hn0⟩ := F
  obtain ⟨rfl, rfl⟩ := hcs
  intro hls hst hR H locs la hP hD hS hl
  obtain ⟨hrt, -, hQ⟩ := K
  subst hQ
  exact W.vret hx hb hrt (fun t ht _ => ⟨⟨ad, hext, rfl, by rw [ht]; exact hP, hD, hR, hwf, hbd, hn0⟩, hS.F ht⟩) hS.2.2 d hlocks
theorem fx_putF (F : fx_FC M D cy ad ex A Λ cc own nL rm c n ad0 n0) (K : fx_FrC M D cy ex A ad0 n0 mc ms Λf hof) {a b : Int} {C : String} {T : u_T} {N index : Nat} (ci k kb : Nat) (kz : Int) (hz : (k : Int) = kz) (hC : fx_cls ci C T N) (hkb : kb < 60) (ht : ∃ r, (fx_ft ci)[k]? = some (r + 2)) (hfin : (T k).2.2.2 = true) (hdecl : (T k).1 = own) {ty : FieldType} (hd : parseFieldDescriptor (T k).2.2.1 = some ty) (hnar : ∀ q, narrow ty (.ref q) = .ref q ∧ fits ty (.ref q) = true) (lk : Cond.fieldLink own index (T k).1 (T k).2.1 (T k).2.2.1 ∈ fx_WS) (d : decode cc pc = .ok (.putfield index, 3)) (g : fx_FC M D cy ad ex A (fx_stg Λ a kz b) cc own nL rm c n ad0 n0 → fx_J M (D, cy, ad, ex, A) (fx_stg Λ a kz b) nL (pc + 3) ls st h) : fx_J M (D, cy, ad, ex, A) Λ nL pc ls ((kb + 2, b) :: (12 + ci + 2, a) :: st) h := by
  subst hz
  obtain ⟨p, l, e, R, s, m, args, below, meth, cd, cells, slots, Q⟩ := M
  have F' := F
  obtain ⟨⟨hx, hb, hml, hown, hts, hK, hwf, hA, hRm, hlocks, hcr, hX⟩, hbd, hcs, hext, hn0⟩ := F
  obtain ⟨hrt, hin2, hQ⟩ := K
  intro hls hst hR H locs la hP hD hS hl
  have hz' := hst _ List.mem_cons_self
  have hx' := hst _ (List.mem_cons_of_mem _ List.mem_cons_self)
  have hr' : ∀ v ∈ st, fx_ok Λ v := fun v hv => hst v (List.mem_cons_of_mem _ (List.mem_cons_of_mem _ hv))
  obtain ⟨hc, h7, hN, hlen, hin, ⟨ty0, hty⟩, hnm⟩ := hC
  obtain ⟨r, ht⟩ := ht
  obtain ⟨h0, h1, hkd⟩ := fx_ok_cell (by omega) hx'
  obtain ⟨b0, b1, hkb'⟩ := fx_ok_cell hkb hz'
  have hk : k < N := by rw [← hlen]; exact (List.getElem?_eq_some_iff.mp ht).1
  have he := fx_ws_at (cy := cy) (ad := ad) (h := h) h0 h1
  rw [fx_cell_objU hkd h7] at he
  rw [List.map_cons, List.map_cons, fx_v_cell hkb, fx_v_cell (by omega)]
  refine va_putF (C := C) (T := T) (N := N) hx hb hts hin ty0 hty hnm hown hK hP hD hS a.toNat he hc k hk (hts _ lk) (fun _ q => q) hfin hin2 hdecl hd (hnar _).1 (hnar _).2 (by rw [fx_fs_len, hlen]; exact hk) d (fun H1 locs1 hP1 hD1 hS1 => ?_)
  have hcell : fx_cell cy ad (fx_stg Λ a k b) h a = .inr (ci, (fx_fs ad Λ h a (fx_ft ci)).set k (.ref (ad b.toNat))) := by
    rw [fx_cell_objU (show fx_kd (fx_stg Λ a k b) a = 12 + ci from hkd) h7]
    congr 2
    apply List.ext_getElem?
    intro j
    rw [List.getElem?_set]
    have et : ∀ i : Nat, fx_tg (fx_stg Λ a k b) a i = if i = k then b else fx_tg Λ a i := fun i => by
      show (if a = a ∧ (i : Int) = (k : Int) then b else fx_tg Λ a i) = _
      by_cases hik : i = k
      · rw [if_pos ⟨rfl, by omega⟩, if_pos hik]
      · rw [if_neg (fun z => hik (by omega)), if_neg hik]
    by_cases hj : k = j
    · subst hj
      rw [if_pos rfl, if_pos (by rw [fx_fs_len, hlen]; exact hk), fx_fs_at ht]
      show some (va_rf (fx_ro ad (fx_tg (fx_stg Λ a k b) a k))) = _
      rw [et, if_pos rfl, fx_ro_pos b0]
      rfl
    · rw [if_neg hj]
      unfold fx_fs
      rw [List.getElem?_map, List.getElem?_map]
      by_cases hjl : j < (fx_ft ci).length
      · rw [List.getElem?_range hjl]
        simp only [Option.map_some, Option.some.injEq]
        unfold fx_fv
        split
        · rfl
        · rfl
        · rw [et, if_neg (fun z => hj z.symm)]
      · rw [List.getElem?_eq_none (by simpa using hjl)]
        rfl
  rw [fx_ws_stg h0 hcell] at hP1 hD1
  have hwf' : fx_wf (fx_stg Λ a k b) := fx_wf_stg hwf (by omega)
  have hbd' : fx_bd (fx_stg Λ a k b) := fx_bd_stg hbd (by omega)
  exact g (fx_FC_lay F' rfl hwf' hbd') (fun i v hi => fx_ok_mono (Λ := Λ) (Nat.le_refl _) (fun _ _ _ => rfl) (hls i v hi)) (fun v hv => fx_ok_mono (Λ := Λ) (Nat.le_refl _) (fun _ _ _ => rfl) (hr' v hv)) hR H1 locs1 la hP1 hD1 hS1 hl
theorem fx_putU (F : fx_FC M D cy ad ex A Λ cc own nL rm c n ad0 n0) {a : Int} {C : String} {T : u_T} {N index : Nat} (ci k t : Nat) (kz : Int) (hz : (t = 0 ∧ (k : Int) = kz) ∨ (t = 1 ∧ 1000000 + (k : Int) = kz)) (hC : fx_cls ci C T N) (ht : (fx_ft ci)[k]? = some t) (hfin : (T k).2.2.2 = false) (hd : parseFieldDescriptor (T k).2.2.1 = some (match t with | 0 => .int | _ => .long)) (lk : Cond.fieldLink own index (T k).1 (T k).2.1 (T k).2.2.1 ∈ fx_WS) {x : Int} (d : decode cc pc = .ok (.putfield index, 3)) (g : fx_J M (D, cy, ad, ex, A) Λ nL (pc + 3) ls st (fx_up h a kz x)) : fx_J M (D, cy, ad, ex, A) Λ nL pc ls ((t, x) :: (12 + ci + 2, a) :: st) h := by
  obtain ⟨p, l, e, R, s, m, args, below, meth, cd, cells, slots, Q⟩ := M
  obtain ⟨⟨hx, hb, hml, hown, hts, hK, hwf, hA, hRm, hlocks, hcr, hX⟩, hbd, hcs, hext, hn0⟩ := F
  intro hls hst hR H locs la hP hD hS hl
  have hz' := hst _ List.mem_cons_self
  have hx' := hst _ (List.mem_cons_of_mem _ List.mem_cons_self)
  have hr' : ∀ v ∈ st, fx_ok Λ v := fun v hv => hst v (List.mem_cons_of_mem _ (List.mem_cons_of_mem _ hv))
  obtain ⟨hc, h7, hN, hlen, hin, ⟨ty0, hty⟩, hnm⟩ := hC
  obtain ⟨h0, h1, hkd⟩ := fx_ok_cell (by omega) hx'
  have hk : k < N := by rw [← hlen]; exact (List.getElem?_eq_some_iff.mp ht).1
  have he := fx_ws_at (cy := cy) (ad := ad) (h := h) h0 h1
  rw [fx_cell_objU hkd h7] at he
  rw [List.map_cons, List.map_cons, fx_v_cell (by omega)]
  have hg : (fx_ft ci).getD k 0 = t := by simp [List.getD, ht]
  rcases hz with ⟨rfl, rfl⟩ | ⟨rfl, rfl⟩
  · refine va_put (C := C) (T := T) (N := N) (v := .int (Int32.ofInt x)) hx hb hts hin ty0 hty hnm hown hK hP hD hS a.toNat he hc k hk (hts _ lk) (fun _ q => q) hfin hd rfl rfl (by rw [fx_fs_len, hlen]; exact hk) d (fun H1 locs1 hP1 hD1 hS1 => ?_)
    have hcell : fx_cell cy ad Λ (fx_up h a k x) a = .inr (ci, (fx_fs ad Λ h a (fx_ft ci)).set k (.int (Int32.ofInt x))) := by
      rw [fx_cell_objU hkd h7]
      congr 2
      refine (fx_fs_set ?_ (fun k' hk' => ?_)).symm
      · rw [hg]
        simp [fx_fv, fx_up]
      · by_cases hq : (fx_ft ci).length ≤ k'
        · exact Or.inr (Or.inr hq)
        · exact Or.inl ⟨by omega, by omega⟩
    rw [fx_ws_set h0 hcell] at hP1 hD1
    exact g hls hr' (fx_up_rg hR (fx_ok_i hz')) H1 locs1 la hP1 hD1 hS1 hl
  · refine va_put (C := C) (T := T) (N := N) (v := .long (Int64.ofInt x)) hx hb hts hin ty0 hty hnm hown hK hP hD hS a.toNat he hc k hk (hts _ lk) (fun _ q => q) hfin hd rfl rfl (by rw [fx_fs_len, hlen]; exact hk) d (fun H1 locs1 hP1 hD1 hS1 => ?_)
    have hcell : fx_cell cy ad Λ (fx_up h a (1000000 + k) x) a = .inr (ci, (fx_fs ad Λ h a (fx_ft ci)).set k (.long (Int64.ofInt x))) := by
      rw [fx_cell_objU hkd h7]
      congr 2
      refine (fx_fs_set ?_ (fun k' hk' => ?_)).symm
      · rw [hg]
        simp [fx_fv, fx_up]
      · by_cases hq : (fx_ft ci).length ≤ k'
        · exact Or.inr (Or.inr hq)
        · exact Or.inl ⟨by omega, by omega⟩
    rw [fx_ws_set h0 hcell] at hP1 hD1
    exact g hls hr' (fx_up_rgl hR (by omega) (fx_ok_l hz')) H1 locs1 la hP1 hD1 hS1 hl
theorem fx_objI (F : fx_FC M D cy ad ex A Λ cc own nL rm c n ad0 n0) {a : Int} {k index : Nat} (hk : k < 60) (lk : Cond.methodLink own index objectInit ∈ fx_WS) (l2 : Cond.instanceMethod objectInit ∈ fx_WS) (l3 : Cond.code objectInit ⟨#[0xb1]⟩ 1 none ∈ fx_WS) (hf1 : 1 ≤ rm.frames) (hf2 : fx_c8 st + 12 ≤ rm.locals) (d : decode cc pc = .ok (.invokespecial index, 3)) (g : fx_J M (D, cy, ad, ex, A) Λ nL (pc + 3) ls st h) : fx_J M (D, cy, ad, ex, A) Λ nL pc ls ((k + 2, a) :: st) h := by
  obtain ⟨p, l, e, R, s, m, args, below, meth, cd, cells, slots, Q⟩ := M
  obtain ⟨⟨hx, hb, hml, hown, hts, hK, hwf, hA, hRm, hlocks, hcr, hX⟩, hbd, hcs, hext, hn0⟩ := F
  subst hRm
  intro hls hst hR H locs la hP hD hS hl
  have hr' : ∀ v ∈ st, fx_ok Λ v := fun v hv => hst v (List.mem_cons_of_mem _ hv)
  rw [List.map_cons, fx_v_cell hk]
  exact W.objInit hx hb hown (hts _ lk) (hts _ l2) (hts _ l3) rfl (hl.1.trans hml.symm) rfl d hf1 (by show 2 * 0 + _ + 12 ≤ _; rw [fx_c8_le]; omega) (g hls hr' hR H locs la hP hD hS hl)
end FXK
