/-! ===== fx: String constants: (62, 10 + i) is the text, (62, 20 + i) its bytes ===== -/
def fx_sN (w : Int) : Nat := fx_sl.getD (w - 10).toNat 0
def fx_sB (w k : Int) : Int := ((fx_sb.getD (w - 10).toNat []).getD k.toNat 0).toInt
def fx_slen (w : Int) : Option Int := if 10 ≤ w ∧ w < 18 then some (fx_sN w : Int) else none
def fx_sch (w k : Int) : Option Int := if (10 ≤ w ∧ w < 18) ∧ 0 ≤ k ∧ k < (fx_sN w : Int) then some (fx_sB w k) else none
def fx_c (x : Int) : Int := ((Int32.ofInt x).toUInt32 % 65536).toInt32.toInt
theorem fx_sB_ok {w k : Int} (h1 : 10 ≤ w ∧ w < 18) (h2 : 0 ≤ k ∧ k < (fx_sN w : Int)) : fx_iand (fx_sB w k) 255 = fx_sB w k ∧ fx_c (fx_sB w k) = fx_sB w k ∧ (0 ≤ fx_sB w k ∧ fx_sB w k ≤ 127) := by
  unfold fx_sB fx_sN at *
  have hi : (w - 10).toNat < 8 := by omega
  generalize (w - 10).toNat = i at *
  have hk : k.toNat < fx_sl.getD i 0 := by omega
  generalize k.toNat = j at *
  have hall : ∀ i, i < 8 → ∀ j, j < fx_sl.getD i 0 → fx_iand ((fx_sb.getD i []).getD j 0).toInt 255 = ((fx_sb.getD i []).getD j 0).toInt ∧ fx_c ((fx_sb.getD i []).getD j 0).toInt = ((fx_sb.getD i []).getD j 0).toInt ∧ (0 ≤ ((fx_sb.getD i []).getD j 0).toInt ∧ ((fx_sb.getD i []).getD j 0).toInt ≤ 127) := by decide +kernel
  exact hall i hi j hk
theorem fx_sN_le (w : Int) (h1 : 10 ≤ w ∧ w < 18) : fx_sN w ≤ 6 := by
  unfold fx_sN
  have hi : (w - 10).toNat < 8 := by omega
  generalize (w - 10).toNat = i at *
  have hall : ∀ i, i < 8 → fx_sl.getD i 0 ≤ 6 := by decide +kernel
  exact hall i hi
section FXS
variable {M : fx_M} {G : fx_G} {Λ : fx_L} {cc : ByteArray} {own : String} {nL pc : Nat} {rm : Room} {ls : List (Option fx_V)} {st : List fx_V} {h : fx_H}
theorem fx_ex20 {ad ex : Nat → Nat} {x : Int} : fx_v ad ex (62, x) = .ref (ex x.toNat) := rfl
theorem fx_sval (F : fx_F fx_X M G Λ cc own nL rm) {w : Int} {index : Nat} (hw : 10 ≤ w ∧ w < 18) (lk : Cond.fieldLink own index "java/lang/String" "value" "[B" ∈ fx_WS) (d : decode cc pc = .ok (.getfield index, 3)) (g : fx_J M G Λ nL (pc + 3) ls ((62, w + 10) :: st) h) : fx_J M G Λ nL pc ls ((62, w) :: st) h := by
  obtain ⟨p, l, e, R, s, m, args, below, meth, c, cells, slots, Q⟩ := M
  obtain ⟨D, cy, ad, ex, A⟩ := G
  obtain ⟨hx, hb, hml, hown, hts, hK, hwf, hA, hRm, hlocks, hcr, hX⟩ := F
  intro hls hst hR H locs la hP hD hS hl
  have hr' : ∀ v ∈ st, fx_ok Λ v := fun v hv => hst v (List.mem_cons_of_mem _ hv)
  have hE := (hX.2.2.2.2.2.2.1.1 (w - 10).toNat (by omega)).2.2.1
  have h9 := g hls (fx_okc trivial hr') hR H locs la hP hD hS hl
  rw [List.map_cons, fx_ex20, show (w + 10).toNat = 20 + (w - 10).toNat by omega] at h9
  rw [List.map_cons, fx_ex20, show w.toNat = 10 + (w - 10).toNat by omega]
  exact vk_getf hx hb hE hS hown (hts _ lk) (fun _ q => q) d h9
theorem fx_scod (F : fx_F fx_X M G Λ cc own nL rm) {w : Int} {index : Nat} (hw : 10 ≤ w ∧ w < 18) (lk : Cond.fieldLink own index "java/lang/String" "coder" "B" ∈ fx_WS) (d : decode cc pc = .ok (.getfield index, 3)) (g : fx_J M G Λ nL (pc + 3) ls ((0, 0) :: st) h) : fx_J M G Λ nL pc ls ((62, w) :: st) h := by
  obtain ⟨p, l, e, R, s, m, args, below, meth, c, cells, slots, Q⟩ := M
  obtain ⟨D, cy, ad, ex, A⟩ := G
  obtain ⟨hx, hb, hml, hown, hts, hK, hwf, hA, hRm, hlocks, hcr, hX⟩ := F
  intro hls hst hR H locs la hP hD hS hl
  have hr' : ∀ v ∈ st, fx_ok Λ v := fun v hv => hst v (List.mem_cons_of_mem _ hv)
  have hE := (hX.2.2.2.2.2.2.1.1 (w - 10).toNat (by omega)).2.1
  have h9 := g hls (fx_okc (show fx_R 0 from ⟨by decide, by decide⟩) hr') hR H locs la hP hD hS hl
  rw [List.map_cons, fx_ex20, show w.toNat = 10 + (w - 10).toNat by omega]
  exact vk_getf hx hb hE hS hown (hts _ lk) (fun _ q => q) d h9
theorem fx_getC (F : fx_F fx_X M G Λ cc own nL rm) {index : Nat} (lk : Cond.fieldLink own index "java/lang/String" "COMPACT_STRINGS" "Z" ∈ fx_WS) (d : decode cc pc = .ok (.getstatic index, 3)) (g : fx_J M G Λ nL (pc + 3) ls ((0, 1) :: st) h) : fx_J M G Λ nL pc ls st h := by
  obtain ⟨p, l, e, R, s, m, args, below, meth, c, cells, slots, Q⟩ := M
  obtain ⟨D, cy, ad, ex, A⟩ := G
  obtain ⟨hx, hb, hml, hown, hts, hK, hwf, hA, hRm, hlocks, hcr, hX⟩ := F
  intro hls hst hR H locs la hP hD hS hl
  exact va_gets hx hb hX.2.2.2.2.1 hS hown (hts _ lk) (fun _ q => q) d (g hls (fx_okc (show fx_R 1 from ⟨by decide, by decide⟩) hst) hR H locs la hP hD hS hl)
theorem fx_getQ (F : fx_F fx_X M G Λ cc own nL rm) {index : Nat} (lk : Cond.fieldLink own index "jdk/internal/util/Preconditions" "SIOOBE_FORMATTER" "Ljava/util/function/BiFunction;" ∈ fx_WS) (d : decode cc pc = .ok (.getstatic index, 3)) (g : fx_J M G Λ nL (pc + 3) ls ((64, 0) :: st) h) : fx_J M G Λ nL pc ls st h := by
  obtain ⟨p, l, e, R, s, m, args, below, meth, c, cells, slots, Q⟩ := M
  obtain ⟨D, cy, ad, ex, A⟩ := G
  obtain ⟨hx, hb, hml, hown, hts, hK, hwf, hA, hRm, hlocks, hcr, hX⟩ := F
  intro hls hst hR H locs la hP hD hS hl
  exact va_gets hx hb hX.2.2.2.2.2.1 hS hown (hts _ lk) (fun _ q => q) d (g hls (fx_okc trivial hst) hR H locs la hP hD hS hl)
theorem fx_xlen (F : fx_F fx_X M G Λ cc own nL rm) {w : Int} (hw : 10 ≤ w ∧ w < 18) (d : decode cc pc = .ok (.arraylength, 1)) (g : fx_J M G Λ nL (pc + 1) ls ((0, (fx_sN w : Int)) :: st) h) : fx_J M G Λ nL pc ls ((62, w + 10) :: st) h := by
  obtain ⟨p, l, e, R, s, m, args, below, meth, c, cells, slots, Q⟩ := M
  obtain ⟨D, cy, ad, ex, A⟩ := G
  obtain ⟨hx, hb, hml, hown, hts, hK, hwf, hA, hRm, hlocks, hcr, hX⟩ := F
  intro hls hst hR H locs la hP hD hS hl
  have hr' : ∀ v ∈ st, fx_ok Λ v := fun v hv => hst v (List.mem_cons_of_mem _ hv)
  have hT := (hX.2.2.2.2.2.2.1.1 (w - 10).toNat (by omega)).2.2.2
  have h6 := fx_sN_le w hw
  have hRr : fx_R (fx_sN w : Int) := ⟨by omega, by omega⟩
  have h9 := g hls (fx_okc hRr hr') hR H locs la hP hD hS hl
  rw [List.map_cons, fx_ex20, show (w + 10).toNat = 20 + (w - 10).toNat by omega]
  refine va_tlen hx hb hT hS (v := Int32.ofInt (fx_sN w : Int)) ?_ d h9
  refine Int32.toInt_inj.mp ?_
  rw [fx_tR hRr]
  exact nI_toInt (n := fx_sN w) (by omega)
theorem fx_xald (F : fx_F fx_X M G Λ cc own nL rm) {w k : Int} (hw : 10 ≤ w ∧ w < 18) (hk : 0 ≤ k ∧ k < (fx_sN w : Int)) (d : decode cc pc = .ok (.baload, 1)) (g : fx_J M G Λ nL (pc + 1) ls ((0, fx_sB w k) :: st) h) : fx_J M G Λ nL pc ls ((0, k) :: (62, w + 10) :: st) h := by
  obtain ⟨p, l, e, R, s, m, args, below, meth, c, cells, slots, Q⟩ := M
  obtain ⟨D, cy, ad, ex, A⟩ := G
  obtain ⟨hx, hb, hml, hown, hts, hK, hwf, hA, hRm, hlocks, hcr, hX⟩ := F
  intro hls hst hR H locs la hP hD hS hl
  have hy' := hst _ List.mem_cons_self
  have hr' : ∀ v ∈ st, fx_ok Λ v := fun v hv => hst v (List.mem_cons_of_mem _ (List.mem_cons_of_mem _ hv))
  have hT := (hX.2.2.2.2.2.2.1.1 (w - 10).toNat (by omega)).2.2.2
  have hir := fx_ok_i hy'
  have h9 := g hls (fx_okc (fx_toInt_R _) hr') hR H locs la hP hD hS hl
  rw [List.map_cons, List.map_cons, fx_ex20, show (w + 10).toNat = 20 + (w - 10).toNat by omega]
  refine va_tb hx hb hT hS (fx_in hir hk.1 hk.2) (v := fx_v ad ex (0, fx_sB w k)) ?_ d h9
  rw [fx_cl hir]
  show Value.int _ = Value.int (Int32.ofInt (fx_sB w k))
  unfold fx_sB
  rw [fx_of_toInt]
theorem fx_rishr0 (F : fx_F fx_X M G Λ cc own nL rm) {x : Int} (d : decode cc pc = .ok (.ishr, 1)) (g : fx_J M G Λ nL (pc + 1) ls ((0, x) :: st) h) : fx_J M G Λ nL pc ls ((0, 0) :: (0, x) :: st) h := by
  obtain ⟨p, l, e, R, s, m, args, below, meth, c, cells, slots, Q⟩ := M
  obtain ⟨D, cy, ad, ex, A⟩ := G
  obtain ⟨hx, hb, hml, hown, hts, hK, hwf, hA, hRm, hlocks, hcr, hX⟩ := F
  intro hls hst hR H locs la hP hD hS hl
  have hx' := hst _ (List.mem_cons_of_mem _ List.mem_cons_self)
  have hr' : ∀ v ∈ st, fx_ok Λ v := fun v hv => hst v (List.mem_cons_of_mem _ (List.mem_cons_of_mem _ hv))
  have h9 := g hls (fx_okc hx' hr') hR H locs la hP hD hS hl
  refine lv_ishr hx hb d ?_
  have e0 : Int32.ofInt x >>> ((Int32.ofInt 0) &&& 31) = Int32.ofInt x := by
    refine Int32.toInt_inj.mp ?_
    have := pk_shr (Int32.ofInt x) ((Int32.ofInt 0) &&& 31) 0 (by decide)
    rw [this]
    simp
  have h10 := h9
  rw [List.map_cons] at h10
  first
    | (show W p l e R s m args below meth c H locs cells slots Q (F0 m (pc + 1) la (.int (Int32.ofInt x >>> ((Int32.ofInt 0) &&& 31)) :: st.map (fx_v ad ex))); rw [e0]; exact h10)
    | exact h10
theorem fx_ri2c (F : fx_F fx_X M G Λ cc own nL rm) {x : Int} (d : decode cc pc = .ok (.i2c, 1)) (g : fx_J M G Λ nL (pc + 1) ls ((0, fx_c x) :: st) h) : fx_J M G Λ nL pc ls ((0, x) :: st) h := by
  obtain ⟨p, l, e, R, s, m, args, below, meth, c, cells, slots, Q⟩ := M
  obtain ⟨D, cy, ad, ex, A⟩ := G
  obtain ⟨hx, hb, hml, hown, hts, hK, hwf, hA, hRm, hlocks, hcr, hX⟩ := F
  intro hls hst hR H locs la hP hD hS hl
  have hr' : ∀ v ∈ st, fx_ok Λ v := fun v hv => hst v (List.mem_cons_of_mem _ hv)
  exact lv_i2c hx hb d (by unfold fx_c; rw [fx_of_toInt]) (g hls (fx_okc (fx_toInt_R _) hr') hR H locs la hP hD hS hl)
theorem fx_pop (F : fx_F fx_X M G Λ cc own nL rm) {v : fx_V} (hv : v.1 ≠ 1) (d : decode cc pc = .ok (.pop, 1)) (g : fx_J M G Λ nL (pc + 1) ls st h) : fx_J M G Λ nL pc ls (v :: st) h := by
  obtain ⟨p, l, e, R, s, m, args, below, meth, c, cells, slots, Q⟩ := M
  obtain ⟨D, cy, ad, ex, A⟩ := G
  obtain ⟨hx, hb, hml, hown, hts, hK, hwf, hA, hRm, hlocks, hcr, hX⟩ := F
  intro hls hst hR H locs la hP hD hS hl
  exact lv_pop hx hb d (fx_cat1 ad ex hv) (g hls (fun v hv => hst v (List.mem_cons_of_mem _ hv)) hR H locs la hP hD hS hl)
theorem fx_treturn (F : fx_F fx_X M G Λ cc own nL rm) {x : Int} {ty : FieldType} (hn : narrow ty (.int (Int32.ofInt x)) = .int (Int32.ofInt x)) (K : fx_Fr M G Λ (some ty) (some (0, x)) h) (d : decode cc pc = .ok (.ireturn, 1)) : fx_J M G Λ nL pc ls [(0, x)] h := by
  obtain ⟨p, l, e, R, s, m, args, below, meth, c, cells, slots, Q⟩ := M
  obtain ⟨D, cy, ad, ex, A⟩ := G
  obtain ⟨hx, hb, hml, hown, hts, hK, hwf, hA, hRm, hlocks, hcr, hX⟩ := F
  intro hls hst hR H locs la hP hD hS hl
  obtain ⟨hrt, hQ⟩ := K
  subst hQ
  exact W.zret hx hb hrt hn (fun t ht _ => ⟨⟨rfl, by rw [ht]; exact hP, hD, hR, fun v hv => by cases hv; exact hst _ List.mem_cons_self⟩, hS.F ht⟩) hS.2.2 d hlocks
theorem fx_cX (F : fx_F fx_X M G Λ cc own nL rm) {y : MethodName} {cc' : ByteArray} {nL' index : Nat} {ret : Option FieldType} {rm' : Room} (as : List fx_V) (w : Int) (hw : 10 ≤ w ∧ w < 18) (st : List fx_V) {v : fx_V} {ho : fx_H} (hM : fx_Met y cc' nL' ret rm' Λ ((62, w) :: as) h (some v) ho) (hd : fx_md y cc' nL' ret as.length) (hi : fx_mi y) (hyC : y.cls = "java/lang/String") (lk : Cond.methodLink own index y ∈ fx_WS) (hrm : rm'.cells = 0 ∧ rm'.slots = 0) (hRR : rm'.frames + 1 ≤ rm.frames ∧ 8 + (nL' + 11) + rm'.locals ≤ rm.locals) (hc8 : fx_c8 st ≤ 8) {stk : List fx_V} (hstk : stk = as.reverse ++ (62, w) :: st) (d : decode cc pc = .ok (.invokevirtual index, 3)) (g : fx_J M G Λ nL (pc + 3) ls (v :: st) ho) : fx_J M G Λ nL pc ls stk h := by
  subst hstk
  obtain ⟨p, l, e, R, s, m, args, below, meth, c, cells, slots, Q⟩ := M
  obtain ⟨D, cy, ad, ex, A⟩ := G
  obtain ⟨hx, hb, hml, hown, hts, hK, hwf, hA, hRm, hlocks, hcr, hX⟩ := F
  intro hls hst hR H locs la hP hD hS hl
  subst hRm
  have hbok : fx_ok Λ (62, w) := trivial
  have has : ∀ v ∈ as, fx_ok Λ v := fun v hv => hst v (List.mem_append_left _ (List.mem_reverse.mpr hv))
  have hr' : ∀ v ∈ st, fx_ok Λ v := fun v hv => hst v (List.mem_append_right _ (List.mem_cons_of_mem _ hv))
  have hM' := hM hR (fx_okc hbok has) hwf l D cy ad ex H.size
  have hbv : fx_v ad ex (62, w) = .ref (ex (10 + (w - 10).toNat)) := by rw [fx_ex20, show w.toNat = 10 + (w - 10).toNat by omega]
  have hcB : CallB R s args own index y cc' nL' ret (Cond.code y cc' nL' ret :: fx_WS) rm' 0 0 as.length := callB_of as.length hts (fx_goodm hd) rfl hrm.1 hrm.2 (hts _ hd.2.2) (hts _ lk) hd.1 hRR
  have hpre := fx_pre (as := (62, w) :: as) hK hP hD hS hA hX
  rw [List.map_cons, hbv] at hpre
  rw [List.map_append, List.map_reverse, List.map_cons, hbv]
  have hrecv := vk_recv hX.2.2.2.2.2.2.1 (i := (w - 10).toNat) (by omega) hS
  refine fx_after (va_runV (C := y.cls) (As := as.map (fx_v ad ex)) (rest := st.map (fx_v ad ex)) ⟨hx, hb, hml, hown, hts⟩ hM' ⟨hcB, hts _ hi.1, hts _ hi.2⟩ ⟨fx_blind, by rw [hyC]; exact hrecv, hpre⟩ rfl (by simp) hl.1 rfl (lv_room (by rw [fx_c8_le]; exact hc8)) d hcr) hD hS hA (fun H1 locs1 hP1 hD1 hS1 hR1 hO1 => ?_)
  rw [← fx_mapr]
  exact g hls (fx_okr hO1 hr') hR1 H1 locs1 la hP1 hD1 hS1 hl
theorem fx_ldcS (F : fx_F fx_X M G Λ cc RX3 nL rm) {index : Nat} (i : Nat) (w : Int) (hw : w = 10 + (i : Int)) (hi : i < 8) (hix : fx_si.getD i 0 = index) (d : decode cc pc = .ok (.ldc index, 2)) (g : fx_J M G Λ nL (pc + 2) ls ((62, w) :: st) h) : fx_J M G Λ nL pc ls st h := by
  obtain ⟨p, l, e, R, s, m, args, below, meth, c, cells, slots, Q⟩ := M
  obtain ⟨D, cy, ad, ex, A⟩ := G
  obtain ⟨hx, hb, hml, hown, hts, hK, hwf, hA, hRm, hlocks, hcr, hX⟩ := F
  intro hls hst hR H locs la hP hD hS hl
  have hZ := (hX.2.2.2.2.2.2.2 i hi).1
  rw [hix] at hZ
  have h9 := g hls (fx_okc trivial hst) hR H locs la hP hD hS hl
  rw [List.map_cons, fx_ex20, show w.toNat = 10 + i by omega] at h9
  exact va_ldcS hx hb hown hZ d h9
end FXS
abbrev rm_J0_coder_7d493 : Room := { frames := 0, cells := 0, slots := 0, locals := 0 }
set_option maxRecDepth 100000 in
set_option maxHeartbeats 4000000 in
theorem m_J0_coder (Λ : fx_L) (w : Int) (h : fx_H) (hw : 10 ≤ w ∧ w < 18) : fx_Met yJ0_coder_7d493 cJ0_coder_7d493 1 (some .byte) rm_J0_coder_7d493 Λ [(62, w)] h (some (0, 0)) h := by
  refine fx_enter (ls := [some (62, w)]) (by decide) (Nat.le_of_ble_eq_true rfl) rfl (fun M G F K => ?_)
  refine fx_getC (pc := 0) F wF_J0_38 dJ0_coder_7d493_0 ?_
  refine fx_jzeq (pc := 3) F 13 (by decide) dJ0_coder_7d493_3 (fun c => absurd c (by decide)) (fun _ => ?_)
  refine fx_aload_n (pc := 6) (t := 60) F 0 rfl rfl dJ0_coder_7d493_6 ?_
  refine fx_scod (pc := 7) F hw wF_J0_15 dJ0_coder_7d493_7 ?_
  refine fx_goto (pc := 10) F 14 (by decide) dJ0_coder_7d493_10 ?_
  exact fx_treturn (pc := 14) F rfl K dJ0_coder_7d493_14
abbrev rm_J0_isLatin1_aae02 : Room := { frames := 0, cells := 0, slots := 0, locals := 0 }
set_option maxRecDepth 100000 in
set_option maxHeartbeats 4000000 in
theorem m_J0_isLatin1 (Λ : fx_L) (w : Int) (h : fx_H) (hw : 10 ≤ w ∧ w < 18) : fx_Met yJ0_isLatin1_aae02 cJ0_isLatin1_aae02 1 (some .boolean) rm_J0_isLatin1_aae02 Λ [(62, w)] h (some (0, 1)) h := by
  refine fx_enter (ls := [some (62, w)]) (by decide) (Nat.le_of_ble_eq_true rfl) rfl (fun M G F K => ?_)
  refine fx_getC (pc := 0) F wF_J0_38 dJ0_isLatin1_aae02_0 ?_
  refine fx_jzeq (pc := 3) F 17 (by decide) dJ0_isLatin1_aae02_3 (fun c => absurd c (by decide)) (fun _ => ?_)
  refine fx_aload_n (pc := 6) (t := 60) F 0 rfl rfl dJ0_isLatin1_aae02_6 ?_
  refine fx_scod (pc := 7) F hw wF_J0_15 dJ0_isLatin1_aae02_7 ?_
  refine fx_jzne (pc := 10) F 17 (by decide) dJ0_isLatin1_aae02_10 (fun c => absurd rfl c) (fun _ => ?_)
  refine fx_iconst (pc := 13) F ⟨by decide, by decide⟩ dJ0_isLatin1_aae02_13 ?_
  refine fx_goto (pc := 14) F 18 (by decide) dJ0_isLatin1_aae02_14 ?_
  exact fx_zreturn (pc := 18) F (Or.inr rfl) K dJ0_isLatin1_aae02_18
abbrev rm_J0_length_8abf5 : Room := { frames := 1, cells := 0, slots := 0, locals := 20 }
set_option maxRecDepth 100000 in
set_option maxHeartbeats 4000000 in
theorem m_J0_length (Λ : fx_L) (w : Int) (h : fx_H) (r : Int) (hf : fx_slen w = some r) : fx_Met yJ0_length_8abf5 cJ0_length_8abf5 1 (some .int) rm_J0_length_8abf5 Λ [(62, w)] h (some (0, r)) h := by
  unfold fx_slen at hf
  split at hf
  case isFalse => cases hf
  case isTrue hw =>
  cases hf
  refine fx_enter (ls := [some (62, w)]) (by decide) (Nat.le_of_ble_eq_true rfl) rfl (fun M G F K => ?_)
  refine fx_aload_n (pc := 0) (t := 60) F 0 rfl rfl dJ0_length_8abf5_0 ?_
  refine fx_sval (pc := 1) F hw wF_J0_9 dJ0_length_8abf5_1 ?_
  refine fx_xlen (pc := 4) F hw dJ0_length_8abf5_4 ?_
  refine fx_aload_n (pc := 5) (t := 60) F 0 rfl rfl dJ0_length_8abf5_5 ?_
  refine fx_cX (pc := 6) F [] w hw [(0, (fx_sN w : Int))] (m_J0_coder Λ w h hw) kD_J0_coder_7d493 kI_J0_coder_7d493 rfl wM_J0_335 ⟨rfl, rfl⟩ ⟨by decide, by decide⟩ (Nat.le_of_ble_eq_true rfl) rfl dJ0_length_8abf5_6 ?_
  refine fx_rishr0 (pc := 9) F dJ0_length_8abf5_9 ?_
  exact fx_ireturn (pc := 10) F K dJ0_length_8abf5_10
abbrev rm_J3_checkIndex_8e157 : Room := { frames := 0, cells := 0, slots := 0, locals := 0 }
set_option maxRecDepth 100000 in
set_option maxHeartbeats 4000000 in
theorem m_J3_check (Λ : fx_L) (i n : Int) (h : fx_H) (hi : 0 ≤ i ∧ i < n) : fx_Met yJ3_checkIndex_8e157 cJ3_checkIndex_8e157 3 (some .int) rm_J3_checkIndex_8e157 Λ [(0, i), (0, n), (64, 0)] h (some (0, i)) h := by
  refine fx_enter (ls := [some (0, i), some (0, n), some (64, 0)]) (by decide) (Nat.le_of_ble_eq_true rfl) rfl (fun M G F K => ?_)
  refine fx_iload_n (pc := 0) F 0 rfl rfl dJ3_checkIndex_8e157_0 ?_
  refine fx_jzlt (pc := 1) F 9 (by decide) dJ3_checkIndex_8e157_1 (fun c => absurd c (by omega)) (fun _ => ?_)
  refine fx_iload_n (pc := 4) F 0 rfl rfl dJ3_checkIndex_8e157_4 ?_
  refine fx_iload_n (pc := 5) F 1 rfl rfl dJ3_checkIndex_8e157_5 ?_
  refine fx_jlt (pc := 6) F 16 (by decide) dJ3_checkIndex_8e157_6 (fun _ => ?_) (fun c => absurd hi.2 c)
  refine fx_iload_n (pc := 16) F 0 rfl rfl dJ3_checkIndex_8e157_16 ?_
  exact fx_ireturn (pc := 17) F K dJ3_checkIndex_8e157_17
abbrev rm_J0_checkIndex_df160 : Room := { frames := 1, cells := 0, slots := 0, locals := 22 }
set_option maxRecDepth 100000 in
set_option maxHeartbeats 4000000 in
theorem m_J0_check (Λ : fx_L) (i n : Int) (h : fx_H) (hi : 0 ≤ i ∧ i < n) : fx_Met yJ0_checkIndex_df160 cJ0_checkIndex_df160 2 none rm_J0_checkIndex_df160 Λ [(0, i), (0, n)] h none h := by
  refine fx_enter (ls := [some (0, i), some (0, n)]) (by decide) (Nat.le_of_ble_eq_true rfl) rfl (fun M G F K => ?_)
  refine fx_iload_n (pc := 0) F 0 rfl rfl dJ0_checkIndex_df160_0 ?_
  refine fx_iload_n (pc := 1) F 1 rfl rfl dJ0_checkIndex_df160_1 ?_
  refine fx_getQ (pc := 2) F wF_J0_1053 dJ0_checkIndex_df160_2 ?_
  refine fx_cS (pc := 5) F [(0, i), (0, n), (64, 0)] [] (m_J3_check Λ i n h hi) kD_J3_checkIndex_8e157 wSt_J3_checkIndex_8e157 wM_J0_1059 ⟨rfl, rfl⟩ ⟨by decide, by decide⟩ (Nat.le_of_ble_eq_true rfl) rfl dJ0_checkIndex_df160_5 ?_
  refine fx_pop (pc := 8) F (show (0 : Nat) ≠ 1 by decide) dJ0_checkIndex_df160_8 ?_
  exact fx_vreturn (pc := 9) F K dJ0_checkIndex_df160_9
abbrev rm_J1_charAt_3b067 : Room := { frames := 2, cells := 0, slots := 0, locals := 43 }
theorem fx_narC {x : Int} (h : 0 ≤ x ∧ x ≤ 127) : narrow .char (.int (Int32.ofInt x)) = .int (Int32.ofInt x) := by
  have h0 : x.toNat < 128 := by omega
  have hx : x = (x.toNat : Int) := by omega
  rw [hx]
  generalize x.toNat = j at h0
  have hall : ∀ j, j < 128 → narrow .char (.int (Int32.ofInt (j : Nat))) = .int (Int32.ofInt (j : Nat)) := by decide +kernel
  exact hall j h0
set_option maxRecDepth 100000 in
set_option maxHeartbeats 4000000 in
theorem m_J1_charAt (Λ : fx_L) (w k : Int) (h : fx_H) (hw : 10 ≤ w ∧ w < 18) (hk : 0 ≤ k ∧ k < (fx_sN w : Int)) : fx_Met yJ1_charAt_3b067 cJ1_charAt_3b067 2 (some .char) rm_J1_charAt_3b067 Λ [(62, w + 10), (0, k)] h (some (0, fx_sB w k)) h := by
  obtain ⟨b1, b2, b3⟩ := fx_sB_ok hw hk
  refine fx_enter (ls := [some (62, w + 10), some (0, k)]) (by decide) (Nat.le_of_ble_eq_true rfl) rfl (fun M G F K => ?_)
  refine fx_iload_n (pc := 0) F 1 rfl rfl dJ1_charAt_3b067_0 ?_
  refine fx_aload_n (pc := 1) (t := 60) F 0 rfl rfl dJ1_charAt_3b067_1 ?_
  refine fx_xlen (pc := 2) F hw dJ1_charAt_3b067_2 ?_
  refine fx_cSv (pc := 3) F [(0, k), (0, (fx_sN w : Int))] [] (m_J0_check Λ k _ h hk) kD_J0_checkIndex_df160 wSt_J0_checkIndex_df160 wM_J1_9 ⟨rfl, rfl⟩ ⟨by decide, by decide⟩ (Nat.le_of_ble_eq_true rfl) rfl dJ1_charAt_3b067_3 ?_
  refine fx_aload_n (pc := 6) (t := 60) F 0 rfl rfl dJ1_charAt_3b067_6 ?_
  refine fx_iload_n (pc := 7) F 1 rfl rfl dJ1_charAt_3b067_7 ?_
  refine fx_xald (pc := 8) F hw hk dJ1_charAt_3b067_8 ?_
  refine fx_sipush (pc := 9) F ⟨by decide, by decide⟩ (by decide) dJ1_charAt_3b067_9 ?_
  refine fx_riand (pc := 12) F dJ1_charAt_3b067_12 ?_
  refine fx_top (X := fx_X) b1 ?_
  refine fx_ri2c (pc := 13) F dJ1_charAt_3b067_13 ?_
  refine fx_top (X := fx_X) b2 ?_
  exact fx_treturn (pc := 14) F (fx_narC b3) K dJ1_charAt_3b067_14
abbrev rm_J0_charAt_5068e : Room := { frames := 3, cells := 0, slots := 0, locals := 64 }
set_option maxRecDepth 100000 in
set_option maxHeartbeats 4000000 in
theorem m_J0_charAt (Λ : fx_L) (w k : Int) (h : fx_H) (r : Int) (hf : fx_sch w k = some r) : fx_Met yJ0_charAt_5068e cJ0_charAt_5068e 2 (some .char) rm_J0_charAt_5068e Λ [(62, w), (0, k)] h (some (0, r)) h := by
  unfold fx_sch at hf
  split at hf
  case isFalse => cases hf
  case isTrue hq =>
  obtain ⟨hw, hk⟩ := hq
  cases hf
  obtain ⟨b1, b2, b3⟩ := fx_sB_ok hw hk
  refine fx_enter (ls := [some (62, w), some (0, k)]) (by decide) (Nat.le_of_ble_eq_true rfl) rfl (fun M G F K => ?_)
  refine fx_aload_n (pc := 0) (t := 60) F 0 rfl rfl dJ0_charAt_5068e_0 ?_
  refine fx_cX (pc := 1) F [] w hw [] (m_J0_isLatin1 Λ w h hw) kD_J0_isLatin1_aae02 kI_J0_isLatin1_aae02 rfl wM_J0_492 ⟨rfl, rfl⟩ ⟨by decide, by decide⟩ (Nat.le_of_ble_eq_true rfl) rfl dJ0_charAt_5068e_1 ?_
  refine fx_jzeq (pc := 4) F 16 (by decide) dJ0_charAt_5068e_4 (fun c => absurd c (by decide)) (fun _ => ?_)
  refine fx_aload_n (pc := 7) (t := 60) F 0 rfl rfl dJ0_charAt_5068e_7 ?_
  refine fx_sval (pc := 8) F hw wF_J0_9 dJ0_charAt_5068e_8 ?_
  refine fx_iload_n (pc := 11) F 1 rfl rfl dJ0_charAt_5068e_11 ?_
  refine fx_cS (pc := 12) F [(62, w + 10), (0, k)] [] (m_J1_charAt Λ w k h hw hk) kD_J1_charAt_3b067 wSt_J1_charAt_3b067 wM_J0_495 ⟨rfl, rfl⟩ ⟨by decide, by decide⟩ (Nat.le_of_ble_eq_true rfl) rfl dJ0_charAt_5068e_12 ?_
  exact fx_treturn (pc := 15) F (fx_narC b3) K dJ0_charAt_5068e_15
theorem fx_slen_w {w r : Int} (h : fx_slen w = some r) : 10 ≤ w ∧ w < 18 := by
  unfold fx_slen at h
  split at h
  · rename_i q; exact q
  · cases h
theorem fx_sch_w {w k r : Int} (h : fx_sch w k = some r) : 10 ≤ w ∧ w < 18 := by
  unfold fx_sch at h
  split at h
  · rename_i q; exact q.1
  · cases h
