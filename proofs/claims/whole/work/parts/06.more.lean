section FXD
variable {M : fx_M} {G : fx_G} {Λ : fx_L} {cc : ByteArray} {own : String} {nL pc : Nat} {rm : Room} {ls : List (Option fx_V)} {st : List fx_V} {h : fx_H}
theorem fx_callS (F : fx_F fx_X M G Λ cc own nL rm) {y : MethodName} {cc' : ByteArray} {nL' index : Nat} {ret : Option FieldType} {rm' : Room} (as : List fx_V) {ro : Option fx_V} {ho : fx_H} (hM : fx_Met y cc' nL' ret rm' Λ as h ro ho) (hd : fx_md y cc' nL' ret as.length) (hss : Cond.static y ∈ fx_WS) (lk : Cond.methodLink own index y ∈ fx_WS) (hrm : rm'.cells = 0 ∧ rm'.slots = 0) (hRR : rm'.frames + 1 ≤ rm.frames ∧ 8 + (nL' + 11) + rm'.locals ≤ rm.locals) (hc8 : fx_c8 st ≤ 8) {stk : List fx_V} (hstk : stk = as.reverse ++ st) (d : decode cc pc = .ok (.invokestatic index, 3)) (g : fx_J M G Λ nL (pc + 3) ls (ro.toList ++ st) ho) : fx_J M G Λ nL pc ls stk h := by
  subst hstk
  obtain ⟨p, l, e, R, s, m, args, below, meth, c, cells, slots, Q⟩ := M
  obtain ⟨D, cy, ad, ex, A⟩ := G
  obtain ⟨hx, hb, hml, hown, hts, hK, hwf, hA, hRm, hlocks, hcr, hX⟩ := F
  intro hls hst hR H locs la hP hD hS hl
  subst hRm
  have has : ∀ v ∈ as, fx_ok Λ v := fun v hv => hst v (List.mem_append_left _ (List.mem_reverse.mpr hv))
  have hr' : ∀ v ∈ st, fx_ok Λ v := fun v hv => hst v (List.mem_append_right _ hv)
  have hM' := hM hR has hwf l D cy ad ex H.size
  have hcB : CallB R s args own index y cc' nL' ret (Cond.code y cc' nL' ret :: fx_WS) rm' 0 0 as.length := callB_of as.length hts (fx_goodm hd) rfl hrm.1 hrm.2 (hts _ hd.2.2) (hts _ lk) hd.1 hRR
  have hpre := fx_pre (as := as) hK hP hD hS hA hX
  rw [List.map_append, List.map_reverse]
  refine fx_after (va_runS (As := as.map (fx_v ad ex)) (rest := st.map (fx_v ad ex)) ⟨hx, hb, hml, hown, hts⟩ hM' ⟨hcB, hts _ hss⟩ ⟨fx_blind, hpre⟩ rfl (by simp) hl.1 rfl (lv_room (by rw [fx_c8_le]; exact hc8)) d hcr) hD hS hA (fun H1 locs1 hP1 hD1 hS1 hR1 hO1 => ?_)
  rw [← fx_mapr]
  exact g hls (fx_okr hO1 hr') hR1 H1 locs1 la hP1 hD1 hS1 hl
theorem fx_callSN (F : fx_F fx_X M G Λ cc own nL rm) {y : MethodName} {cc' : ByteArray} {nL' index : Nat} {ret : Option FieldType} {rm' : Room} (as : List fx_V) {ro : Option fx_V} {ho : fx_H} (hM : fx_Met y cc' nL' ret rm' Λ as h ro ho) (hd : fx_md y cc' nL' ret as.length) (hss : Cond.static y ∈ fx_WS) (lk : (own, index, y) ∈ fx_nm) (hrm : rm'.cells = 0 ∧ rm'.slots = 0) (hRR : rm'.frames + 1 ≤ rm.frames ∧ 8 + (nL' + 11) + rm'.locals ≤ rm.locals) (hc8 : fx_c8 st ≤ 8) {stk : List fx_V} (hstk : stk = as.reverse ++ st) (d : decode cc pc = .ok (.invokestatic index, 3)) (g : fx_J M G Λ nL (pc + 3) ls (ro.toList ++ st) ho) : fx_J M G Λ nL pc ls stk h := by
  subst hstk
  obtain ⟨p, l, e, R, s, m, args, below, meth, c, cells, slots, Q⟩ := M
  obtain ⟨D, cy, ad, ex, A⟩ := G
  obtain ⟨hx, hb, hml, hown, hts, hK, hwf, hA, hRm, hlocks, hcr, hX⟩ := F
  intro hls hst hR H locs la hP hD hS hl
  subst hRm
  have has : ∀ v ∈ as, fx_ok Λ v := fun v hv => hst v (List.mem_append_left _ (List.mem_reverse.mpr hv))
  have hr' : ∀ v ∈ st, fx_ok Λ v := fun v hv => hst v (List.mem_append_right _ hv)
  have hM' := hM hR has hwf l D cy ad ex H.size
  have hcB : va_CN R s args own index y RX5 cc' nL' ret (Cond.code y cc' nL' ret :: fx_WS) rm' 0 0 as.length := va_cnB as.length hts (fx_goodm hd) rfl hrm.1 hrm.2 (hX.1 _ lk) (hts _ hd.2.2) hd.1 hRR
  have hpre := fx_pre (as := as) hK hP hD hS hA hX
  rw [List.map_append, List.map_reverse]
  refine fx_after (va_runSN (host := RX5) (As := as.map (fx_v ad ex)) (rest := st.map (fx_v ad ex)) ⟨hx, hb, hml, hown, hts⟩ hM' ⟨hcB, hts _ hss, trivial⟩ ⟨fx_blind, hpre⟩ rfl (by simp) hl.1 rfl (lv_room (by rw [fx_c8_le]; exact hc8)) d hcr) hD hS hA (fun H1 locs1 hP1 hD1 hS1 hR1 hO1 => ?_)
  rw [← fx_mapr]
  exact g hls (fx_okr hO1 hr') hR1 H1 locs1 la hP1 hD1 hS1 hl
theorem fx_imin (F : fx_F fx_X M G Λ cc own nL rm) {x y : Int} {index : Nat} (lk : Cond.methodLink own index Lib.Math.min.name ∈ fx_WS) (hk1 : Cond.static Lib.Math.min.name ∈ fx_WS) (hk2 : Cond.initialized "java/lang/Math" ∈ fx_WS) (hk3 : Cond.code Lib.Math.min.name Lib.Math.min.code 2 (some .int) ∈ fx_WS) (hf1 : 1 ≤ rm.frames) (hf2 : fx_c8 st + 13 ≤ rm.locals) (d : decode cc pc = .ok (.invokestatic index, 3)) (g : fx_J M G Λ nL (pc + 3) ls ((0, min x y) :: st) h) : fx_J M G Λ nL pc ls ((0, y) :: (0, x) :: st) h := by
  obtain ⟨p, l, e, R, s, m, args, below, meth, c, cells, slots, Q⟩ := M
  obtain ⟨D, cy, ad, ex, A⟩ := G
  obtain ⟨hx, hb, hml, hown, hts, hK, hwf, hA, hRm, hlocks, hcr, hX⟩ := F
  intro hls hst hR H locs la hP hD hS hl
  have hy' := hst _ List.mem_cons_self
  have hx' := hst _ (List.mem_cons_of_mem _ List.mem_cons_self)
  have hr' : ∀ v ∈ st, fx_ok Λ v := fun v hv => hst v (List.mem_cons_of_mem _ (List.mem_cons_of_mem _ hv))
  subst hRm
  have e9 : (if Int32.ofInt y < Int32.ofInt x then Int32.ofInt y else Int32.ofInt x) = Int32.ofInt (min x y) := by
    have h3 := fx_lt (fx_ok_i hy') (fx_ok_i hx')
    by_cases hq : y < x
    · rw [if_pos (h3.mpr hq), Int.min_eq_right (by omega)]
    · rw [if_neg (fun z => hq (h3.mp z)), Int.min_eq_left (by omega)]
  refine va_mmin hx hb (hml.trans hl.1.symm) hown (hts _ lk) (hts _ hk1) (hts _ hk2) (hts _ hk3) hf1 (by rw [fx_c8_le]; exact hf2) hcr.1 hcr.2 d ?_
  rw [e9]
  have hxr := fx_ok_i hx'
  have hyr := fx_ok_i hy'
  exact g hls (fx_okc (by show fx_R (min x y); unfold fx_R at hxr hyr ⊢; omega) hr') hR H locs la hP hD hS hl
theorem fx_imax (F : fx_F fx_X M G Λ cc own nL rm) {x y : Int} {index : Nat} (lk : Cond.methodLink own index Lib.Math.max.name ∈ fx_WS) (hk1 : Cond.static Lib.Math.max.name ∈ fx_WS) (hk2 : Cond.initialized "java/lang/Math" ∈ fx_WS) (hk3 : Cond.code Lib.Math.max.name Lib.Math.max.code 2 (some .int) ∈ fx_WS) (hf1 : 1 ≤ rm.frames) (hf2 : fx_c8 st + 13 ≤ rm.locals) (d : decode cc pc = .ok (.invokestatic index, 3)) (g : fx_J M G Λ nL (pc + 3) ls ((0, max x y) :: st) h) : fx_J M G Λ nL pc ls ((0, y) :: (0, x) :: st) h := by
  obtain ⟨p, l, e, R, s, m, args, below, meth, c, cells, slots, Q⟩ := M
  obtain ⟨D, cy, ad, ex, A⟩ := G
  obtain ⟨hx, hb, hml, hown, hts, hK, hwf, hA, hRm, hlocks, hcr, hX⟩ := F
  intro hls hst hR H locs la hP hD hS hl
  have hy' := hst _ List.mem_cons_self
  have hx' := hst _ (List.mem_cons_of_mem _ List.mem_cons_self)
  have hr' : ∀ v ∈ st, fx_ok Λ v := fun v hv => hst v (List.mem_cons_of_mem _ (List.mem_cons_of_mem _ hv))
  subst hRm
  have e9 : (if Int32.ofInt x < Int32.ofInt y then Int32.ofInt y else Int32.ofInt x) = Int32.ofInt (max x y) := by
    have h3 := fx_lt (fx_ok_i hx') (fx_ok_i hy')
    by_cases hq : x < y
    · rw [if_pos (h3.mpr hq), Int.max_eq_right (by omega)]
    · rw [if_neg (fun z => hq (h3.mp z)), Int.max_eq_left (by omega)]
  refine va_mmax hx hb (hml.trans hl.1.symm) hown (hts _ lk) (hts _ hk1) (hts _ hk2) (hts _ hk3) hf1 (by rw [fx_c8_le]; exact hf2) hcr.1 hcr.2 d ?_
  rw [e9]
  have hxr := fx_ok_i hx'
  have hyr := fx_ok_i hy'
  exact g hls (fx_okc (by show fx_R (max x y); unfold fx_R at hxr hyr ⊢; omega) hr') hR H locs la hP hD hS hl
def fx_cpy (h : fx_H) (src sp dst dp n : Int) : fx_H := fun a i => if a = dst ∧ dp ≤ i ∧ i < dp + n then h src (sp + (i - dp)) else h a i
theorem fx_cell_eq {cy : Nat → ClassId} {ad : Nat → Nat} {h' : fx_H} {b : Int} (e : ∀ j : Int, h' b j = h b j) : fx_cell cy ad Λ h' b = fx_cell cy ad Λ h b := by
  unfold fx_cell
  split <;> simp only [fx_ai, fx_fs, e] <;> (try rfl)
  congr 2
  apply List.map_congr_left
  intro j _
  unfold fx_fv
  split <;> simp only [e]
theorem fx_ws_setG {cy : Nat → ClassId} {ad : Nat → Nat} {h' : fx_H} {a : Int} (h0 : 0 ≤ a) {e : va_E} (hne : ∀ b : Int, b ≠ a → ∀ j : Int, h' b j = h b j) (he : fx_cell cy ad Λ h' a = e) : (fx_ws cy ad Λ h).set a.toNat (ad a.toNat, e) = fx_ws cy ad Λ h' := by
  subst he
  have := fx_map_set Λ.1 a.toNat (fun k : Nat => (ad k, fx_cell cy ad Λ h k)) (fun k : Nat => (ad k, fx_cell cy ad Λ h' k)) (fun k hk => by
    show (ad k, fx_cell cy ad Λ h' k) = (ad k, fx_cell cy ad Λ h k)
    rw [fx_cell_eq (hne k (by omega))])
  rw [Int.toNat_of_nonneg h0] at this
  exact this
theorem fx_acopy (F : fx_F fx_X M G Λ cc own nL rm) {a0 a sp dp n : Int} {index : Nat} (lk : Cond.methodLink own index arraycopyName ∈ fx_WS) (hk1 : Cond.native arraycopyName ∈ fx_WS) (hk2 : Cond.static arraycopyName ∈ fx_WS) (hk3 : Cond.initialized "java/lang/System" ∈ fx_WS) (hf1 : 1 ≤ rm.frames) (hf2 : fx_c8 st + 18 ≤ rm.locals) (h1 : 0 ≤ sp) (h2 : 0 ≤ dp) (h3 : 0 ≤ n) (h4 : sp + n ≤ fx_ln Λ a0) (h5 : dp + n ≤ fx_ln Λ a) (d : decode cc pc = .ok (.invokestatic index, 3)) (g : fx_J M G Λ nL (pc + 3) ls st (fx_cpy h a0 sp a dp n)) : fx_J M G Λ nL pc ls ((0, n) :: (0, dp) :: (8 + 2, a) :: (0, sp) :: (8 + 2, a0) :: st) h := by
  obtain ⟨p, l, e, R, s, m, args, below, meth, c, cells, slots, Q⟩ := M
  obtain ⟨D, cy, ad, ex, A⟩ := G
  obtain ⟨hx, hb, hml, hown, hts, hK, hwf, hA, hRm, hlocks, hcr, hX⟩ := F
  intro hls hst hR H locs la hP hD hS hl
  have q1 := hst _ List.mem_cons_self
  have q2 := hst _ (List.mem_cons_of_mem _ List.mem_cons_self)
  have q3 := hst _ (List.mem_cons_of_mem _ (List.mem_cons_of_mem _ List.mem_cons_self))
  have q4 := hst _ (List.mem_cons_of_mem _ (List.mem_cons_of_mem _ (List.mem_cons_of_mem _ List.mem_cons_self)))
  have q5 := hst _ (List.mem_cons_of_mem _ (List.mem_cons_of_mem _ (List.mem_cons_of_mem _ (List.mem_cons_of_mem _ List.mem_cons_self))))
  have hr' : ∀ v ∈ st, fx_ok Λ v := fun v hv => hst v (List.mem_cons_of_mem _ (List.mem_cons_of_mem _ (List.mem_cons_of_mem _ (List.mem_cons_of_mem _ (List.mem_cons_of_mem _ hv)))))
  subst hRm
  obtain ⟨a1, a2, hkd⟩ := fx_ok_cell (by omega) q3
  obtain ⟨b1, b2, hkd0⟩ := fx_ok_cell (by omega) q5
  have he := fx_ws_at (cy := cy) (ad := ad) (h := h) a1 a2
  have he0 := fx_ws_at (cy := cy) (ad := ad) (h := h) b1 b2
  have hcell : ∀ (h : fx_H), fx_cell cy ad Λ h a = fx_ai (cy 1) Λ h a := fun h => by unfold fx_cell; rw [hkd]; rfl
  have hcell0 : ∀ (h : fx_H), fx_cell cy ad Λ h a0 = fx_ai (cy 1) Λ h a0 := fun h => by unfold fx_cell; rw [hkd0]; rfl
  rw [hcell] at he
  rw [hcell0] at he0
  have r1 := fx_ok_i q1
  have r2 := fx_ok_i q2
  have r4 := fx_ok_i q4
  have z0 : fx_R 0 := by unfold fx_R; omega
  have nn : ∀ z : Int, fx_R z → 0 ≤ z → ¬ Int32.ofInt z < 0 := fun z hz h0 q => by
    have := (fx_lt hz z0).mp q
    omega
  rw [List.map_cons, List.map_cons, List.map_cons, List.map_cons, List.map_cons, fx_v_cell (by omega), fx_v_cell (by omega)]
  refine va_copyi (ty := .int) hx hb (hml.trans hl.1.symm) hown (hts _ lk) (hts _ hk1) (hts _ hk2) (hts _ hk3) hK hP hD hS a0.toNat a.toNat 1 1 he0 he rfl rfl rfl (nn sp r4 h1) (nn dp r2 h2) (nn n r1 h3) (by rw [fx_cl r4, fx_cl r1]; omega) (by rw [fx_cl r2, fx_cl r1]; omega) (fun i _ => rfl) hf1 (by rw [fx_c8_le]; show fx_c8 st + 18 ≤ R.locals; exact hf2) d (fun H1 locs1 hP1 hD1 hS1 => ?_)
  have hc1 : fx_cell cy ad Λ (fx_cpy h a0 sp a dp n) a = .inl (cy 1, (fx_ln Λ a).toNat, .inl (va_cpy (fun j : Nat => Int32.ofInt (h a0 j)) (fun j : Nat => Int32.ofInt (h a j)) (Int32.ofInt sp).toNatClampNeg (Int32.ofInt dp).toNatClampNeg (Int32.ofInt n).toNatClampNeg)) := by
    rw [hcell]
    unfold fx_ai
    congr 4
    funext j
    rw [fx_cl r1, fx_cl r2, fx_cl r4]
    unfold va_cpy fx_cpy
    by_cases hj : dp.toNat ≤ j ∧ j < dp.toNat + n.toNat
    · have hj2 : dp ≤ (j : Int) ∧ (j : Int) < dp + n := by omega
      rw [if_pos hj, if_pos ⟨rfl, hj2.1, hj2.2⟩]
      congr 2
      omega
    · rw [if_neg hj, if_neg (fun z => hj (by omega))]
  rw [fx_ws_setG a1 (fun b hb' j => by simp [fx_cpy, hb']) hc1] at hP1 hD1
  refine g hls hr' ⟨fun b j hj => ?_, fun b j => ?_⟩ H1 locs1 la hP1 hD1 hS1 hl
  · unfold fx_cpy
    split
    · refine hR.1 _ _ ?_
      have := (hwf a0 b1 b2).2.1
      omega
    · exact hR.1 b j hj
  · unfold fx_cpy
    split
    · exact hR.2 _ _
    · exact hR.2 b j
theorem fx_gets (F : fx_F fx_X M G Λ cc own nL rm) {index : Nat} (t : Nat) {nm : String} (ht : (t = 0 ∧ nm = "PAIR_PAYS") ∨ (t = 1 ∧ nm = "NEXT_ONE_ADDS")) (lk : (own, index, nm) ∈ fx_nf) (d : decode cc pc = .ok (.getstatic index, 3)) (g : fx_J M G Λ nL (pc + 3) ls ((62, (t : Int)) :: st) h) : fx_J M G Λ nL pc ls st h := by
  obtain ⟨p, l, e, R, s, m, args, below, meth, c, cells, slots, Q⟩ := M
  obtain ⟨D, cy, ad, ex, A⟩ := G
  obtain ⟨hx, hb, hml, hown, hts, hK, hwf, hA, hRm, hlocks, hcr, hX⟩ := F
  intro hls hst hR H locs la hP hD hS hl
  have h9 := g hls (fx_okc trivial hst) hR H locs la hP hD hS hl
  rcases ht with ⟨rfl, rfl⟩ | ⟨rfl, rfl⟩
  · exact va_getsN hx hb hX.2.2.1.1 hS hown (va_Nw.use rfl (hX.2.1 _ lk)) (fun _ q => q) d h9
  · exact va_getsN hx hb hX.2.2.2.1.1 hS hown (va_Nw.use rfl (hX.2.1 _ lk)) (fun _ q => q) d h9
theorem fx_tald (F : fx_F fx_X M G Λ cc own nL rm) {i : Int} (t : Nat) (ht : t = 0 ∨ t = 1) (h2 : 0 ≤ i) (h3 : i < 6) (d : decode cc pc = .ok (.iaload, 1)) (g : fx_J M G Λ nL (pc + 1) ls ((0, fx_tab t i.toNat) :: st) h) : fx_J M G Λ nL pc ls ((0, i) :: (62, (t : Int)) :: st) h := by
  obtain ⟨p, l, e, R, s, m, args, below, meth, c, cells, slots, Q⟩ := M
  obtain ⟨D, cy, ad, ex, A⟩ := G
  obtain ⟨hx, hb, hml, hown, hts, hK, hwf, hA, hRm, hlocks, hcr, hX⟩ := F
  intro hls hst hR H locs la hP hD hS hl
  have hy' := hst _ List.mem_cons_self
  have hx' := hst _ (List.mem_cons_of_mem _ List.mem_cons_self)
  have hr' : ∀ v ∈ st, fx_ok Λ v := fun v hv => hst v (List.mem_cons_of_mem _ (List.mem_cons_of_mem _ hv))
  have hir := fx_ok_i hy'
  have ht9 : fx_R (fx_tab t i.toNat) := by
    have : i.toNat < 6 := by omega
    generalize i.toNat = j at this
    have h6 : ∀ t, t < 2 → ∀ j, j < 6 → -2147483648 ≤ fx_tab t j ∧ fx_tab t j ≤ 2147483647 := by decide +kernel
    exact h6 t (by omega) j this
  have h9 := g hls (fx_okc ht9 hr') hR H locs la hP hD hS hl
  rcases ht with rfl | rfl
  · exact va_ti hx hb hX.2.2.1.2 hS (fx_in hir h2 (by omega)) (by rw [fx_cl hir]; rfl) d h9
  · exact va_ti hx hb hX.2.2.2.1.2 hS (fx_in hir h2 (by omega)) (by rw [fx_cl hir]; rfl) d h9
theorem fx_tswO (F : fx_F fx_X M G Λ cc own nL rm) {x dflt lo hi : Int} {offs : Array Int} {len : Nat} (tgt : Nat) (d : decode cc pc = .ok (.tableswitch dflt lo hi offs, len)) (hq : x < lo ∨ hi < x) (ht : (pc : Int) + dflt = (tgt : Int)) (g : fx_J M G Λ nL tgt ls st h) : fx_J M G Λ nL pc ls ((0, x) :: st) h := by
  obtain ⟨p, l, e, R, s, m, args, below, meth, c, cells, slots, Q⟩ := M
  obtain ⟨D, cy, ad, ex, A⟩ := G
  obtain ⟨hx, hb, hml, hown, hts, hK, hwf, hA, hRm, hlocks, hcr, hX⟩ := F
  intro hls hst hR H locs la hP hD hS hl
  have hx' := hst _ List.mem_cons_self
  have hr' : ∀ v ∈ st, fx_ok Λ v := fun v hv => hst v (List.mem_cons_of_mem _ hv)
  exact lv_tableOut hx hb d (by show (Int32.ofInt x).toInt < lo ∨ hi < (Int32.ofInt x).toInt; rw [fx_tR (fx_ok_i hx')]; exact hq) ht (g hls hr' hR H locs la hP hD hS hl)
theorem fx_tswI (F : fx_F fx_X M G Λ cc own nL rm) {x dflt lo hi off : Int} {offs : Array Int} {len : Nat} (tgt k : Nat) (d : decode cc pc = .ok (.tableswitch dflt lo hi offs, len)) (hq : x = lo + k) (hk : lo + k ≤ hi) (ho : offs[k]? = some off) (ht : (pc : Int) + off = (tgt : Int)) (g : fx_J M G Λ nL tgt ls st h) : fx_J M G Λ nL pc ls ((0, x) :: st) h := by
  obtain ⟨p, l, e, R, s, m, args, below, meth, c, cells, slots, Q⟩ := M
  obtain ⟨D, cy, ad, ex, A⟩ := G
  obtain ⟨hx, hb, hml, hown, hts, hK, hwf, hA, hRm, hlocks, hcr, hX⟩ := F
  intro hls hst hR H locs la hP hD hS hl
  have hx' := hst _ List.mem_cons_self
  have hr' : ∀ v ∈ st, fx_ok Λ v := fun v hv => hst v (List.mem_cons_of_mem _ hv)
  have e := fx_tR (fx_ok_i hx')
  exact lv_tableIn hx hb d (by show ¬ (Int32.ofInt x).toInt < lo; rw [e]; omega) (by show ¬ hi < (Int32.ofInt x).toInt; rw [e]; omega) (by show offs[((Int32.ofInt x).toInt - lo).toNat]? = some off; rw [e, show (x - lo).toNat = k by omega]; exact ho) ht (g hls hr' hR H locs la hP hD hS hl)
theorem fx_lsw (F : fx_F fx_X M G Λ cc own nL rm) {x dflt off : Int} {ps : Array (Int × Int)} {len : Nat} (tgt : Nat) (d : decode cc pc = .ok (.lookupswitch dflt ps, len)) (hp : (ps.toList.zip (ps.toList.drop 1)).all (fun (a, next) => a.1 < next.1) = true) (ho : Op.lookupswitch.offset ps.toList dflt x = off) (ht : (pc : Int) + off = (tgt : Int)) (g : fx_J M G Λ nL tgt ls st h) : fx_J M G Λ nL pc ls ((0, x) :: st) h := by
  obtain ⟨p, l, e, R, s, m, args, below, meth, c, cells, slots, Q⟩ := M
  obtain ⟨D, cy, ad, ex, A⟩ := G
  obtain ⟨hx, hb, hml, hown, hts, hK, hwf, hA, hRm, hlocks, hcr, hX⟩ := F
  intro hls hst hR H locs la hP hD hS hl
  have hx' := hst _ List.mem_cons_self
  have hr' : ∀ v ∈ st, fx_ok Λ v := fun v hv => hst v (List.mem_cons_of_mem _ hv)
  exact lv_lookup hx hb d hp (by show Op.lookupswitch.offset ps.toList dflt (Int32.ofInt x).toInt = off; rw [fx_tR (fx_ok_i hx')]; exact ho) ht (g hls hr' hR H locs la hP hD hS hl)
theorem fx_top {X : (Nat → Nat) → (Nat → Prop) → State → Prop} {t : Nat} {x y : Int} (e : x = y) (g : fx_J M G Λ nL pc ls ((t, y) :: st) h) : fx_J M G Λ nL pc ls ((t, x) :: st) h := by
  rw [e]; exact g
/-! source relations: j: the jump is taken when it holds, n: when it doesn't -/
theorem fx_jlt (F : fx_F fx_X M G Λ cc own nL rm) {x y off : Int} (tgt : Nat) (ht : (pc : Int) + off = (tgt : Int)) (d : decode cc pc = .ok (.if_icmp .lt off, 3)) (gT : x < y → fx_J M G Λ nL tgt ls st h) (gF : ¬ (x < y) → fx_J M G Λ nL (pc + 3) ls st h) : fx_J M G Λ nL pc ls ((0, y) :: (0, x) :: st) h := fx_icmp_lt F tgt ht d gT gF
theorem fx_nlt (F : fx_F fx_X M G Λ cc own nL rm) {x y off : Int} (tgt : Nat) (ht : (pc : Int) + off = (tgt : Int)) (d : decode cc pc = .ok (.if_icmp .ge off, 3)) (gT : x < y → fx_J M G Λ nL (pc + 3) ls st h) (gF : ¬ (x < y) → fx_J M G Λ nL tgt ls st h) : fx_J M G Λ nL pc ls ((0, y) :: (0, x) :: st) h := fx_icmp_ge F tgt ht d (fun q => gF (Int.not_lt.mpr q)) (fun q => gT (Int.not_le.mp q))
theorem fx_jzlt (F : fx_F fx_X M G Λ cc own nL rm) {x off : Int} (tgt : Nat) (ht : (pc : Int) + off = (tgt : Int)) (d : decode cc pc = .ok (.ifCond .lt off, 3)) (gT : x < 0 → fx_J M G Λ nL tgt ls st h) (gF : ¬ (x < 0) → fx_J M G Λ nL (pc + 3) ls st h) : fx_J M G Λ nL pc ls ((0, x) :: st) h := fx_if_lt F tgt ht d gT gF
theorem fx_nzlt (F : fx_F fx_X M G Λ cc own nL rm) {x off : Int} (tgt : Nat) (ht : (pc : Int) + off = (tgt : Int)) (d : decode cc pc = .ok (.ifCond .ge off, 3)) (gT : x < 0 → fx_J M G Λ nL (pc + 3) ls st h) (gF : ¬ (x < 0) → fx_J M G Λ nL tgt ls st h) : fx_J M G Λ nL pc ls ((0, x) :: st) h := fx_if_ge F tgt ht d (fun q => gF (Int.not_lt.mpr q)) (fun q => gT (Int.not_le.mp q))
theorem fx_cm_lt (x y : Int) : (fx_cmp x y < 0) ↔ (x < y) := by
  unfold fx_cmp
  by_cases h1 : y < x
  · simp only [if_pos h1]; omega
  · by_cases h2 : x = y
    · simp only [if_neg h1, if_pos h2]; first | omega | simp [h2]
    · simp only [if_neg h1, if_neg h2]; omega
theorem fx_jllt (F : fx_F fx_X M G Λ cc own nL rm) {x y off : Int} (tgt : Nat) (ht : ((pc + 1 : Nat) : Int) + off = (tgt : Int)) (d : decode cc pc = .ok (.lcmp, 1)) (d2 : decode cc (pc + 1) = .ok (.ifCond .lt off, 3)) (gT : x < y → fx_J M G Λ nL tgt ls st h) (gF : ¬ (x < y) → fx_J M G Λ nL (pc + 1 + 3) ls st h) : fx_J M G Λ nL pc ls ((1, y) :: (1, x) :: st) h := fx_rlcmp F d (fx_jzlt F tgt ht d2 (fun q => gT ((fx_cm_lt x y).mp q)) (fun q => gF (fun z => q ((fx_cm_lt x y).mpr z))))
theorem fx_nllt (F : fx_F fx_X M G Λ cc own nL rm) {x y off : Int} (tgt : Nat) (ht : ((pc + 1 : Nat) : Int) + off = (tgt : Int)) (d : decode cc pc = .ok (.lcmp, 1)) (d2 : decode cc (pc + 1) = .ok (.ifCond .ge off, 3)) (gT : x < y → fx_J M G Λ nL (pc + 1 + 3) ls st h) (gF : ¬ (x < y) → fx_J M G Λ nL tgt ls st h) : fx_J M G Λ nL pc ls ((1, y) :: (1, x) :: st) h := fx_rlcmp F d (fx_nzlt F tgt ht d2 (fun q => gT ((fx_cm_lt x y).mp q)) (fun q => gF (fun z => q ((fx_cm_lt x y).mpr z))))
theorem fx_jle (F : fx_F fx_X M G Λ cc own nL rm) {x y off : Int} (tgt : Nat) (ht : (pc : Int) + off = (tgt : Int)) (d : decode cc pc = .ok (.if_icmp .le off, 3)) (gT : x ≤ y → fx_J M G Λ nL tgt ls st h) (gF : ¬ (x ≤ y) → fx_J M G Λ nL (pc + 3) ls st h) : fx_J M G Λ nL pc ls ((0, y) :: (0, x) :: st) h := fx_icmp_le F tgt ht d gT gF
theorem fx_nle (F : fx_F fx_X M G Λ cc own nL rm) {x y off : Int} (tgt : Nat) (ht : (pc : Int) + off = (tgt : Int)) (d : decode cc pc = .ok (.if_icmp .gt off, 3)) (gT : x ≤ y → fx_J M G Λ nL (pc + 3) ls st h) (gF : ¬ (x ≤ y) → fx_J M G Λ nL tgt ls st h) : fx_J M G Λ nL pc ls ((0, y) :: (0, x) :: st) h := fx_icmp_gt F tgt ht d (fun q => gF (Int.not_le.mpr q)) (fun q => gT (Int.not_lt.mp q))
theorem fx_jzle (F : fx_F fx_X M G Λ cc own nL rm) {x off : Int} (tgt : Nat) (ht : (pc : Int) + off = (tgt : Int)) (d : decode cc pc = .ok (.ifCond .le off, 3)) (gT : x ≤ 0 → fx_J M G Λ nL tgt ls st h) (gF : ¬ (x ≤ 0) → fx_J M G Λ nL (pc + 3) ls st h) : fx_J M G Λ nL pc ls ((0, x) :: st) h := fx_if_le F tgt ht d gT gF
theorem fx_nzle (F : fx_F fx_X M G Λ cc own nL rm) {x off : Int} (tgt : Nat) (ht : (pc : Int) + off = (tgt : Int)) (d : decode cc pc = .ok (.ifCond .gt off, 3)) (gT : x ≤ 0 → fx_J M G Λ nL (pc + 3) ls st h) (gF : ¬ (x ≤ 0) → fx_J M G Λ nL tgt ls st h) : fx_J M G Λ nL pc ls ((0, x) :: st) h := fx_if_gt F tgt ht d (fun q => gF (Int.not_le.mpr q)) (fun q => gT (Int.not_lt.mp q))
theorem fx_cm_le (x y : Int) : (fx_cmp x y ≤ 0) ↔ (x ≤ y) := by
  unfold fx_cmp
  by_cases h1 : y < x
  · simp only [if_pos h1]; omega
  · by_cases h2 : x = y
    · simp only [if_neg h1, if_pos h2]; first | omega | simp [h2]
    · simp only [if_neg h1, if_neg h2]; omega
theorem fx_jlle (F : fx_F fx_X M G Λ cc own nL rm) {x y off : Int} (tgt : Nat) (ht : ((pc + 1 : Nat) : Int) + off = (tgt : Int)) (d : decode cc pc = .ok (.lcmp, 1)) (d2 : decode cc (pc + 1) = .ok (.ifCond .le off, 3)) (gT : x ≤ y → fx_J M G Λ nL tgt ls st h) (gF : ¬ (x ≤ y) → fx_J M G Λ nL (pc + 1 + 3) ls st h) : fx_J M G Λ nL pc ls ((1, y) :: (1, x) :: st) h := fx_rlcmp F d (fx_jzle F tgt ht d2 (fun q => gT ((fx_cm_le x y).mp q)) (fun q => gF (fun z => q ((fx_cm_le x y).mpr z))))
theorem fx_nlle (F : fx_F fx_X M G Λ cc own nL rm) {x y off : Int} (tgt : Nat) (ht : ((pc + 1 : Nat) : Int) + off = (tgt : Int)) (d : decode cc pc = .ok (.lcmp, 1)) (d2 : decode cc (pc + 1) = .ok (.ifCond .gt off, 3)) (gT : x ≤ y → fx_J M G Λ nL (pc + 1 + 3) ls st h) (gF : ¬ (x ≤ y) → fx_J M G Λ nL tgt ls st h) : fx_J M G Λ nL pc ls ((1, y) :: (1, x) :: st) h := fx_rlcmp F d (fx_nzle F tgt ht d2 (fun q => gT ((fx_cm_le x y).mp q)) (fun q => gF (fun z => q ((fx_cm_le x y).mpr z))))
theorem fx_jgt (F : fx_F fx_X M G Λ cc own nL rm) {x y off : Int} (tgt : Nat) (ht : (pc : Int) + off = (tgt : Int)) (d : decode cc pc = .ok (.if_icmp .gt off, 3)) (gT : y < x → fx_J M G Λ nL tgt ls st h) (gF : ¬ (y < x) → fx_J M G Λ nL (pc + 3) ls st h) : fx_J M G Λ nL pc ls ((0, y) :: (0, x) :: st) h := fx_icmp_gt F tgt ht d gT gF
theorem fx_ngt (F : fx_F fx_X M G Λ cc own nL rm) {x y off : Int} (tgt : Nat) (ht : (pc : Int) + off = (tgt : Int)) (d : decode cc pc = .ok (.if_icmp .le off, 3)) (gT : y < x → fx_J M G Λ nL (pc + 3) ls st h) (gF : ¬ (y < x) → fx_J M G Λ nL tgt ls st h) : fx_J M G Λ nL pc ls ((0, y) :: (0, x) :: st) h := fx_icmp_le F tgt ht d (fun q => gF (Int.not_lt.mpr q)) (fun q => gT (Int.not_le.mp q))
theorem fx_jzgt (F : fx_F fx_X M G Λ cc own nL rm) {x off : Int} (tgt : Nat) (ht : (pc : Int) + off = (tgt : Int)) (d : decode cc pc = .ok (.ifCond .gt off, 3)) (gT : 0 < x → fx_J M G Λ nL tgt ls st h) (gF : ¬ (0 < x) → fx_J M G Λ nL (pc + 3) ls st h) : fx_J M G Λ nL pc ls ((0, x) :: st) h := fx_if_gt F tgt ht d gT gF
theorem fx_nzgt (F : fx_F fx_X M G Λ cc own nL rm) {x off : Int} (tgt : Nat) (ht : (pc : Int) + off = (tgt : Int)) (d : decode cc pc = .ok (.ifCond .le off, 3)) (gT : 0 < x → fx_J M G Λ nL (pc + 3) ls st h) (gF : ¬ (0 < x) → fx_J M G Λ nL tgt ls st h) : fx_J M G Λ nL pc ls ((0, x) :: st) h := fx_if_le F tgt ht d (fun q => gF (Int.not_lt.mpr q)) (fun q => gT (Int.not_le.mp q))
theorem fx_cm_gt (x y : Int) : (0 < fx_cmp x y) ↔ (y < x) := by
  unfold fx_cmp
  by_cases h1 : y < x
  · simp only [if_pos h1]; omega
  · by_cases h2 : x = y
    · simp only [if_neg h1, if_pos h2]; first | omega | simp [h2]
    · simp only [if_neg h1, if_neg h2]; omega
theorem fx_jlgt (F : fx_F fx_X M G Λ cc own nL rm) {x y off : Int} (tgt : Nat) (ht : ((pc + 1 : Nat) : Int) + off = (tgt : Int)) (d : decode cc pc = .ok (.lcmp, 1)) (d2 : decode cc (pc + 1) = .ok (.ifCond .gt off, 3)) (gT : y < x → fx_J M G Λ nL tgt ls st h) (gF : ¬ (y < x) → fx_J M G Λ nL (pc + 1 + 3) ls st h) : fx_J M G Λ nL pc ls ((1, y) :: (1, x) :: st) h := fx_rlcmp F d (fx_jzgt F tgt ht d2 (fun q => gT ((fx_cm_gt x y).mp q)) (fun q => gF (fun z => q ((fx_cm_gt x y).mpr z))))
theorem fx_nlgt (F : fx_F fx_X M G Λ cc own nL rm) {x y off : Int} (tgt : Nat) (ht : ((pc + 1 : Nat) : Int) + off = (tgt : Int)) (d : decode cc pc = .ok (.lcmp, 1)) (d2 : decode cc (pc + 1) = .ok (.ifCond .le off, 3)) (gT : y < x → fx_J M G Λ nL (pc + 1 + 3) ls st h) (gF : ¬ (y < x) → fx_J M G Λ nL tgt ls st h) : fx_J M G Λ nL pc ls ((1, y) :: (1, x) :: st) h := fx_rlcmp F d (fx_nzgt F tgt ht d2 (fun q => gT ((fx_cm_gt x y).mp q)) (fun q => gF (fun z => q ((fx_cm_gt x y).mpr z))))
theorem fx_jge (F : fx_F fx_X M G Λ cc own nL rm) {x y off : Int} (tgt : Nat) (ht : (pc : Int) + off = (tgt : Int)) (d : decode cc pc = .ok (.if_icmp .ge off, 3)) (gT : y ≤ x → fx_J M G Λ nL tgt ls st h) (gF : ¬ (y ≤ x) → fx_J M G Λ nL (pc + 3) ls st h) : fx_J M G Λ nL pc ls ((0, y) :: (0, x) :: st) h := fx_icmp_ge F tgt ht d gT gF
theorem fx_nge (F : fx_F fx_X M G Λ cc own nL rm) {x y off : Int} (tgt : Nat) (ht : (pc : Int) + off = (tgt : Int)) (d : decode cc pc = .ok (.if_icmp .lt off, 3)) (gT : y ≤ x → fx_J M G Λ nL (pc + 3) ls st h) (gF : ¬ (y ≤ x) → fx_J M G Λ nL tgt ls st h) : fx_J M G Λ nL pc ls ((0, y) :: (0, x) :: st) h := fx_icmp_lt F tgt ht d (fun q => gF (Int.not_le.mpr q)) (fun q => gT (Int.not_lt.mp q))
theorem fx_jzge (F : fx_F fx_X M G Λ cc own nL rm) {x off : Int} (tgt : Nat) (ht : (pc : Int) + off = (tgt : Int)) (d : decode cc pc = .ok (.ifCond .ge off, 3)) (gT : 0 ≤ x → fx_J M G Λ nL tgt ls st h) (gF : ¬ (0 ≤ x) → fx_J M G Λ nL (pc + 3) ls st h) : fx_J M G Λ nL pc ls ((0, x) :: st) h := fx_if_ge F tgt ht d gT gF
theorem fx_nzge (F : fx_F fx_X M G Λ cc own nL rm) {x off : Int} (tgt : Nat) (ht : (pc : Int) + off = (tgt : Int)) (d : decode cc pc = .ok (.ifCond .lt off, 3)) (gT : 0 ≤ x → fx_J M G Λ nL (pc + 3) ls st h) (gF : ¬ (0 ≤ x) → fx_J M G Λ nL tgt ls st h) : fx_J M G Λ nL pc ls ((0, x) :: st) h := fx_if_lt F tgt ht d (fun q => gF (Int.not_le.mpr q)) (fun q => gT (Int.not_lt.mp q))
theorem fx_cm_ge (x y : Int) : (0 ≤ fx_cmp x y) ↔ (y ≤ x) := by
  unfold fx_cmp
  by_cases h1 : y < x
  · simp only [if_pos h1]; omega
  · by_cases h2 : x = y
    · simp only [if_neg h1, if_pos h2]; first | omega | simp [h2]
    · simp only [if_neg h1, if_neg h2]; omega
theorem fx_jlge (F : fx_F fx_X M G Λ cc own nL rm) {x y off : Int} (tgt : Nat) (ht : ((pc + 1 : Nat) : Int) + off = (tgt : Int)) (d : decode cc pc = .ok (.lcmp, 1)) (d2 : decode cc (pc + 1) = .ok (.ifCond .ge off, 3)) (gT : y ≤ x → fx_J M G Λ nL tgt ls st h) (gF : ¬ (y ≤ x) → fx_J M G Λ nL (pc + 1 + 3) ls st h) : fx_J M G Λ nL pc ls ((1, y) :: (1, x) :: st) h := fx_rlcmp F d (fx_jzge F tgt ht d2 (fun q => gT ((fx_cm_ge x y).mp q)) (fun q => gF (fun z => q ((fx_cm_ge x y).mpr z))))
theorem fx_nlge (F : fx_F fx_X M G Λ cc own nL rm) {x y off : Int} (tgt : Nat) (ht : ((pc + 1 : Nat) : Int) + off = (tgt : Int)) (d : decode cc pc = .ok (.lcmp, 1)) (d2 : decode cc (pc + 1) = .ok (.ifCond .lt off, 3)) (gT : y ≤ x → fx_J M G Λ nL (pc + 1 + 3) ls st h) (gF : ¬ (y ≤ x) → fx_J M G Λ nL tgt ls st h) : fx_J M G Λ nL pc ls ((1, y) :: (1, x) :: st) h := fx_rlcmp F d (fx_nzge F tgt ht d2 (fun q => gT ((fx_cm_ge x y).mp q)) (fun q => gF (fun z => q ((fx_cm_ge x y).mpr z))))
theorem fx_jeq (F : fx_F fx_X M G Λ cc own nL rm) {x y off : Int} (tgt : Nat) (ht : (pc : Int) + off = (tgt : Int)) (d : decode cc pc = .ok (.if_icmp .eq off, 3)) (gT : x = y → fx_J M G Λ nL tgt ls st h) (gF : ¬ (x = y) → fx_J M G Λ nL (pc + 3) ls st h) : fx_J M G Λ nL pc ls ((0, y) :: (0, x) :: st) h := fx_icmp_eq F tgt ht d gT gF
theorem fx_neq (F : fx_F fx_X M G Λ cc own nL rm) {x y off : Int} (tgt : Nat) (ht : (pc : Int) + off = (tgt : Int)) (d : decode cc pc = .ok (.if_icmp .ne off, 3)) (gT : x = y → fx_J M G Λ nL (pc + 3) ls st h) (gF : ¬ (x = y) → fx_J M G Λ nL tgt ls st h) : fx_J M G Λ nL pc ls ((0, y) :: (0, x) :: st) h := fx_icmp_ne F tgt ht d gF (fun q => gT (Decidable.not_not.mp q))
theorem fx_jzeq (F : fx_F fx_X M G Λ cc own nL rm) {x off : Int} (tgt : Nat) (ht : (pc : Int) + off = (tgt : Int)) (d : decode cc pc = .ok (.ifCond .eq off, 3)) (gT : x = 0 → fx_J M G Λ nL tgt ls st h) (gF : ¬ (x = 0) → fx_J M G Λ nL (pc + 3) ls st h) : fx_J M G Λ nL pc ls ((0, x) :: st) h := fx_if_eq F tgt ht d gT gF
theorem fx_nzeq (F : fx_F fx_X M G Λ cc own nL rm) {x off : Int} (tgt : Nat) (ht : (pc : Int) + off = (tgt : Int)) (d : decode cc pc = .ok (.ifCond .ne off, 3)) (gT : x = 0 → fx_J M G Λ nL (pc + 3) ls st h) (gF : ¬ (x = 0) → fx_J M G Λ nL tgt ls st h) : fx_J M G Λ nL pc ls ((0, x) :: st) h := fx_if_ne F tgt ht d gF (fun q => gT (Decidable.not_not.mp q))
theorem fx_cm_eq (x y : Int) : (fx_cmp x y = 0) ↔ (x = y) := by
  unfold fx_cmp
  by_cases h1 : y < x
  · simp only [if_pos h1]; omega
  · by_cases h2 : x = y
    · simp only [if_neg h1, if_pos h2]; first | omega | simp [h2]
    · simp only [if_neg h1, if_neg h2]; omega
theorem fx_jleq (F : fx_F fx_X M G Λ cc own nL rm) {x y off : Int} (tgt : Nat) (ht : ((pc + 1 : Nat) : Int) + off = (tgt : Int)) (d : decode cc pc = .ok (.lcmp, 1)) (d2 : decode cc (pc + 1) = .ok (.ifCond .eq off, 3)) (gT : x = y → fx_J M G Λ nL tgt ls st h) (gF : ¬ (x = y) → fx_J M G Λ nL (pc + 1 + 3) ls st h) : fx_J M G Λ nL pc ls ((1, y) :: (1, x) :: st) h := fx_rlcmp F d (fx_jzeq F tgt ht d2 (fun q => gT ((fx_cm_eq x y).mp q)) (fun q => gF (fun z => q ((fx_cm_eq x y).mpr z))))
theorem fx_nleq (F : fx_F fx_X M G Λ cc own nL rm) {x y off : Int} (tgt : Nat) (ht : ((pc + 1 : Nat) : Int) + off = (tgt : Int)) (d : decode cc pc = .ok (.lcmp, 1)) (d2 : decode cc (pc + 1) = .ok (.ifCond .ne off, 3)) (gT : x = y → fx_J M G Λ nL (pc + 1 + 3) ls st h) (gF : ¬ (x = y) → fx_J M G Λ nL tgt ls st h) : fx_J M G Λ nL pc ls ((1, y) :: (1, x) :: st) h := fx_rlcmp F d (fx_nzeq F tgt ht d2 (fun q => gT ((fx_cm_eq x y).mp q)) (fun q => gF (fun z => q ((fx_cm_eq x y).mpr z))))
theorem fx_jne (F : fx_F fx_X M G Λ cc own nL rm) {x y off : Int} (tgt : Nat) (ht : (pc : Int) + off = (tgt : Int)) (d : decode cc pc = .ok (.if_icmp .ne off, 3)) (gT : ¬ x = y → fx_J M G Λ nL tgt ls st h) (gF : ¬ (¬ x = y) → fx_J M G Λ nL (pc + 3) ls st h) : fx_J M G Λ nL pc ls ((0, y) :: (0, x) :: st) h := fx_icmp_ne F tgt ht d gT (fun q => gF (fun z => q z))
theorem fx_nne (F : fx_F fx_X M G Λ cc own nL rm) {x y off : Int} (tgt : Nat) (ht : (pc : Int) + off = (tgt : Int)) (d : decode cc pc = .ok (.if_icmp .eq off, 3)) (gT : ¬ x = y → fx_J M G Λ nL (pc + 3) ls st h) (gF : ¬ (¬ x = y) → fx_J M G Λ nL tgt ls st h) : fx_J M G Λ nL pc ls ((0, y) :: (0, x) :: st) h := fx_icmp_eq F tgt ht d (fun q => gF (fun z => z q)) gT
theorem fx_jzne (F : fx_F fx_X M G Λ cc own nL rm) {x off : Int} (tgt : Nat) (ht : (pc : Int) + off = (tgt : Int)) (d : decode cc pc = .ok (.ifCond .ne off, 3)) (gT : ¬ x = 0 → fx_J M G Λ nL tgt ls st h) (gF : ¬ (¬ x = 0) → fx_J M G Λ nL (pc + 3) ls st h) : fx_J M G Λ nL pc ls ((0, x) :: st) h := fx_if_ne F tgt ht d gT (fun q => gF (fun z => q z))
theorem fx_nzne (F : fx_F fx_X M G Λ cc own nL rm) {x off : Int} (tgt : Nat) (ht : (pc : Int) + off = (tgt : Int)) (d : decode cc pc = .ok (.ifCond .eq off, 3)) (gT : ¬ x = 0 → fx_J M G Λ nL (pc + 3) ls st h) (gF : ¬ (¬ x = 0) → fx_J M G Λ nL tgt ls st h) : fx_J M G Λ nL pc ls ((0, x) :: st) h := fx_if_eq F tgt ht d (fun q => gF (fun z => z q)) gT
theorem fx_cm_ne (x y : Int) : (¬ fx_cmp x y = 0) ↔ (¬ x = y) := by
  unfold fx_cmp
  by_cases h1 : y < x
  · simp only [if_pos h1]; omega
  · by_cases h2 : x = y
    · simp only [if_neg h1, if_pos h2]; first | omega | simp [h2]
    · simp only [if_neg h1, if_neg h2]; omega
theorem fx_jlne (F : fx_F fx_X M G Λ cc own nL rm) {x y off : Int} (tgt : Nat) (ht : ((pc + 1 : Nat) : Int) + off = (tgt : Int)) (d : decode cc pc = .ok (.lcmp, 1)) (d2 : decode cc (pc + 1) = .ok (.ifCond .ne off, 3)) (gT : ¬ x = y → fx_J M G Λ nL tgt ls st h) (gF : ¬ (¬ x = y) → fx_J M G Λ nL (pc + 1 + 3) ls st h) : fx_J M G Λ nL pc ls ((1, y) :: (1, x) :: st) h := fx_rlcmp F d (fx_jzne F tgt ht d2 (fun q => gT ((fx_cm_ne x y).mp q)) (fun q => gF (fun z => q ((fx_cm_ne x y).mpr z))))
theorem fx_nlne (F : fx_F fx_X M G Λ cc own nL rm) {x y off : Int} (tgt : Nat) (ht : ((pc + 1 : Nat) : Int) + off = (tgt : Int)) (d : decode cc pc = .ok (.lcmp, 1)) (d2 : decode cc (pc + 1) = .ok (.ifCond .eq off, 3)) (gT : ¬ x = y → fx_J M G Λ nL (pc + 1 + 3) ls st h) (gF : ¬ (¬ x = y) → fx_J M G Λ nL tgt ls st h) : fx_J M G Λ nL pc ls ((1, y) :: (1, x) :: st) h := fx_rlcmp F d (fx_nzne F tgt ht d2 (fun q => gT ((fx_cm_ne x y).mp q)) (fun q => gF (fun z => q ((fx_cm_ne x y).mpr z))))
end FXD
/-! ===== fx: the words of pure programs ===== -/
def fx_rd (Λ : fx_L) (h : fx_H) (a i : Int) : Option Int := if 0 ≤ i ∧ i < fx_ln Λ a then some (h a i) else none
def fx_wr (Λ : fx_L) (h : fx_H) (a i v : Int) : Option fx_H := if 0 ≤ i ∧ i < fx_ln Λ a then some (fx_up h a i v) else none
def fx_rr (Λ : fx_L) (a i : Int) : Option Int := if 0 ≤ i ∧ i < fx_ln Λ a then some (fx_tg Λ a i) else none
def fx_rt (t : Nat) (i : Int) : Option Int := if 0 ≤ i ∧ i < 6 then some (fx_tab t i.toNat) else none
def fx_dv (x y : Int) : Option Int := if y = 0 then none else some (fx_w (x.tdiv y))
def fx_rm (x y : Int) : Option Int := if y = 0 then none else some (fx_w (x.tmod y))
def fx_dvl (x y : Int) : Option Int := if y = 0 then none else some (fx_wl (x.tdiv y))
def fx_rml (x y : Int) : Option Int := if y = 0 then none else some (fx_wl (x.tmod y))
def fx_cp (Λ : fx_L) (h : fx_H) (a0 sp a dp n : Int) : Option fx_H := if 0 ≤ sp ∧ 0 ≤ dp ∧ 0 ≤ n ∧ sp + n ≤ fx_ln Λ a0 ∧ dp + n ≤ fx_ln Λ a then some (fx_cpy h a0 sp a dp n) else none
def fx_loop {S E : Type} (step : S → Option (S ⊕ E)) : Nat → S → Option E
  | 0, _ => none
  | n + 1, s => match step s with
    | none => none
    | some (.inl s') => fx_loop step n s'
    | some (.inr e) => some e
theorem fx_bnd {α β : Type} {x : Option α} {f : α → Option β} {b : β} (h : x.bind f = some b) : ∃ a, x = some a ∧ f a = some b := by
  cases x with
  | none => cases h
  | some a => exact ⟨a, rfl, h⟩
theorem fx_loop_J {S E : Type} {step : S → Option (S ⊕ E)} {Hd : S → Prop} {Ex : E → Prop} (hstep : ∀ s o, step s = some o → (∀ s', o = .inl s' → Hd s') → (∀ x, o = .inr x → Ex x) → Hd s) : ∀ (n : Nat) (s : S) (e : E), fx_loop step n s = some e → Ex e → Hd s
  | 0, s, e, h, _ => by cases h
  | n + 1, s, e, h, he => by
    unfold fx_loop at h
    cases hs : step s with
    | none => rw [hs] at h; cases h
    | some o =>
      rw [hs] at h
      cases o with
      | inl s' => exact hstep s _ hs (fun s'' q => by cases q; exact fx_loop_J hstep n s' e h he) (fun x q => by cases q)
      | inr x => exact hstep s _ hs (fun s'' q => by cases q) (fun x' q => by cases q; cases h; exact he)
section FXE
variable {X : (Nat → Nat) → (Nat → Prop) → State → Prop} {M : fx_M} {G : fx_G} {Λ : fx_L} {cc : ByteArray} {own : String} {nL pc : Nat} {rm : Room} {ls : List (Option fx_V)} {st : List fx_V} {h : fx_H}
theorem fx_in_of {Λ : fx_L} {a i : Int} {α : Type} {x y : α} (hv : (if 0 ≤ i ∧ i < fx_ln Λ a then some x else none) = some y) : (0 ≤ i ∧ i < fx_ln Λ a) ∧ x = y := by
  split at hv
  · rename_i h; exact ⟨h, Option.some.inj hv⟩
  · cases hv
theorem fx_raldI (F : fx_F X M G Λ cc own nL rm) {a i v : Int} (hv : fx_rd Λ h a i = some v) (d : decode cc pc = .ok (.iaload, 1)) (g : fx_J M G Λ nL (pc + 1) ls ((0, v) :: st) h) : fx_J M G Λ nL pc ls ((0, i) :: (10, a) :: st) h := by
  obtain ⟨hq, rfl⟩ := fx_in_of hv
  exact fx_aldI F hq.1 hq.2 d g
theorem fx_raldB (F : fx_F X M G Λ cc own nL rm) {a i v : Int} (hv : fx_rd Λ h a i = some v) (d : decode cc pc = .ok (.baload, 1)) (g : fx_J M G Λ nL (pc + 1) ls ((0, v) :: st) h) : fx_J M G Λ nL pc ls ((0, i) :: (9, a) :: st) h := by
  obtain ⟨hq, rfl⟩ := fx_in_of hv
  exact fx_aldB F hq.1 hq.2 d g
theorem fx_raldZ (F : fx_F X M G Λ cc own nL rm) {a i v : Int} (hv : fx_rd Λ h a i = some v) (d : decode cc pc = .ok (.baload, 1)) (g : fx_J M G Λ nL (pc + 1) ls ((0, v) :: st) h) : fx_J M G Λ nL pc ls ((0, i) :: (11, a) :: st) h := by
  obtain ⟨hq, rfl⟩ := fx_in_of hv
  exact fx_aldZ F hq.1 hq.2 d g
theorem fx_rastI (F : fx_F X M G Λ cc own nL rm) {a i x : Int} {h' : fx_H} (hv : fx_wr Λ h a i x = some h') (d : decode cc pc = .ok (.iastore, 1)) (g : fx_J M G Λ nL (pc + 1) ls st h') : fx_J M G Λ nL pc ls ((0, x) :: (0, i) :: (10, a) :: st) h := by
  obtain ⟨hq, rfl⟩ := fx_in_of hv
  exact fx_astI F hq.1 hq.2 d g
theorem fx_rastB (F : fx_F X M G Λ cc own nL rm) {a i x : Int} {h' : fx_H} (hv : fx_wr Λ h a i (fx_b x) = some h') (d : decode cc pc = .ok (.bastore, 1)) (g : fx_J M G Λ nL (pc + 1) ls st h') : fx_J M G Λ nL pc ls ((0, x) :: (0, i) :: (9, a) :: st) h := by
  obtain ⟨hq, rfl⟩ := fx_in_of hv
  exact fx_astB F hq.1 hq.2 d g
theorem fx_rastZ (F : fx_F X M G Λ cc own nL rm) {a i x : Int} {h' : fx_H} (hv : fx_wr Λ h a i x = some h') (hbz : x = 0 ∨ x = 1) (d : decode cc pc = .ok (.bastore, 1)) (g : fx_J M G Λ nL (pc + 1) ls st h') : fx_J M G Λ nL pc ls ((0, x) :: (0, i) :: (11, a) :: st) h := by
  obtain ⟨hq, rfl⟩ := fx_in_of hv
  exact fx_astZ F hq.1 hq.2 hbz d g
theorem fx_raldT (F : fx_F X M G Λ cc own nL rm) {a i v : Int} (hv : fx_rr Λ a i = some v) (d : decode cc pc = .ok (.aaload, 1)) (g : fx_J M G Λ nL (pc + 1) ls ((6, v) :: st) h) : fx_J M G Λ nL pc ls ((0, i) :: (12, a) :: st) h := by
  obtain ⟨hq, rfl⟩ := fx_in_of hv
  exact fx_aldT F hq.1 hq.2 d g
theorem fx_raldG (F : fx_F X M G Λ cc own nL rm) {a i v : Int} (hv : fx_rr Λ a i = some v) (d : decode cc pc = .ok (.aaload, 1)) (g : fx_J M G Λ nL (pc + 1) ls ((10, v) :: st) h) : fx_J M G Λ nL pc ls ((0, i) :: (13, a) :: st) h := by
  obtain ⟨hq, rfl⟩ := fx_in_of hv
  exact fx_aldG F hq.1 hq.2 d g
theorem fx_rtald (F : fx_F fx_X M G Λ cc own nL rm) {i v : Int} (t : Nat) (ht : t = 0 ∨ t = 1) (hv : fx_rt t i = some v) (d : decode cc pc = .ok (.iaload, 1)) (g : fx_J M G Λ nL (pc + 1) ls ((0, v) :: st) h) : fx_J M G Λ nL pc ls ((0, i) :: (62, (t : Int)) :: st) h := by
  unfold fx_rt at hv
  split at hv
  · rename_i hq
    cases hv
    exact fx_tald F t ht hq.1 hq.2 d g
  · cases hv
theorem fx_racopy (F : fx_F fx_X M G Λ cc own nL rm) {a0 a sp dp n : Int} {h' : fx_H} {index : Nat} (hv : fx_cp Λ h a0 sp a dp n = some h') (lk : Cond.methodLink own index arraycopyName ∈ fx_WS) (hk1 : Cond.native arraycopyName ∈ fx_WS) (hk2 : Cond.static arraycopyName ∈ fx_WS) (hk3 : Cond.initialized "java/lang/System" ∈ fx_WS) (hf1 : 1 ≤ rm.frames) (hf2 : fx_c8 st + 18 ≤ rm.locals) (d : decode cc pc = .ok (.invokestatic index, 3)) (g : fx_J M G Λ nL (pc + 3) ls st h') : fx_J M G Λ nL pc ls ((0, n) :: (0, dp) :: (10, a) :: (0, sp) :: (10, a0) :: st) h := by
  unfold fx_cp at hv
  split at hv
  · rename_i hq
    cases hv
    exact fx_acopy F lk hk1 hk2 hk3 hf1 hf2 hq.1 hq.2.1 hq.2.2.1 hq.2.2.2.1 hq.2.2.2.2 d g
  · cases hv
theorem fx_ridiv (F : fx_F X M G Λ cc own nL rm) {x y v : Int} (hv : fx_dv x y = some v) (d : decode cc pc = .ok (.idiv, 1)) (g : fx_J M G Λ nL (pc + 1) ls ((0, v) :: st) h) : fx_J M G Λ nL pc ls ((0, y) :: (0, x) :: st) h := by
  unfold fx_dv at hv
  split at hv
  · cases hv
  · rename_i hq
    cases hv
    exact fx_idiv F hq d g
theorem fx_rirem (F : fx_F X M G Λ cc own nL rm) {x y v : Int} (hv : fx_rm x y = some v) (d : decode cc pc = .ok (.irem, 1)) (g : fx_J M G Λ nL (pc + 1) ls ((0, v) :: st) h) : fx_J M G Λ nL pc ls ((0, y) :: (0, x) :: st) h := by
  unfold fx_rm at hv
  split at hv
  · cases hv
  · rename_i hq
    cases hv
    exact fx_irem F hq d g
theorem fx_rldiv (F : fx_F X M G Λ cc own nL rm) {x y v : Int} (hv : fx_dvl x y = some v) (d : decode cc pc = .ok (.ldiv, 1)) (g : fx_J M G Λ nL (pc + 1) ls ((1, v) :: st) h) : fx_J M G Λ nL pc ls ((1, y) :: (1, x) :: st) h := by
  unfold fx_dvl at hv
  split at hv
  · cases hv
  · rename_i hq
    cases hv
    exact fx_ldiv F hq d g
theorem fx_rlrem (F : fx_F X M G Λ cc own nL rm) {x y v : Int} (hv : fx_rml x y = some v) (d : decode cc pc = .ok (.lrem, 1)) (g : fx_J M G Λ nL (pc + 1) ls ((1, v) :: st) h) : fx_J M G Λ nL pc ls ((1, y) :: (1, x) :: st) h := by
  unfold fx_rml at hv
  split at hv
  · cases hv
  · rename_i hq
    cases hv
    exact fx_lrem F hq d g
end FXE
