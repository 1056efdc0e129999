/-! ===== the law from its entry, given the pure theorem ===== -/
/-- THE PURE THEOREM that is wanted -/
def fx_Pure : Prop := ∀ (L : Int) (xs : Int → Int), 0 ≤ L → L ≤ 2048 → (∀ i : Int, 0 ≤ i → i < L → fx_R (xs i)) → ∃ (Fu : Nat) (h3 : fx_H), ((fi_X5_init_1 Fu (fx_z (fun _ _ => 0) 0)).bind fun h1 => fi_X6_init_10 Fu (fx_z h1 126)) = some h3 ∧ f_law Fu La_167 L xs 0 126 h3 = some 1
set_option maxRecDepth 100000 in
set_option maxHeartbeats 8000000 in
theorem fx_lawJ (Fu : Nat) (L : Int) (xs : Int → Int) (h h3' : fx_H) (hf : ((fi_X5_init_1 Fu (fx_z h 0)).bind fun h1 => (fi_X6_init_10 Fu (fx_z h1 126)).bind fun h3 => some h3) = some h3') (hl : f_law Fu La_167 L xs 0 126 h3' = some 1)
    {p : Program} {l : Launch} {e : Env} {s : State} {m : MethodId} {args : Array Value} {below : List Frame} {meth : Method} {cd : Code} {Q : State → Prop} {D : va_G} {cy : Nat → ClassId} {ad ex ad0 : Nat → Nat} {A : Nat → Prop}
    (F : fx_FC (p, l, e, room_1, s, m, args, below, meth, cd, 0, 0, Q) D cy ad ex A La_0 code R_law 4 room_1 0 0 ad0 0)
    (S : fx_Sc (p, l, e, room_1, s, m, args, below, meth, cd, 0, 0, Q) (D, cy, ad, ex, A) L xs) (K : fx_FrL (p, l, e, room_1, s, m, args, below, meth, cd, 0, 0, Q) (D, cy, ad, ex, A)) :
    fx_J (p, l, e, room_1, s, m, args, below, meth, cd, 0, 0, Q) (D, cy, ad, ex, A) La_0 4 0 [some (62, 2), none, none, none] [] h := by
  obtain ⟨k1, k2, k3, k4, k5, k6, k7⟩ := K
  refine fx_new2 (pc := 0) F 5 kC_X5 kF_X5 wC_L_7 wNew_X5 wI_X5 ⟨by decide, by decide⟩ dL_law_0 (Λ2 := La_1) (a := 0) rfl (by decide +kernel) rfl (fun ad F => ?_)
  show fx_J _ _ La_1 4 3 [some (62, 2), none, none, none] [(19, 0)] (fx_z h 0)
  refine fx_dup (pc := 3) F.1 (show (19 : Nat) ≠ 1 by decide) dL_law_3 ?_
  obtain ⟨h1, e2, hf⟩ := fx_bnd hf
  refine fx_callC (pc := 4) (ls' := [some (62, 2), none, none, none]) (st' := [(7, 0)]) F 17 5 ⟨by decide, by decide⟩ (mi_X5_init_1 Fu (fx_z h 0) _ e2) kD_X5_init rfl wIn_X5_init (Or.inl wM_L_9) ⟨rfl, rfl⟩ ⟨by decide, by decide⟩ ⟨by decide, by decide⟩ (Nat.le_of_ble_eq_true rfl) (by decide +kernel) rfl rfl dL_law_4 (fun ad F => ?_)
  show fx_J _ _ La_131 4 7 [some (62, 2), none, none, none] [(7, 0)] h1
  refine fx_astore_n (pc := 7) (ls' := [some (62, 2), some (7, 0), none, none]) (t := 5) F.1 1 rfl (by decide) rfl rfl dL_law_7 ?_
  refine fx_new2 (pc := 8) F 6 kC_X6 kF_X6 wC_L_10 wNew_X6 wI_X6 ⟨by decide, by decide⟩ dL_law_8 (Λ2 := La_132) (a := 126) rfl (by decide +kernel) rfl (fun ad F => ?_)
  show fx_J _ _ La_132 4 11 [some (62, 2), some (7, 0), none, none] [(20, 126)] (fx_z h1 126)
  refine fx_dup (pc := 11) F.1 (show (20 : Nat) ≠ 1 by decide) dL_law_11 ?_
  obtain ⟨h3, e4, hf⟩ := fx_bnd hf
  refine fx_callC (pc := 12) (ls' := [some (62, 2), some (7, 0), none, none]) (st' := [(8, 126)]) F 18 6 ⟨by decide, by decide⟩ (mi_X6_init_10 Fu (fx_z h1 126) _ e4) kD_X6_init rfl wIn_X6_init (Or.inl wM_L_12) ⟨rfl, rfl⟩ ⟨by decide, by decide⟩ ⟨by decide, by decide⟩ (Nat.le_of_ble_eq_true rfl) (by decide +kernel) rfl rfl dL_law_12 (fun ad F => ?_)
  show fx_J _ _ La_167 4 15 [some (62, 2), some (7, 0), none, none] [(8, 126)] h3
  refine fx_astore_n (pc := 15) (ls' := [some (62, 2), some (7, 0), some (8, 126), none]) (t := 6) F.1 2 rfl (by decide) rfl rfl dL_law_15 ?_
  cases hf
  exact m_law Fu La_167 L xs 0 126 _ hl F.1 S ⟨k1, k2, k3, k4, Nat.le_of_ble_eq_true rfl, Nat.le_of_ble_eq_true rfl, k7⟩
theorem fx_overA {args : Array Value} {s : State} {t : FieldType} (h : (Cond.arrayOver (.array t)).before args s = true) : ∃ comp c k, s.vm.classes[c]? = some k ∧ k.kind = .array comp (.array t) ∧ s.vm.findClass ("[" ++ (FieldType.array t).toString) = some c := by
  simp only [Cond.before, Cond.holds, Cond.value, beq_iff_eq] at h
  cases hc : s.vm.findClass (FieldType.array t).toString with
  | none => simp [hc] at h
  | some comp =>
    simp only [hc, Option.bind_some, Option.bind_eq_some_iff, Option.map_eq_some_iff] at h
    obtain ⟨c, hi, k, hk, hb⟩ := h
    cases hkind : k.kind with
    | array component ty =>
      rw [hkind] at hb
      simp at hb
      exact ⟨component, c, k, hk, by rw [hkind, hb.1], hb.2⟩
    | _ => rw [hkind] at hb; simp at hb
theorem fx_arrT {args : Array Value} {s : State} {t : FieldType} (h : (Cond.arrayClass t).before args s = true) : ∃ c : ClassId, ArrOfT s c t ∧ s.vm.findClass ("[" ++ t.toString) = some c := by
  obtain ⟨c, k, comp, h1, h2, h3⟩ := Cond.arrayClass_spec h
  exact ⟨c, fun N z => ⟨(fun k h => by cases h), k, h2, comp, h3⟩, h1⟩
theorem fx_K0 {args : Array Value} {s : State} (hts : ∀ w ∈ fx_WS, w.before args s = true) (hts2 : ∀ w ∈ lw_tbl, w.before args s = true) : ∃ (D : va_G) (cy : Nat → ClassId), va_K D vwCl (fx_tys cy) s := by
  obtain ⟨c0, i0, k0⟩ := u_known (C := RX0) (T := TX0) (N := 6) (n := 6) hts kL_X0 (hts _ wNew_X0)
  obtain ⟨c1, i1, k1⟩ := u_known (C := RX1) (T := TX1) (N := 13) (n := 13) hts kL_X1 (hts _ wNew_X1)
  obtain ⟨c2, i2, k2⟩ := u_known (C := RX2) (T := TX2) (N := 6) (n := 6) hts kL_X2 (hts _ wNew_X2)
  obtain ⟨c3, i3, k3⟩ := u_known (C := RX3) (T := TX3) (N := 7) (n := 7) hts kL_X3 (hts _ wNew_X3)
  obtain ⟨c4, i4, k4⟩ := u_known (C := RX4) (T := TX4) (N := 14) (n := 14) hts kL_X4 (hts _ wNew_X4)
  obtain ⟨c5, i5, k5⟩ := u_known (C := RX5) (T := TX5) (N := 14) (n := 14) hts kL_X5 (hts _ wNew_X5)
  obtain ⟨c6, i6, k6⟩ := u_known (C := RX6) (T := TX6) (N := 25) (n := 25) hts kL_X6 (hts _ wNew_X6)
  obtain ⟨a0, b0, d0⟩ := fx_arrT (hts _ wA_byte)
  obtain ⟨a1, b1, d1⟩ := fx_arrT (hts _ wA_int)
  obtain ⟨a2, b2, d2⟩ := fx_arrT (hts _ wA_boolean)
  obtain ⟨comp3, a3, q3, e1, -, e2, e3, e4⟩ := Cond.arrayOver_spec (n := RX4) (hts2 (.arrayOver (.object RX4)) (by decide +kernel))
  obtain ⟨comp4, a4, q4, g1, g2, g3⟩ := fx_overA (t := .int) (hts2 (.arrayOver (.array .int)) (by decide +kernel))
  refine ⟨(fun k => [c0, c1, c2, c3, c4, c5, c6].getD k c0, fun k => [i0, i1, i2, i3, i4, i5, i6].getD k i0), fun k => [a0, a1, a2, a3, a4].getD k a0, fun k q hq => ?_, fun k q hq => ?_⟩
  · match k, hq with
    | 0, hq => cases hq; exact k0
    | 1, hq => cases hq; exact k1
    | 2, hq => cases hq; exact k2
    | 3, hq => cases hq; exact k3
    | 4, hq => cases hq; exact k4
    | 5, hq => cases hq; exact k5
    | 6, hq => cases hq; exact k6
    | k + 7, hq => cases hq
  · match k, hq with
    | 0, hq => cases hq; exact ⟨b0, d0⟩
    | 1, hq => cases hq; exact ⟨b1, d1⟩
    | 2, hq => cases hq; exact ⟨b2, d2⟩
    | 3, hq => cases hq; exact ⟨fun N z => ⟨(fun k h => by cases h), q3, e2, comp3, e3⟩, q3, comp3, e2, e3, e1, e4⟩
    | 4, hq => cases hq; exact ⟨fun N z => ⟨(fun k h => by cases h), q4, g1, comp4, g2⟩, g3⟩
    | k + 5, hq => cases hq
theorem fx_tabK : (∀ q ∈ fx_nm, Cond.methodLinkNest q.1 q.2.1 q.2.2 RX5 ∈ lw_tbl) ∧ (∀ q ∈ fx_nf, Cond.fieldLinkNest q.1 q.2.1 RX5 q.2.2 "[I" RX5 ∈ lw_tbl) := ⟨by decide +kernel, by decide +kernel⟩
theorem fx_tabS : Cond.laysStatic RX5 "PAIR_PAYS" "[I" ∈ lw_tbl ∧ Cond.laysStatic RX5 "NEXT_ONE_ADDS" "[I" ∈ lw_tbl ∧ Cond.laysStatic "java/lang/String" "COMPACT_STRINGS" "Z" ∈ lw_tbl ∧ Cond.laysStatic RJ3 "SIOOBE_FORMATTER" "Ljava/util/function/BiFunction;" ∈ lw_tbl := ⟨by decide +kernel, by decide +kernel, by decide +kernel, by decide +kernel⟩
theorem fx_tabR : ∀ i : Nat, i < 8 → Cond.stringRef RX3 (fx_si.getD i 0) (fx_sx.getD i "") ∈ lw_tbl := by decide +kernel
def fx_nr : Cond := Jvm.Cond.and given_1 narrow_1
abbrev fx_st (n : String) : Term := .static RX5 n "[I"
abbrev fx_sv (i : Nat) : Term := .field (.string RX3 (fx_si.getD i 0)) "java/lang/String" "value" "[B"
theorem fx_nrP : Cond.arrayOf (fx_st "PAIR_PAYS") .int ∈ flatC fx_nr ∧ Cond.eq (.length (fx_st "PAIR_PAYS")) (.int 6) ∈ flatC fx_nr ∧ ∀ j : Nat, j < 6 → Cond.eq (.elem (fx_st "PAIR_PAYS") (.int (Int32.ofNat j))) (.int (Int32.ofInt (fx_tab 0 j))) ∈ flatC fx_nr := ⟨by decide +kernel, by decide +kernel, by decide +kernel⟩
theorem fx_nrN : Cond.arrayOf (fx_st "NEXT_ONE_ADDS") .int ∈ flatC fx_nr ∧ Cond.eq (.length (fx_st "NEXT_ONE_ADDS")) (.int 6) ∈ flatC fx_nr ∧ ∀ j : Nat, j < 6 → Cond.eq (.elem (fx_st "NEXT_ONE_ADDS") (.int (Int32.ofNat j))) (.int (Int32.ofInt (fx_tab 1 j))) ∈ flatC fx_nr := ⟨by decide +kernel, by decide +kernel, by decide +kernel⟩
theorem fx_nrS : ∀ i : Nat, i < 8 → Cond.exactly (.string RX3 (fx_si.getD i 0)) "java/lang/String" ∈ flatC fx_nr ∧ Cond.eq (.field (.string RX3 (fx_si.getD i 0)) "java/lang/String" "coder" "B") (.int 0) ∈ flatC fx_nr ∧ Cond.arrayOf (fx_sv i) .byte ∈ flatC fx_nr ∧ Cond.eq (.length (fx_sv i)) (.int (Int32.ofNat (fx_sl.getD i 0))) ∈ flatC fx_nr ∧ ∀ j : Nat, j < fx_sl.getD i 0 → Cond.eq (.elem (fx_sv i) (.int (Int32.ofNat j))) (.int ((fx_sb.getD i []).getD j 0)) ∈ flatC fx_nr := by decide +kernel
theorem fx_nrD : ∀ i : Nat, i < 8 → ∀ j : Nat, j < 8 → i ≠ j → Cond.not (Cond.eq (.string RX3 (fx_si.getD i 0)) (.string RX3 (fx_si.getD j 0))) ∈ flatC fx_nr ∨ Cond.not (Cond.eq (.string RX3 (fx_si.getD j 0)) (.string RX3 (fx_si.getD i 0))) ∈ flatC fx_nr := by decide +kernel
theorem fx_nrM : Cond.eq (.static "java/lang/String" "COMPACT_STRINGS" "Z") (.int 1) ∈ flatC fx_nr ∧ Cond.isRef (.static RJ3 "SIOOBE_FORMATTER" "Ljava/util/function/BiFunction;") ∈ flatC fx_nr := ⟨by decide +kernel, by decide +kernel⟩
theorem fx_X0 {b : Nat} {s : State} (hts : ∀ w ∈ fx_WS, w.before #[Value.ref b] s = true) (hts2 : ∀ w ∈ lw_tbl, w.before #[Value.ref b] s = true) (hgv : fx_nr.before #[Value.ref b] s = true) : ∃ ex : Nat → Nat, ex 2 = b ∧ fx_X ex (fun q => s.heap.size ≤ q) s := by
  have hs := flat_of_before _ hgv
  have hA : ∀ a : Nat, a < s.heap.size → ¬ (fun q => s.heap.size ≤ q) a := fun a ha => Nat.not_le.mpr ha
  obtain ⟨t0, v0, T0⟩ := va_Tof (tm := fx_st "PAIR_PAYS") (ty := .int) (N := 6) (f := fun j => .int (Int32.ofInt (fx_tab 0 j))) (A := fun q => s.heap.size ≤ q) (by decide) (hs _ fx_nrP.1) (va_eqt (hs _ fx_nrP.2.1)) (fun j hj => va_eqt (hs _ (fx_nrP.2.2 j hj))) hA
  obtain ⟨t1, v1, T1⟩ := va_Tof (tm := fx_st "NEXT_ONE_ADDS") (ty := .int) (N := 6) (f := fun j => .int (Int32.ofInt (fx_tab 1 j))) (A := fun q => s.heap.size ≤ q) (by decide) (hs _ fx_nrN.1) (va_eqt (hs _ fx_nrN.2.1)) (fun j hj => va_eqt (hs _ (fx_nrN.2.2 j hj))) hA
  obtain ⟨adK, adV, hS, hR⟩ := vk_Sof (N := 8) (tm := fun i => .string RX3 (fx_si.getD i 0)) (len := fx_sl) (byt := fx_sb) (A := fun q => s.heap.size ≤ q) (by decide +kernel) (fun i hi => hs _ (fx_nrS i hi).1) (fun i hi => hs _ (fx_nrS i hi).2.1) (fun i hi => hs _ (fx_nrS i hi).2.2.1) (fun i hi => hs _ (fx_nrS i hi).2.2.2.1) (fun i hi j hj => hs _ ((fx_nrS i hi).2.2.2.2 j hj)) (fun i j hi hj hij => (fx_nrD i hi j hj hij).elim (fun q => Or.inl (hs _ q)) (fun q => Or.inr (hs _ q))) hA
  have hq : ∃ q5 : Nat, va_Z RJ3 "SIOOBE_FORMATTER" "Ljava/util/function/BiFunction;" (match q5 with | 0 => .null | n + 1 => .ref n) (fun q => s.heap.size ≤ q) s s.heap := by
    rcases va_Zqof (A := fun q => s.heap.size ≤ q) (hts2 _ fx_tabS.2.2.2) (hts _ wI_J3) (hs _ fx_nrM.2) hA with h | ⟨t, h⟩
    · exact ⟨0, h⟩
    · exact ⟨t + 1, h⟩
  obtain ⟨q5, hq5⟩ := hq
  let ex : Nat → Nat := fun n => if n = 0 then t0 else if n = 1 then t1 else if n = 2 then b else if n = 5 then q5 else if n < 20 then adK (n - 10) else adV (n - 20)
  have e10 : ∀ i : Nat, i < 8 → ex (10 + i) = adK i := fun i hi => by
    show (if 10 + i = 0 then _ else if 10 + i = 1 then _ else if 10 + i = 2 then _ else if 10 + i = 5 then _ else if 10 + i < 20 then _ else _) = _
    rw [if_neg (by omega), if_neg (by omega), if_neg (by omega), if_neg (by omega), if_pos (by omega)]
    congr 1
    omega
  have e20 : ∀ i : Nat, i < 8 → ex (20 + i) = adV i := fun i hi => by
    show (if 20 + i = 0 then _ else if 20 + i = 1 then _ else if 20 + i = 2 then _ else if 20 + i = 5 then _ else if 20 + i < 20 then _ else _) = _
    rw [if_neg (by omega), if_neg (by omega), if_neg (by omega), if_neg (by omega), if_neg (by omega)]
    congr 1
    omega
  refine ⟨ex, rfl, ?_, ?_, ⟨?_, T0⟩, ⟨?_, T1⟩, ?_, ?_, ⟨?_, ?_⟩, ?_⟩
  · exact fun q hq => va_Nw.of rfl (hts2 _ (fx_tabK.1 q hq))
  · exact fun q hq => va_Nw.of rfl (hts2 _ (fx_tabK.2 q hq))
  · exact va_Zof (hts2 _ fx_tabS.1) (hts _ wI_X5) v0 hA
  · exact va_Zof (hts2 _ fx_tabS.2.1) (hts _ wI_X5) v1 hA
  · exact va_Zof (hts2 _ fx_tabS.2.2.1) (hts _ wI_J0) (va_eqi (hs _ fx_nrM.1)) hA
  · exact hq5
  · intro i hi
    simp only [e10 i hi, e20 i hi]
    exact hS.1 i hi
  · intro i j hi hj hij
    have hij : ex (10 + i) = ex (10 + j) := hij
    rw [e10 i hi, e10 j hj] at hij
    exact hS.2 i j hi hj hij
  · intro i hi
    refine ⟨?_, va_AO.of (A := #[Value.ref b]) (hts2 (.arrayOver (.object RX4)) (by decide +kernel)), hts2 (.arrayOver (.array .int)) (by decide +kernel)⟩
    rw [e10 i hi]
    exact vk_R.of (A := #[Value.ref b]) (hts2 _ (fx_tabR i hi)) (hR i hi)
set_option maxHeartbeats 4000000 in
theorem fx_start (hp : fx_Pure) {p : Program} {e : Env} {s : State} {m : MethodId} {below : List Frame} {meth : Method} {c : Code} (l : Launch) {b L : Nat} {xs : Nat → Int32} (hL : L ≤ 2048) (C0 : lw_At p s m meth c b L xs) : W p l e room_1 s m #[Value.ref b] below meth c s.heap [] 0 0 (lw_Z below #[Value.ref b] s) (entryFrame m ([Value.ref b] : List Value).toArray 4) := by
  obtain ⟨hx, hb, hr, hml, hown, hts2, hX, hbl, hlocks, hgv⟩ := C0
  have hts : ∀ w ∈ fx_WS, w.before #[Value.ref b] s = true := fun w hw => hts2 w (List.mem_filter.mp hw).1
  obtain ⟨D, cy, hK⟩ := fx_K0 hts hts2
  obtain ⟨ex, rfl, hEx⟩ := fx_X0 hts hts2 hgv
  obtain ⟨Fu, h3, hc, hl⟩ := hp L (fun i => (xs i.toNat).toInt) (by omega) (by omega) (fun i _ _ => fx_toInt_R _)
  have hf : ((fi_X5_init_1 Fu (fx_z (fun _ _ => 0) 0)).bind fun h1 => (fi_X6_init_10 Fu (fx_z h1 126)).bind fun h3 => some h3) = some h3 := by
    rw [← hc]
    congr 1
    funext h1
    cases fi_X6_init_10 Fu (fx_z h1 126) <;> rfl
  have hJ := fx_lawJ Fu L (fun i => (xs i.toNat).toInt) (fun _ _ => 0) h3 hf hl (p := p) (l := l) (e := e) (s := s) (m := m) (args := #[Value.ref (ex 2)]) (below := below) (meth := meth) (cd := c) (Q := lw_Z below #[Value.ref (ex 2)] s) (D := D) (cy := cy) (ad := fun _ => 0) (ex := ex) (ad0 := fun _ => 0) (A := fun q => s.heap.size ≤ q)
    ⟨⟨hx, hb, hml, hown, hts, hK, fun a h0 h1 => absurd h1 (by show ¬ a < ((0 : Nat) : Int); omega), fun q hq => hq, rfl, hlocks, ⟨Nat.zero_le _, Nat.zero_le _⟩, hEx⟩, fun a i h0 h1 => absurd h1 (by show ¬ a < ((0 : Nat) : Int); omega), ⟨rfl, rfl⟩, fun _ _ => rfl, Nat.zero_le _⟩
    ⟨L, xs, hX, hbl, Nat.not_le.mpr hbl, rfl, hL, fun j hj => by show (xs ((j : Int)).toNat).toInt = _; rw [Int.toNat_natCast]⟩
    ⟨hr, rfl, ⟨_, rfl⟩, rfl, Nat.zero_le _, Nat.zero_le _, fun q hq => hq⟩
  rw [lg_entry_eq]
  have hen := lv_entry ([Value.ref (ex 2)]) (n := 4) (Nat.le_of_ble_eq_true rfl)
  have hlook : ∀ (i : Nat) (v : fx_V), ([some (62, 2), none, none, none] : List (Option fx_V))[i]? = some (some v) → i = 0 ∧ v = (62, 2) := fun i v hi => by
    match i, hi with
    | 0, hi => cases hi; exact ⟨rfl, rfl⟩
    | 1, hi => cases hi
    | 2, hi => cases hi
    | 3, hi => cases hi
    | i + 4, hi => cases hi
  refine hJ (fun i v hi => ?_) (fun v hv => by cases hv) ⟨fun _ _ _ => (⟨by decide, by decide⟩ : fx_R 0), fun _ _ => (⟨by decide, by decide⟩ : fx_Rl 0)⟩ s.heap [] _ (fun k q hk => by cases hk) ⟨fun i j p q h => (by cases h), fun k q h => (by cases h)⟩ va_S.rf ⟨hen.1, hen.2.1, fun i v hi => ?_⟩
  · obtain ⟨rfl, rfl⟩ := hlook i v hi
    exact trivial
  · obtain ⟨rfl, rfl⟩ := hlook i v hi
    exact hen.2.2 _ List.mem_cons_self
