/-! ===== fx: what isn't the world's ===== -/
def fx_nm : List (String × Nat × MethodName) := [(RX4, 76, yX5_within), (RX3, 145, yX5_within), (RX0, 47, yX5_within), (RX1, 90, yX5_nextOrder), (RX5, 29, yX3_init), (RX5, 43, yX1_init), (RX5, 50, yX2_init)]
def fx_nf : List (String × Nat × String) := [(RX0, 92, "PAIR_PAYS"), (RX2, 71, "NEXT_ONE_ADDS")]
def fx_tab (t j : Nat) : Int := (([[2, 4, 2, 1, 4, 1], [1, 2, 8, 0, 2, 0]] : List (List Int)).getD t []).getD j 0
def fx_si : List Nat := [47, 56, 61, 66, 71, 76, 81, 86]
def fx_sx : List String := ["thing", "people", "hours", "hour", "line", "rich", "does", "need"]
def fx_sl : List Nat := [5, 6, 5, 4, 4, 4, 4, 4]
def fx_sb : List (List Int32) := [[116, 104, 105, 110, 103], [112, 101, 111, 112, 108, 101], [104, 111, 117, 114, 115], [104, 111, 117, 114], [108, 105, 110, 101], [114, 105, 99, 104], [100, 111, 101, 115], [110, 101, 101, 100]]
def fx_X (ex : Nat → Nat) (A : Nat → Prop) (U : State) : Prop :=
  (∀ q ∈ fx_nm, va_Nw (.methodLinkNest q.1 q.2.1 q.2.2 RX5) U) ∧ (∀ q ∈ fx_nf, va_Nw (.fieldLinkNest q.1 q.2.1 RX5 q.2.2 "[I" RX5) U) ∧
  (va_Z RX5 "PAIR_PAYS" "[I" (.ref (ex 0)) A U U.heap ∧ va_T .int (ex 0) 6 (fun j => .int (Int32.ofInt (fx_tab 0 j))) A U U.heap) ∧
  (va_Z RX5 "NEXT_ONE_ADDS" "[I" (.ref (ex 1)) A U U.heap ∧ va_T .int (ex 1) 6 (fun j => .int (Int32.ofInt (fx_tab 1 j))) A U U.heap) ∧
  va_Z "java/lang/String" "COMPACT_STRINGS" "Z" (.int 1) A U U.heap ∧ (va_Z RJ3 "SIOOBE_FORMATTER" "Ljava/util/function/BiFunction;" (fx_v (fun _ => 0) ex (64, 0)) A U U.heap) ∧ vk_S 8 fx_sl fx_sb (fun i => ex (10 + i)) (fun i => ex (20 + i)) A U U.heap ∧ ∀ i : Nat, i < 8 → vk_R RX3 (fx_si.getD i 0) (fx_sx.getD i "") (ex (10 + i)) U ∧ va_AO RX4 U ∧ (Cond.arrayOver (.array .int)).before #[] U = true
theorem fx_X_go {ex : Nat → Nat} {A B : Nat → Prop} {s U : State} (hW : s.WarmedH U.vm) (hq : ∀ a : Nat, a < s.heap.size → ¬ A a → U.heap[a]? = s.heap[a]?) (hAB : ∀ q, B q → A q) (h : fx_X ex A s) : fx_X ex B U := by
  obtain ⟨h1, h2, ⟨h3, h4⟩, ⟨h5, h6⟩, h7, hq7, h8, h9⟩ := h
  exact ⟨fun q hq => va_Nw.warmM hW (h1 q hq), fun q hq => va_Nw.warmF hW (h2 q hq), ⟨((h3.kept hq).moved hW.alike).narrow hAB, ((h4.kept hq).moved hW.alike).narrow hAB⟩, ⟨((h5.kept hq).moved hW.alike).narrow hAB, ((h6.kept hq).moved hW.alike).narrow hAB⟩,
    ((h7.kept hq).moved hW.alike).narrow hAB, ((hq7.kept hq).moved hW.alike).narrow hAB, ((h8.kept hq).moved hW.alike).narrow hAB, fun i hi => ⟨(h9 i hi).1.warm hW, (h9 i hi).2.1.moved hW.alike, over_moved hW.alike (h9 i hi).2.2⟩⟩
theorem fx_X_same {ex : Nat → Nat} {A : Nat → Prop} {u U : State} (hv : U.vm = u.vm) (hh : U.heap = u.heap) (h : fx_X ex A u) : fx_X ex A U := by
  have ha : u.vm.Alike U.vm := by rw [hv]; exact Vm.Alike.refl _
  obtain ⟨h1, h2, ⟨h3, h4⟩, ⟨h5, h6⟩, h7, hq7, h8, h9⟩ := h
  rw [← hh] at h3 h4 h5 h6 h7 hq7 h8
  exact ⟨fun q hq => va_Nw.same rfl hv.symm (h1 q hq), fun q hq => va_Nw.same rfl hv.symm (h2 q hq), ⟨h3.moved ha, h4.moved ha⟩, ⟨h5.moved ha, h6.moved ha⟩, h7.moved ha, hq7.moved ha, h8.moved ha, fun i hi => ⟨(h9 i hi).1.same hv, (h9 i hi).2.1.moved ha, over_moved ha (h9 i hi).2.2⟩⟩
/-! ===== fx: contracts ===== -/
def fx_Pc (D : va_G) (cy : Nat → ClassId) (ad ex : Nat → Nat) (Λ : fx_L) (as : List fx_V) (h : fx_H) (sz : Nat) : Array Value → State → Prop := va_Pc (as.map (fx_v ad ex)) (fun U => U.heap.size = sz ∧ va_P D vwCl (fx_ws cy ad Λ h) U.heap ∧ va_K D vwCl (fx_tys cy) U ∧ va_D (fun _ => True) (fx_ws cy ad Λ h) ∧ fx_X ex (va_A (fx_ws cy ad Λ h) sz) U)
def fx_Qc (D : va_G) (cy : Nat → ClassId) (ad ex : Nat → Nat) (Λ : fx_L) (A : Nat → Prop) (ro : Option fx_V) (ho : fx_H) : Array Value → State → Outcome → State → Prop := fun _ st oc t => (oc = .returned (ro.map (fx_v ad ex)) ∧ va_P D vwCl (fx_ws cy ad Λ ho) t.heap ∧ va_D A (fx_ws cy ad Λ ho) ∧ fx_rg ho ∧ ∀ v, ro = some v → fx_ok Λ v) ∧ va_F A st t
/-- the contract: the method, from these values and this heap, comes back with this answer and this heap -/
def fx_Met (y : MethodName) (cc : ByteArray) (nL : Nat) (ret : Option FieldType) (rm : Room) (Λ : fx_L) (as : List fx_V) (h : fx_H) (ro : Option fx_V) (ho : fx_H) : Prop := fx_rg h → (∀ v ∈ as, fx_ok Λ v) → fx_wf Λ → ∀ (l : Launch) (D : va_G) (cy : Nat → ClassId) (ad ex : Nat → Nat) (sz : Nat),
  Met l y (Cond.code y cc nL ret :: fx_WS) rm (fx_Pc D cy ad ex Λ as h sz) (fx_Qc D cy ad ex Λ (va_A (fx_ws cy ad Λ h) sz) ro ho) 0 0 (va_A (fx_ws cy ad Λ h) sz)
def fx_Fr (M : fx_M) (G : fx_G) (Λ : fx_L) (ret : Option FieldType) (ro : Option fx_V) (ho : fx_H) : Prop := match M, G with
  | (p, l, e, R, s, m, args, below, meth, c, cells, slots, Q), (D, cy, ad, ex, A) => meth.sig.returnType = ret ∧ Q = MQ below (fx_Qc D cy ad ex Λ A ro ho) args s cells slots A
def fx_lay : List fx_V → List (Option fx_V)
  | [] => []
  | v :: vs => match v.1 with
    | 1 => some v :: none :: fx_lay vs
    | _ => some v :: fx_lay vs
theorem fx_lay_1 (v : fx_V) (vs : List fx_V) (h : v.1 = 1) : fx_lay (v :: vs) = some v :: none :: fx_lay vs := by
  obtain ⟨t, x⟩ := v
  cases h
  rfl
theorem fx_lay_n (v : fx_V) (vs : List fx_V) (h : v.1 ≠ 1) : fx_lay (v :: vs) = some v :: fx_lay vs := by
  obtain ⟨t, x⟩ := v
  match t, h with
  | 0, _ => rfl
  | 1, h => exact absurd rfl h
  | t + 2, _ => rfl
theorem fx_cat2 (ad ex : Nat → Nat) {v : fx_V} (hv : v.1 = 1) : (fx_v ad ex v).category = 2 := by
  obtain ⟨t, x⟩ := v
  cases hv
  rfl
theorem fx_lay_len (ad ex : Nat → Nat) : ∀ as : List fx_V, (lg_sl (as.map (fx_v ad ex))).length = (fx_lay as).length
  | [] => rfl
  | v :: vs => by
    have ih := fx_lay_len ad ex vs
    by_cases h : v.1 = 1
    · rw [fx_lay_1 v vs h]
      simp only [List.map_cons, lg_sl, List.flatMap_cons, fx_cat2 ad ex h, if_true, List.length_append, List.length_cons, List.length_nil]
      unfold lg_sl at ih
      omega
    · rw [fx_lay_n v vs h]
      have hc : ¬ (fx_v ad ex v).category = 2 := by rw [fx_cat1 ad ex h]; decide
      simp only [List.map_cons, lg_sl, List.flatMap_cons, hc, if_false, List.length_append, List.length_cons, List.length_nil]
      unfold lg_sl at ih
      omega
theorem fx_lay_args (ad ex : Nat → Nat) : ∀ (as : List fx_V) (i j : Nat) (v : fx_V), (fx_lay as)[j]? = some (some v) → (i + j, fx_v ad ex v) ∈ lv_args i (as.map (fx_v ad ex)) ∧ v ∈ as
  | [], i, j, v, h => by simp [fx_lay] at h
  | w :: vs, i, j, v, h => by
    by_cases hw : w.1 = 1
    · rw [fx_lay_1 w vs hw] at h
      simp only [List.map_cons, lv_args, fx_cat2 ad ex hw, if_true]
      match j, h with
      | 0, h =>
        simp only [List.getElem?_cons_zero, Option.some.injEq] at h
        subst h
        exact ⟨List.mem_cons_self, List.mem_cons_self⟩
      | 1, h => simp at h
      | j + 2, h =>
        have h2 : (fx_lay vs)[j]? = some (some v) := by simpa using h
        obtain ⟨a1, a2⟩ := fx_lay_args ad ex vs (i + 2) j v h2
        refine ⟨List.mem_cons_of_mem _ ?_, List.mem_cons_of_mem _ a2⟩
        rw [show i + (j + 2) = i + 2 + j by omega]
        exact a1
    · rw [fx_lay_n w vs hw] at h
      have hc : ¬ (fx_v ad ex w).category = 2 := by rw [fx_cat1 ad ex hw]; decide
      simp only [List.map_cons, lv_args, hc, if_false]
      match j, h with
      | 0, h =>
        simp only [List.getElem?_cons_zero, Option.some.injEq] at h
        subst h
        exact ⟨List.mem_cons_self, List.mem_cons_self⟩
      | j + 1, h =>
        have h2 : (fx_lay vs)[j]? = some (some v) := by simpa using h
        obtain ⟨a1, a2⟩ := fx_lay_args ad ex vs (i + 1) j v h2
        refine ⟨List.mem_cons_of_mem _ ?_, List.mem_cons_of_mem _ a2⟩
        rw [show i + (j + 1) = i + 1 + j by omega]
        exact a1
theorem fx_enter {y : MethodName} {cc : ByteArray} {nL : Nat} {ret : Option FieldType} {rm : Room} {Λ : fx_L} {as : List fx_V} {h : fx_H} {ro : Option fx_V} {ho : fx_H} {ls : List (Option fx_V)} (hy : plainName y.cls = true) (hlen : (fx_lay as).length ≤ nL) (hls : fx_lay as ++ List.replicate (nL - (fx_lay as).length) none = ls)
    (body : ∀ (M : fx_M) (G : fx_G), fx_F fx_X M G Λ cc y.cls nL rm → fx_Fr M G Λ ret ro ho → fx_J M G Λ nL 0 ls [] h) : fx_Met y cc nL ret rm Λ as h ro ho := by
  subst hls
  intro hR hok hwf l D cy ad ex sz
  refine Met.ofW (cc := cc) (maxL := nL) (ret := ret) hy rfl ?_
  intro p e s m args below meth c s₁ B hml hv
  obtain ⟨rfl, hsz, hP, hK, hD0, hX⟩ := hv
  have hts := atoms_spec (ws := Cond.code y cc nL ret :: fx_WS) B.pre
  have hown : s.vm.findClass y.cls = some m.cls := findClass_of_methodNamed B.named
  subst hsz
  have hD := hD0.self (sz := s.heap.size)
  rw [lg_entry_eq]
  have hsub : ∀ (i : Nat) (v : fx_V), (fx_lay as ++ List.replicate (nL - (fx_lay as).length) none)[i]? = some (some v) → (fx_lay as)[i]? = some (some v) := fun i v hi => by
    by_cases hi2 : i < (fx_lay as).length
    · rwa [List.getElem?_append_left hi2] at hi
    · rw [List.getElem?_append_right (by omega)] at hi
      have := List.mem_of_getElem? hi
      rw [List.mem_replicate] at this
      cases this.2
  have hen := lv_entry (as.map (fx_v ad ex)) (n := nL) (by rw [fx_lay_len]; exact hlen)
  exact body (p, l, e, rm, s, m, _, below, meth, c, 0, 0, _) (D, cy, ad, ex, va_A (fx_ws cy ad Λ h) s.heap.size) ⟨B.exec, B.bytes, hml, hown, fun w hw => hts w (List.mem_cons_of_mem _ hw), hK, hwf, fun q hq => Or.inr hq, rfl, B.notSynchronized, ⟨Nat.zero_le _, Nat.zero_le _⟩, hX⟩ ⟨B.returns, rfl⟩
    (fun i v hi => hok v (fx_lay_args ad ex as 0 i v (hsub i v hi)).2) (fun v hv => by cases hv) hR s.heap [] _ hP hD va_S.rf ⟨hen.1, hen.2.1, fun i v hi => by
      have := hen.2.2 _ (fx_lay_args ad ex as 0 i v (hsub i v hi)).1
      simpa using this⟩
section FXC
variable {M : fx_M} {G : fx_G} {Λ : fx_L} {cc : ByteArray} {own : String} {nL pc : Nat} {rm : Room} {ls : List (Option fx_V)} {st : List fx_V} {h : fx_H}
theorem fx_free {A : Nat → Prop} {ws : va_W} {H0 H : Heap} {locs : List Loc} (hD : va_D A ws) (hS : va_S A H0 H locs) (hA : ∀ q, H0.size ≤ q → A q) : ∀ q, va_A ws H.size q → A q := fun q hq => by
  rcases hq with ⟨k, e, hk⟩ | hq
  · exact hD.2 k _ hk
  · exact hA q (Nat.le_trans hS.1 hq)
theorem fx_ireturn (F : fx_F fx_X M G Λ cc own nL rm) {x : Int} (K : fx_Fr M G Λ (some .int) (some (0, x)) h) (d : decode cc pc = .ok (.ireturn, 1)) : fx_J M G Λ nL pc ls [(0, x)] h := by
  obtain ⟨p, l, e, R, s, m, args, below, meth, c, cells, slots, Q⟩ := M
  obtain ⟨D, cy, ad, ex, A⟩ := G
  obtain ⟨hx, hb, hml, hown, hts, hK, hwf, hA, hRm, hlocks, hcr, hX⟩ := F
  intro hls hst hR H locs la hP hD hS hl
  obtain ⟨hrt, hQ⟩ := K
  subst hQ
  exact W.iret hx hb hrt (fun t ht _ => ⟨⟨rfl, by rw [ht]; exact hP, hD, hR, fun v hv => by cases hv; exact hst _ List.mem_cons_self⟩, hS.F ht⟩) hS.2.2 d hlocks
theorem fx_zreturn (F : fx_F fx_X M G Λ cc own nL rm) {x : Int} (hbz : x = 0 ∨ x = 1) (K : fx_Fr M G Λ (some .boolean) (some (0, x)) h) (d : decode cc pc = .ok (.ireturn, 1)) : fx_J M G Λ nL pc ls [(0, x)] h := by
  obtain ⟨p, l, e, R, s, m, args, below, meth, c, cells, slots, Q⟩ := M
  obtain ⟨D, cy, ad, ex, A⟩ := G
  obtain ⟨hx, hb, hml, hown, hts, hK, hwf, hA, hRm, hlocks, hcr, hX⟩ := F
  intro hls hst hR H locs la hP hD hS hl
  obtain ⟨hrt, hQ⟩ := K
  subst hQ
  exact W.zret hx hb hrt (by rcases hbz with rfl | rfl <;> rfl) (fun t ht _ => ⟨⟨rfl, by rw [ht]; exact hP, hD, hR, fun v hv => by cases hv; exact hst _ List.mem_cons_self⟩, hS.F ht⟩) hS.2.2 d hlocks
theorem fx_lreturn (F : fx_F fx_X M G Λ cc own nL rm) {x : Int} (K : fx_Fr M G Λ (some .long) (some (1, x)) h) (d : decode cc pc = .ok (.lreturn, 1)) : fx_J M G Λ nL pc ls [(1, x)] h := by
  obtain ⟨p, l, e, R, s, m, args, below, meth, c, cells, slots, Q⟩ := M
  obtain ⟨D, cy, ad, ex, A⟩ := G
  obtain ⟨hx, hb, hml, hown, hts, hK, hwf, hA, hRm, hlocks, hcr, hX⟩ := F
  intro hls hst hR H locs la hP hD hS hl
  obtain ⟨hrt, hQ⟩ := K
  subst hQ
  exact W.lret hx hb hrt (fun t ht _ => ⟨⟨rfl, by rw [ht]; exact hP, hD, hR, fun v hv => by cases hv; exact hst _ List.mem_cons_self⟩, hS.F ht⟩) hS.2.2 d hlocks
theorem fx_vreturn (F : fx_F fx_X M G Λ cc own nL rm) (K : fx_Fr M G Λ none none h) (d : decode cc pc = .ok (.return_, 1)) : fx_J M G Λ nL pc ls [] h := by
  obtain ⟨p, l, e, R, s, m, args, below, meth, c, cells, slots, Q⟩ := M
  obtain ⟨D, cy, ad, ex, A⟩ := G
  obtain ⟨hx, hb, hml, hown, hts, hK, hwf, hA, hRm, hlocks, hcr, hX⟩ := F
  intro hls hst hR H locs la hP hD hS hl
  obtain ⟨hrt, hQ⟩ := K
  subst hQ
  exact W.vret hx hb hrt (fun t ht _ => ⟨⟨rfl, by rw [ht]; exact hP, hD, hR, fun v hv => by cases hv⟩, hS.F ht⟩) hS.2.2 d hlocks
theorem fx_areturn (F : fx_F fx_X M G Λ cc own nL rm) {x : Int} {k : Nat} {ty : FieldType} (K : fx_Fr M G Λ (some (.array ty)) (some (k + 2, x)) h) (d : decode cc pc = .ok (.areturn, 1)) (hk20 : k ≠ 62 := by decide) : fx_J M G Λ nL pc ls [(k + 2, x)] h := by
  obtain ⟨p, l, e, R, s, m, args, below, meth, c, cells, slots, Q⟩ := M
  obtain ⟨D, cy, ad, ex, A⟩ := G
  obtain ⟨hx, hb, hml, hown, hts, hK, hwf, hA, hRm, hlocks, hcr, hX⟩ := F
  intro hls hst hR H locs la hP hD hS hl
  obtain ⟨hrt, hQ⟩ := K
  subst hQ
  obtain ⟨q, hq⟩ := fx_v_ref ad ex k x hk20
  exact W.aret hx hb hrt (Or.inr ⟨_, rfl⟩) (Or.inr ⟨q, hq⟩) (fun t ht _ => ⟨⟨rfl, by rw [ht]; exact hP, hD, hR, fun v hv => by cases hv; exact hst _ List.mem_cons_self⟩, hS.F ht⟩) hS.2.2 d hlocks
theorem fx_blind {D : va_G} {cy : Nat → ClassId} {ad ex : Nat → Nat} {as : List fx_V} {sz : Nat} : FrameBlind (fx_Pc D cy ad ex Λ as h sz) := fun a U g mk q => by
  obtain ⟨q0, q1, qP, qK, qD, qX⟩ := q
  exact ⟨q0, q1, qP, va_K.moved (u := U) (U := U.calling g mk a) (Vm.Alike.refl U.vm) qK, qD, fx_X_same (u := U) rfl rfl qX⟩
theorem fx_pre {D : va_G} {cy : Nat → ClassId} {ad ex : Nat → Nat} {A : Nat → Prop} {s : State} {H : Heap} {locs : List Loc} {as : List fx_V} (hK : va_K D vwCl (fx_tys cy) s) (hP : va_P D vwCl (fx_ws cy ad Λ h) H) (hD : va_D A (fx_ws cy ad Λ h)) (hS : va_S A s.heap H locs) (hA : ∀ q, s.heap.size ≤ q → A q) (hX : fx_X ex A s) : ∀ U : State, U.heap = H → s.WarmedH U.vm → fx_Pc D cy ad ex Λ as h H.size (as.map (fx_v ad ex)).toArray U := fun U hU hW =>
  ⟨rfl, by rw [hU], by rw [hU]; exact hP, va_K.moved hW.alike hK, hD.weaken (fun _ _ _ _ => trivial), fx_X_go hW (fun a h1 h2 => by rw [hU]; exact hS.2.1 a h1 h2) (fx_free hD hS hA) hX⟩
theorem fx_after {p : Program} {l : Launch} {e : Env} {R : Room} {s : State} {m : MethodId} {args aa : Array Value} {below : List Frame} {meth : Method} {c : Code} {H : Heap} {locs : List Loc} {cells slots : Nat} {Q : State → Prop} {la : Array Slot} {rest stk : List Value} {D : va_G} {cy : Nat → ClassId} {ad ex : Nat → Nat} {A : Nat → Prop} {ro : Option fx_V} {ho : fx_H}
    (hr : va_Run p l e R s m args below meth c H locs cells slots 0 0 (F0 m pc la stk) rest (fx_Qc D cy ad ex Λ (va_A (fx_ws cy ad Λ h) H.size) ro ho aa) (va_A (fx_ws cy ad Λ h) H.size)) (hD : va_D A (fx_ws cy ad Λ h)) (hS : va_S A s.heap H locs) (hA : ∀ q, s.heap.size ≤ q → A q)
    (kk : ∀ (H1 : Heap) (locs1 : List Loc), va_P D vwCl (fx_ws cy ad Λ ho) H1 → va_D A (fx_ws cy ad Λ ho) → va_S A s.heap H1 locs1 → fx_rg ho → (∀ v, ro = some v → fx_ok Λ v) → W p l e R s m args below meth c H1 locs1 cells slots Q (F0 m (pc + 3) la ((ro.map (fx_v ad ex)).toList ++ rest))) : W p l e R s m args below meth c H locs cells slots Q (F0 m pc la stk) := by
  intro T hT X
  have hF := fx_free hD hS hA
  obtain ⟨v, st₀, t, T', L, h0, X', hL, e1, e2, ⟨⟨hv, hP1, hD1, hR1, hO1⟩, hz, hk⟩, st⟩ := hr T hT X
  cases hv
  rw [h0] at hz hk
  obtain ⟨t2, a1, b1⟩ := kk T'.heap (locs ++ L) (by rw [e1]; exact hP1) (hD1.weaken (fun k q _ h => hF q.1 h))
    ⟨Nat.le_trans hS.1 (by rw [e1]; exact hz), fun q h1 h2 => by rw [e1, hk q (Nat.lt_of_lt_of_le h1 hS.1) (fun z => h2 (hF q z))]; exact hS.2.1 q h1 h2, fun q hq => by
      rcases List.mem_append.mp hq with h | h
      · exact hS.2.2 q h
      · exact hF _ (hL q h)⟩ hR1 hO1 T' rfl X'
  exact ⟨t2, st t2 a1, b1⟩
/-- what the words say of a method -/
def fx_md (y : MethodName) (cc : ByteArray) (nL : Nat) (ret : Option FieldType) (n : Nat) : Prop := (y.cls ≠ "java/lang/invoke/MethodHandle" ∧ y.cls ≠ "java/lang/invoke/VarHandle" ∧ (parseMethodDescriptor y.desc).map (fun d => d.parameters.length) = some n) ∧ Cond.code y cc nL ret ∈ fx_WS ∧ Cond.initialized y.cls ∈ fx_WS
def fx_mi (y : MethodName) : Prop := Cond.instanceMethod y ∈ fx_WS ∧ Cond.selects y.cls y y ∈ fx_WS
theorem fx_goodm {y : MethodName} {cc' : ByteArray} {nL' : Nat} {ret : Option FieldType} {n : Nat} (hd : fx_md y cc' nL' ret n) : GoodIn fx_WS (Cond.code y cc' nL' ret :: fx_WS) := fun w hw => by
  rcases List.mem_cons.mp hw with rfl | hw
  · exact fx_WS_good _ hd.2.1
  · exact fx_WS_good _ hw
def fx_c8 (st : List fx_V) : Nat := (st.map (fun v : fx_V => match v.1 with | 1 => 2 | _ => 1)).sum
theorem fx_c8_le {ad ex : Nat → Nat} : ∀ st : List fx_V, ((st.map (fx_v ad ex)).map fun v => v.category).sum = fx_c8 st
  | [] => rfl
  | v :: st => by
    have ih := fx_c8_le (ad := ad) (ex := ex) st
    unfold fx_c8 at ih ⊢
    simp only [List.map_cons, List.sum_cons, ih]
    congr 1
    obtain ⟨t, x⟩ := v
    match t with
    | 0 => rfl
    | 1 => rfl
    | k + 2 => exact fx_v_cat ad ex k x
theorem fx_okr {ro : Option fx_V} {st : List fx_V} (h1 : ∀ v, ro = some v → fx_ok Λ v) (h2 : ∀ w ∈ st, fx_ok Λ w) : ∀ w ∈ ro.toList ++ st, fx_ok Λ w := fun w hw => by
  rcases List.mem_append.mp hw with hw | hw
  · cases ro with
    | none => cases hw
    | some v =>
      rcases List.mem_cons.mp hw with rfl | hw
      · exact h1 _ rfl
      · cases hw
  · exact h2 w hw
theorem fx_mapr {ad ex : Nat → Nat} {ro : Option fx_V} {st : List fx_V} : (ro.toList ++ st).map (fx_v ad ex) = (ro.map (fx_v ad ex)).toList ++ st.map (fx_v ad ex) := by
  cases ro <;> rfl
theorem fx_callV (F : fx_F fx_X M G Λ cc own nL rm) {y : MethodName} {cc' : ByteArray} {nL' index N : Nat} {ret : Option FieldType} {rm' : Room} {C : String} {T : u_T} (ci : Nat) (hC : fx_cls ci C T N) (as : List fx_V) {b : Int} {ro : Option fx_V} {ho : fx_H} (hM : fx_Met y cc' nL' ret rm' Λ ((ci + 2, b) :: as) h ro ho) (hd : fx_md y cc' nL' ret as.length) (hi : fx_mi y) (hyC : y.cls = C) (lk : Cond.methodLink own index y ∈ fx_WS) (hrm : rm'.cells = 0 ∧ rm'.slots = 0) (hRR : rm'.frames + 1 ≤ rm.frames ∧ 8 + (nL' + 11) + rm'.locals ≤ rm.locals) (hc8 : fx_c8 st ≤ 8) {stk : List fx_V} (hstk : stk = as.reverse ++ (ci + 2, b) :: st) (d : decode cc pc = .ok (.invokevirtual index, 3)) (g : fx_J M G Λ nL (pc + 3) ls (ro.toList ++ st) ho) : fx_J M G Λ nL pc ls stk h := by
  subst hstk
  obtain ⟨p, l, e, R, s, m, args, below, meth, c, cells, slots, Q⟩ := M
  obtain ⟨D, cy, ad, ex, A⟩ := G
  obtain ⟨hx, hb, hml, hown, hts, hK, hwf, hA, hRm, hlocks, hcr, hX⟩ := F
  intro hls hst hR H locs la hP hD hS hl
  subst hRm
  subst hyC
  obtain ⟨hc, h7, hN, hlen, hin, -, hnm⟩ := hC
  have hbok : fx_ok Λ (ci + 2, b) := hst _ (List.mem_append_right _ List.mem_cons_self)
  have has : ∀ v ∈ as, fx_ok Λ v := fun v hv => hst v (List.mem_append_left _ (List.mem_reverse.mpr hv))
  have hr' : ∀ v ∈ st, fx_ok Λ v := fun v hv => hst v (List.mem_append_right _ (List.mem_cons_of_mem _ hv))
  obtain ⟨h0, h1, hkd⟩ := fx_ok_cell (by omega) hbok
  have he := fx_ws_at (cy := cy) (ad := ad) (h := h) h0 h1
  rw [fx_cell_obj hkd h7] at he
  have hM' := hM hR (fx_okc hbok has) hwf l D cy ad ex H.size
  have hbv : fx_v ad ex (ci + 2, b) = .ref (ad b.toNat) := fx_v_cell (by omega)
  have hcB : CallB R s args own index y cc' nL' ret (Cond.code y cc' nL' ret :: fx_WS) rm' 0 0 as.length := callB_of as.length hts (fx_goodm hd) rfl hrm.1 hrm.2 (hts _ hd.2.2) (hts _ lk) hd.1 hRR
  have hpre := fx_pre (as := (ci + 2, b) :: as) hK hP hD hS hA hX
  rw [List.map_cons, hbv] at hpre
  rw [List.map_append, List.map_reverse, List.map_cons, hbv]
  refine fx_after (va_runV (C := y.cls) (As := as.map (fx_v ad ex)) (rest := st.map (fx_v ad ex)) ⟨hx, hb, hml, hown, hts⟩ hM' ⟨hcB, hts _ hi.1, hts _ hi.2⟩ ⟨fx_blind, va_recv hK hP hc he, hpre⟩ rfl (by simp) hl.1 rfl (lv_room (by rw [fx_c8_le]; exact hc8)) d ⟨?_, ?_⟩) hD hS hA (fun H1 locs1 hP1 hD1 hS1 hR1 hO1 => ?_)
  · exact hcr.1
  · exact hcr.2
  · rw [← fx_mapr]
    exact g hls (fx_okr hO1 hr') hR1 H1 locs1 la hP1 hD1 hS1 hl
end FXC
