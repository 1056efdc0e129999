def fx_rtg (a : Int) (k k' : Nat) (v : fx_V) : fx_V := if v = (k + 2, a) then (k' + 2, a) else v
theorem fx_rtg_v {ad ex : Nat → Nat} {a : Int} {k k' : Nat} (hk : k < 60) (hk' : k' < 60) (v : fx_V) : fx_v ad ex (fx_rtg a k k' v) = fx_v ad ex v := by
  unfold fx_rtg
  split
  · rename_i e
    rw [e, fx_v_cell hk, fx_v_cell hk']
  · rfl
theorem fx_rtg_ok {Λ Λ' : fx_L} {a : Int} {k k' : Nat} (hk : k < 60) (hk' : k' < 60) (hle : Λ.1 ≤ Λ'.1) (hkd : ∀ x : Int, 0 ≤ x → x < Λ.1 → fx_kd Λ' x = if x = a then k' else fx_kd Λ x) (ha : fx_at Λ a k) {v : fx_V} (h : fx_ok Λ v) : fx_ok Λ' (fx_rtg a k k' v) := by
  obtain ⟨a0, a1, a2⟩ := ha
  unfold fx_rtg
  split
  · exact fx_cell_ok hk' ⟨a0, by omega, by rw [hkd a a0 a1, if_pos rfl]⟩
  · rename_i hne
    obtain ⟨t, x⟩ := v
    match t, h, hne with
    | 0, h, _ => exact h
    | 1, h, _ => exact h
    | j + 2, h, hne =>
      unfold fx_ok at h ⊢
      cases hb : Nat.ble 60 j
      · simp only [hb] at h ⊢
        obtain ⟨g0, g1, g2⟩ := h
        refine ⟨g0, by omega, ?_⟩
        rw [hkd x g0 g1]
        by_cases hx : x = a
        · subst hx
          exact absurd (by rw [← g2, a2]) hne
        · rw [if_neg hx]; exact g2
      · simp only [hb]
theorem fx_rtg_ls {Λ Λ' : fx_L} {a : Int} {k k' : Nat} {ls ls' : List (Option fx_V)} (hs : ls.map (Option.map (fx_rtg a k k')) = ls') (P : fx_V → Prop) (hP : ∀ v, fx_ok Λ v → P (fx_rtg a k k' v)) (hls : ∀ (i : Nat) (v : fx_V), ls[i]? = some (some v) → fx_ok Λ v) : ∀ (i : Nat) (v : fx_V), ls'[i]? = some (some v) → ∃ w, ls[i]? = some (some w) ∧ v = fx_rtg a k k' w ∧ P v := by
  subst hs
  intro i v hi
  rw [List.getElem?_map] at hi
  cases hq : ls[i]? with
  | none => rw [hq] at hi; cases hi
  | some o =>
    rw [hq] at hi
    cases o with
    | none => cases hi
    | some w =>
      have : v = fx_rtg a k k' w := by
        have := Option.some.inj (Option.some.inj hi)
        exact this.symm
      exact ⟨w, rfl, this, by rw [this]; exact hP w (hls i w hq)⟩
section FXL
variable {M : fx_M} {D : va_G} {cy : Nat → ClassId} {ad ex ad0 : Nat → Nat} {A : Nat → Prop} {Λ : fx_L} {cc : ByteArray} {own : String} {nL pc c n n0 mc ms : Nat} {rm : Room} {ls ls' : List (Option fx_V)} {st st' : List fx_V} {h : fx_H} {Λf : fx_L} {hof : fx_H}
theorem fx_seal (F : fx_FC M D cy ad ex A Λ cc own nL rm c n ad0 n0) {a : Int} (k k' : Nat) (hk : (12 ≤ k ∧ k < 19 ∧ k' = k - 12) ∨ (k = 22 ∧ k' = 10)) (ha : fx_at Λ a k) (hnew : (k' < 7 → ∀ (i j : Nat), (fx_ft k')[i]? = some (j + 2) → fx_at (fx_skd Λ a k') (fx_tg Λ a i) j) ∧ (k' = 10 → ∀ i : Int, 0 ≤ i → i < fx_ln Λ a → fx_at (fx_skd Λ a k') (fx_tg Λ a i) 4)) (hls' : ls.map (Option.map (fx_rtg a k k')) = ls') (hst' : st.map (fx_rtg a k k') = st') (g : fx_FC M D cy ad ex A (fx_skd Λ a k') cc own nL rm c n ad0 n0 → fx_J M (D, cy, ad, ex, A) (fx_skd Λ a k') nL pc ls' st' h) : fx_J M (D, cy, ad, ex, A) Λ nL pc ls st h := by
  have F' := F
  obtain ⟨p, l, e, R, s, m, args, below, meth, cd, cells, slots, Q⟩ := M
  obtain ⟨⟨hx, hb, hml, hown, hts, hK, hwf, hA, hRm, hlocks, hcr, hX⟩, hbd, hcs, hext, hn0⟩ := F
  obtain ⟨a0, a1, a2⟩ := ha
  have hk60 : k < 60 := by omega
  have hk60' : k' < 60 := by omega
  have hkd : ∀ x : Int, fx_kd (fx_skd Λ a k') x = if x = a then k' else fx_kd Λ x := fun x => rfl
  have hat : ∀ (x : Int) (j : Nat), j < 12 → fx_at Λ x j → fx_at (fx_skd Λ a k') x j := fun x j hj hh => by
    refine ⟨hh.1, hh.2.1, ?_⟩
    rw [hkd, if_neg (fun z => ?_)]
    · exact hh.2.2
    · have := hh.2.2
      rw [z] at this
      omega
  have htag : ∀ (q i j : Nat), q < 7 → (fx_ft q)[i]? = some (j + 2) → j < 12 := fun q i j hq hi => by
    have hall : ∀ q, q < 7 → (fx_ft q).all (fun t => decide (t < 14)) = true := by decide
    have := List.all_eq_true.mp (hall q hq) _ (List.mem_of_getElem? hi)
    simp at this
    omega
  have hwf' : fx_wf (fx_skd Λ a k') := by
    intro x x0 x1
    obtain ⟨w1, w2, w3, w4, w5⟩ := hwf x x0 x1
    refine ⟨w1, w2, ?_, ?_, ?_⟩
    · rw [hkd]
      by_cases hxa : x = a
      · rw [if_pos hxa, hxa]; exact hnew.1
      · rw [if_neg hxa]
        intro q i j hj
        exact hat _ _ (htag _ i j q hj) (w3 q i j hj)
    · rw [hkd]
      by_cases hxa : x = a
      · rw [if_pos hxa, hxa]; exact hnew.2
      · rw [if_neg hxa]
        intro q i i1 i2
        exact hat _ _ (by omega) (w4 q i i1 i2)
    · rw [hkd]
      by_cases hxa : x = a
      · rw [if_pos hxa]; intro q; omega
      · rw [if_neg hxa]
        intro q i i1 i2
        exact hat _ _ (by omega) (w5 q i i1 i2)
  have hbd' : fx_bd (fx_skd Λ a k') := fun x i x0 x1 => hbd x i x0 x1
  have hws : fx_ws cy ad (fx_skd Λ a k') h = fx_ws cy ad Λ h := by
    unfold fx_ws
    apply List.map_congr_left
    intro j hj
    congr 1
    by_cases hja : (j : Int) = a
    · have e1 : fx_kd (fx_skd Λ a k') (j : Int) = k' := by rw [hkd, if_pos hja]
      have e2 : fx_kd Λ (j : Int) = k := by rw [hja]; exact a2
      rcases hk with ⟨k1, k2, rfl⟩ | ⟨rfl, rfl⟩
      · have e3 : fx_kd Λ (j : Int) = 12 + (k - 12) := by rw [e2]; omega
        rw [fx_cell_obj e1 (by omega), fx_cell_objU e3 (by omega)]
        rfl
      · unfold fx_cell
        rw [e1, e2]
        rfl
    · exact fx_cell_congr (by rw [hkd, if_neg hja]) rfl (fun _ => rfl) (fun _ => rfl)
  intro hls hst hR H locs la hP hD hS hl
  have hkdle : ∀ x : Int, 0 ≤ x → x < Λ.1 → fx_kd (fx_skd Λ a k') x = if x = a then k' else fx_kd Λ x := fun x _ _ => hkd x
  have hl1 := fx_rtg_ls (Λ' := fx_skd Λ a k') hls' (fun v => fx_ok (fx_skd Λ a k') v) (fun v hv => fx_rtg_ok (Λ := Λ) (Λ' := fx_skd Λ a k') hk60 hk60' (Nat.le_refl _) hkdle ⟨a0, a1, a2⟩ hv) hls
  have h9 := g (fx_FC_lay F' rfl hwf' hbd') (fun i v hi => by obtain ⟨w, -, -, hw⟩ := hl1 i v hi; exact hw) (fun v hv => by
      rw [← hst'] at hv
      obtain ⟨w, hw, rfl⟩ := List.mem_map.mp hv
      exact fx_rtg_ok (Λ := Λ) (Λ' := fx_skd Λ a k') hk60 hk60' (Nat.le_refl _) hkdle ⟨a0, a1, a2⟩ (hst w hw)) hR H locs la (by rw [hws]; exact hP) (by rw [hws]; exact hD) hS ⟨hl.1, hl.2.1, fun i v hi => by
      obtain ⟨w, hw, hvw, -⟩ := hl1 i v hi
      rw [hvw, fx_rtg_v hk60 hk60']
      exact hl.2.2 i w hw⟩
  rw [← hst', List.map_map] at h9
  have em : (fx_v ad ex ∘ fx_rtg a k k') = fx_v ad ex := funext (fun v => fx_rtg_v hk60 hk60' v)
  rw [em] at h9
  exact h9
theorem fx_astU (F : fx_FC M D cy ad ex A Λ cc own nL rm c n ad0 n0) {a i b : Int} (h2 : 0 ≤ i) (h3 : i < fx_ln Λ a) (d : decode cc pc = .ok (.aastore, 1)) (g : fx_FC M D cy ad ex A (fx_stg Λ a i b) cc own nL rm c n ad0 n0 → fx_J M (D, cy, ad, ex, A) (fx_stg Λ a i b) nL (pc + 1) ls st h) : fx_J M (D, cy, ad, ex, A) Λ nL pc ls ((4 + 2, b) :: (0, i) :: (22 + 2, a) :: st) h := by
  have F' := F
  obtain ⟨p, l, e, R, s, m, args, below, meth, cd, cells, slots, Q⟩ := M
  obtain ⟨⟨hx, hb, hml, hown, hts, hK, hwf, hA, hRm, hlocks, hcr, hX⟩, hbd, hcs, hext, hn0⟩ := F
  intro hls hst hR H locs la hP hD hS hl
  have hz' := hst _ List.mem_cons_self
  have hy' := hst _ (List.mem_cons_of_mem _ List.mem_cons_self)
  have hx' := hst _ (List.mem_cons_of_mem _ (List.mem_cons_of_mem _ List.mem_cons_self))
  have hr' : ∀ v ∈ st, fx_ok Λ v := fun v hv => hst v (List.mem_cons_of_mem _ (List.mem_cons_of_mem _ (List.mem_cons_of_mem _ hv)))
  obtain ⟨h0, h1, hkd⟩ := fx_ok_cell (by decide) hx'
  obtain ⟨b0, b1, hkb⟩ := fx_ok_cell (by decide) hz'
  have hir := fx_ok_i hy'
  have he := fx_ws_at (cy := cy) (ad := ad) (h := h) h0 h1
  have hcell : ∀ Λ : fx_L, fx_kd Λ a = 22 → fx_cell cy ad Λ h a = fx_ar (cy 3) ad Λ a := fun Λ hk => by unfold fx_cell; rw [hk]; rfl
  rw [hcell Λ hkd] at he
  have hbv := fx_ws_at (cy := cy) (ad := ad) (h := h) b0 b1
  rw [fx_cell_obj hkb (by decide)] at hbv
  rw [List.map_cons, List.map_cons, List.map_cons, fx_v_cell (by decide), fx_v_cell (by decide)]
  refine va_astq hx hb hK hP hD hS a.toNat 3 b.toNat 4 he rfl hbv rfl (fx_in hir h2 (by omega)) d (fun H1 locs1 hP1 hD1 hS1 => ?_)
  have hc1 : fx_cell cy ad (fx_stg Λ a i b) h a = .inl (cy 3, (fx_ln Λ a).toNat, .inr (.inr (.inr (.inr (va_up (fun j : Nat => fx_ro ad (fx_tg Λ a j)) (Int32.ofInt (0, i).2).toNatClampNeg (some (ad b.toNat))))))) := by
    rw [hcell (fx_stg Λ a i b) hkd]
    show (Sum.inl (cy 3, (fx_ln Λ a).toNat, .inr (.inr (.inr (.inr (fun j : Nat => fx_ro ad (fx_tg (fx_stg Λ a i b) a j)))))) : va_E) = _
    congr 7
    funext j
    rw [fx_cl hir]
    unfold va_up
    have et : fx_tg (fx_stg Λ a i b) a j = if (j : Int) = i then b else fx_tg Λ a j := by
      show (if a = a ∧ (j : Int) = i then b else fx_tg Λ a j) = _
      by_cases hji : (j : Int) = i
      · rw [if_pos ⟨rfl, hji⟩, if_pos hji]
      · rw [if_neg (fun z => hji z.2), if_neg hji]
    rw [et]
    by_cases hj : j = i.toNat
    · rw [if_pos hj, if_pos (by omega), fx_ro_pos b0]
    · rw [if_neg hj, if_neg (by omega)]
  rw [fx_ws_stg h0 hc1] at hP1 hD1
  exact g (fx_FC_lay F' rfl (fx_wf_stg hwf (by omega)) (fx_bd_stg hbd (by omega))) (fun i v hi => fx_ok_mono (Λ := Λ) (Nat.le_refl _) (fun _ _ _ => rfl) (hls i v hi)) (fun v hv => fx_ok_mono (Λ := Λ) (Nat.le_refl _) (fun _ _ _ => rfl) (hr' v hv)) hR H1 locs1 la hP1 hD1 hS1 hl
/-- a reference field of an object that is being made -/
theorem fx_getU (F : fx_FC M D cy ad ex A Λ cc own nL rm c n ad0 n0) {a : Int} {C : String} {T : u_T} {N index : Nat} (ci k r : Nat) (b : Int) (hC : fx_cls ci C T N) (hr60 : r < 60) (ht : ∃ q, (fx_ft ci)[k]? = some (q + 2)) (hb : fx_tg Λ a k = b) (hat : fx_at Λ b r) (lk : Cond.fieldLink own index (T k).1 (T k).2.1 (T k).2.2.1 ∈ fx_WS) (d : decode cc pc = .ok (.getfield index, 3)) (g : fx_J M (D, cy, ad, ex, A) Λ nL (pc + 3) ls ((r + 2, b) :: st) h) : fx_J M (D, cy, ad, ex, A) Λ nL pc ls ((12 + ci + 2, a) :: st) h := by
  obtain ⟨p, l, e, R, s, m, args, below, meth, cd, cells, slots, Q⟩ := M
  obtain ⟨⟨hx, hbb, hml, hown, hts, hK, hwf, hA, hRm, hlocks, hcr, hX⟩, hbd, hcs, hext, hn0⟩ := F
  intro hls hst hR H locs la hP hD hS hl
  have hx' := hst _ List.mem_cons_self
  have hr' : ∀ v ∈ st, fx_ok Λ v := fun v hv => hst v (List.mem_cons_of_mem _ hv)
  obtain ⟨hc, h7, hN, hlen, hin, ⟨ty0, hty⟩, hnm⟩ := hC
  obtain ⟨q, ht⟩ := ht
  obtain ⟨h0, h1, hkd⟩ := fx_ok_cell (by omega) hx'
  have hk : k < N := by rw [← hlen]; exact (List.getElem?_eq_some_iff.mp ht).1
  have he := fx_ws_at (cy := cy) (ad := ad) (h := h) h0 h1
  rw [fx_cell_objU hkd h7] at he
  rw [List.map_cons, fx_v_cell (by omega)]
  have h9 := g hls (fx_okc (fx_cell_ok hr60 hat) hr') hR H locs la hP hD hS hl
  rw [List.map_cons, fx_v_cell hr60] at h9
  have e5 : fx_fv ad Λ h a k (q + 2) = .ref (ad b.toNat) := by
    show va_rf (fx_ro ad (fx_tg Λ a k)) = _
    rw [hb, fx_ro_pos hat.1]
    rfl
  refine va_get (C := C) (T := T) (N := N) hx hbb hts hin hown hK hP a.toNat he hc k hk (hts _ lk) (fun _ q => q) (v := .ref (ad b.toNat)) ?_ d h9
  rw [← e5]
  exact fx_fs_at ht
theorem fx_afterC {p : Program} {l : Launch} {e : Env} {R : Room} {s : State} {m : MethodId} {args aa : Array Value} {below : List Frame} {meth : Method} {cd : Code} {H : Heap} {locs : List Loc} {cells slots : Nat} {Q : State → Prop} {la : Array Slot} {rest stk : List Value} {ho : fx_H}
    (hr : va_Run p l e R s m args below meth cd H locs cells slots mc ms (F0 m pc la stk) rest (fx_QcC D cy ad ex Λ.1 (va_A (fx_ws cy ad Λ h) H.size) Λf ho aa) (va_A (fx_ws cy ad Λ h) H.size)) (hD : va_D A (fx_ws cy ad Λ h)) (hS : va_S A s.heap H locs) (hA : ∀ q, s.heap.size ≤ q → A q)
    (kk : ∀ (ad' : Nat → Nat) (H1 : Heap) (locs1 : List Loc), (∀ k, k < Λ.1 → ad' k = ad k) → va_P D vwCl (fx_ws cy ad' Λf ho) H1 → va_D A (fx_ws cy ad' Λf ho) → va_S A s.heap H1 locs1 → fx_rg ho → fx_wf Λf → fx_bd Λf → Λ.1 ≤ Λf.1 → W p l e R s m args below meth cd H1 locs1 (cells + mc) (slots + ms) Q (F0 m (pc + 3) la rest)) : W p l e R s m args below meth cd H locs cells slots Q (F0 m pc la stk) := by
  intro T hT X
  have hF := fx_free hD hS hA
  obtain ⟨v, st₀, t, T', L, h0, X', hL, e1, e2, ⟨⟨ad', hext, hv, hP1, hD1, hR1, hw1, hb1, hn1⟩, hz, hk⟩, st⟩ := hr T hT X
  cases hv
  rw [h0] at hz hk
  obtain ⟨t2, a1, b1⟩ := kk ad' T'.heap (locs ++ L) hext (by rw [e1]; exact hP1) (hD1.weaken (fun k q _ h => hF q.1 h))
    ⟨Nat.le_trans hS.1 (by rw [e1]; exact hz), fun q h1 h2 => by rw [e1, hk q (Nat.lt_of_lt_of_le h1 hS.1) (fun z => h2 (hF q z))]; exact hS.2.1 q h1 h2, fun q hq => by
      rcases List.mem_append.mp hq with h | h
      · exact hS.2.2 q h
      · exact hF _ (hL q h)⟩ hR1 hw1 hb1 hn1 T' rfl X'
  exact ⟨t2, st t2 a1, b1⟩
theorem fx_callC (F : fx_FC M D cy ad ex A Λ cc own nL rm c n ad0 n0) {y : MethodName} {cc' : ByteArray} {nL' index : Nat} {rm' : Room} {b : Int} {ho : fx_H} (k k' : Nat) (hk60 : k < 60 ∧ k' < 60) (hM : fx_MetC y cc' nL' rm' mc ms Λ [(k + 2, b)] h Λf ho) (hd : fx_md y cc' nL' none 0) (hyn : y.name = "<init>") (hi : Cond.instanceMethod y ∈ fx_WS) (lk : Cond.methodLink own index y ∈ fx_WS ∨ (own, index, y) ∈ fx_nm) (hrm : rm'.cells = mc ∧ rm'.slots = ms) (hRR : rm'.frames + 1 ≤ rm.frames ∧ 8 + (nL' + 11) + rm'.locals ≤ rm.locals) (hroom : c + mc ≤ rm.cells ∧ n + ms ≤ rm.slots) (hc8 : fx_c8 st ≤ 8) (hkd : ∀ x : Nat, x < Λ.1 → fx_kd Λf x = if (x : Int) = b then k' else fx_kd Λ x) (hls' : ls.map (Option.map (fx_rtg b k k')) = ls') (hst' : st.map (fx_rtg b k k') = st') (d : decode cc pc = .ok (.invokespecial index, 3))
    (g : ∀ ad' : Nat → Nat, fx_FC (fx_inc M mc ms) D cy ad' ex A Λf cc own nL rm (c + mc) (n + ms) ad0 n0 → fx_J (fx_inc M mc ms) (D, cy, ad', ex, A) Λf nL (pc + 3) ls' st' ho) : fx_J M (D, cy, ad, ex, A) Λ nL pc ls ((k + 2, b) :: st) h := by
  obtain ⟨p, l, e, R, s, m, args, below, meth, cd, cells, slots, Q⟩ := M
  obtain ⟨⟨hx, hb, hml, hown, hts, hK, hwf, hA, hRm, hlocks, hcr, hX⟩, hbd, hcs, hext, hn0⟩ := F
  obtain ⟨rfl, rfl⟩ := hcs
  subst hRm
  intro hls hst hR H locs la hP hD hS hl
  have hbok := hst _ List.mem_cons_self
  have hr' : ∀ v ∈ st, fx_ok Λ v := fun v hv => hst v (List.mem_cons_of_mem _ hv)
  have hat := fx_ok_cell hk60.1 hbok
  have hM' := hM hR (fx_okc hbok (fun v hv => by cases hv)) hwf hbd l D cy ad ex H.size
  have hbv : fx_v ad ex (k + 2, b) = .ref (ad b.toNat) := fx_v_cell hk60.1
  have hpre := fx_pre (as := [(k + 2, b)]) hK hP hD hS hA hX
  rw [List.map_cons, hbv] at hpre
  rw [List.map_cons, hbv]
  have hrun : va_Run p l e R s m args below meth cd H locs cells slots mc ms (F0 m pc la (.ref (ad b.toNat) :: st.map (fx_v ad ex))) (st.map (fx_v ad ex)) (fx_QcC D cy ad ex Λ.1 (va_A (fx_ws cy ad Λ h) H.size) Λf ho (Value.ref (ad b.toNat) :: ([] : List Value)).toArray) (va_A (fx_ws cy ad Λ h) H.size) := by
    rcases lk with lk | lk
    · exact va_runI (As := []) (rest := st.map (fx_v ad ex)) ⟨hx, hb, hml, hown, hts⟩ hM' ⟨callB_of 0 hts (fx_goodm hd) rfl hrm.1 hrm.2 (hts _ hd.2.2) (hts _ lk) hd.1 hRR, hyn, hts _ hi⟩ ⟨fx_blind, hpre⟩ rfl rfl hl.1 rfl (lv_room (by rw [fx_c8_le]; exact hc8)) d hroom
    · exact va_runIN (host := RX5) (As := []) (rest := st.map (fx_v ad ex)) ⟨hx, hb, hml, hown, hts⟩ hM' ⟨va_cnB 0 hts (fx_goodm hd) rfl hrm.1 hrm.2 (hX.1 _ lk) (hts _ hd.2.2) hd.1 hRR, hyn, hts _ hi⟩ ⟨fx_blind, hpre⟩ rfl rfl hl.1 rfl (lv_room (by rw [fx_c8_le]; exact hc8)) d hroom
  refine fx_afterC hrun hD hS hA (fun ad' H1 locs1 had hP1 hD1 hS1 hR1 hw1 hb1 hn1 => ?_)
  have hkd' : ∀ x : Int, 0 ≤ x → x < Λ.1 → fx_kd Λf x = if x = b then k' else fx_kd Λ x := fun x x0 x1 => by
    have := hkd x.toNat (by omega)
    rw [Int.toNat_of_nonneg x0] at this
    exact this
  have hl1 := fx_rtg_ls (Λ' := Λf) hls' (fun v => fx_ok Λf v) (fun v hv => fx_rtg_ok hk60.1 hk60.2 hn1 hkd' hat hv) hls
  have h9 := g ad' ⟨⟨hx, hb, hml, hown, hts, hK, hw1, hA, rfl, hlocks, hroom, hX⟩, hb1, ⟨rfl, rfl⟩, fun k' hk' => by rw [had k' (by omega)]; exact hext k' hk', by omega⟩ (fun i v hi => by obtain ⟨w, -, -, hw⟩ := hl1 i v hi; exact hw) (fun v hv => by
      rw [← hst'] at hv
      obtain ⟨w, hw, rfl⟩ := List.mem_map.mp hv
      exact fx_rtg_ok hk60.1 hk60.2 hn1 hkd' hat (hr' w hw)) hR1 H1 locs1 la hP1 hD1 hS1 ⟨hl.1, hl.2.1, fun i v hi => by
      obtain ⟨w, hw, hvw, -⟩ := hl1 i v hi
      rw [hvw, fx_rtg_v hk60.1 hk60.2, fx_v_ext had (hls i w hw)]
      exact hl.2.2 i w hw⟩
  rw [← hst', List.map_map] at h9
  have em : (fx_v ad' ex ∘ fx_rtg b k k') = fx_v ad' ex := funext (fun v => fx_rtg_v hk60.1 hk60.2 v)
  rw [em, fx_st_ext had hr'] at h9
  exact h9
end FXL
