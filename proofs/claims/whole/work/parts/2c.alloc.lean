section FXB
variable {M : fx_M} {D : va_G} {cy : Nat → ClassId} {ad ex ad0 : Nat → Nat} {A : Nat → Prop} {Λ : fx_L} {cc : ByteArray} {own : String} {nL pc c n n0 : Nat} {rm : Room} {ls : List (Option fx_V)} {st : List fx_V} {h : fx_H}
theorem fx_ok_mono {Λ Λ' : fx_L} (h1 : Λ.1 ≤ Λ'.1) (h2 : ∀ a : Int, 0 ≤ a → a < Λ.1 → fx_kd Λ' a = fx_kd Λ a) {v : fx_V} (h : fx_ok Λ v) : fx_ok Λ' v := by
  obtain ⟨t, x⟩ := v
  match t, h with
  | 0, h => exact h
  | 1, h => exact h
  | j + 2, h =>
    unfold fx_ok at h ⊢
    cases hb : Nat.ble 60 j
    · simp only [hb] at h ⊢
      obtain ⟨g0, g1, g2⟩ := h
      exact ⟨g0, by omega, by rw [h2 x g0 g1]; exact g2⟩
    · simp only [hb]
/-- the shared end of rows that make cells: the new layout and addresses as they are -/
theorem fx_madeX {p : Program} {l : Launch} {e : Env} {R : Room} {s : State} {m : MethodId} {args : Array Value} {below : List Frame} {meth : Method} {cd : Code} {cells slots : Nat} {Q : State → Prop} {Λ' : fx_L} {h' : fx_H} {ad' : Nat → Nat} {k S1 S pc' : Nat} {b : Int} (F : fx_FC (p, l, e, R, s, m, args, below, meth, cd, cells, slots, Q) D cy ad ex A Λ cc own nL rm c n ad0 n0) (hle : Λ.1 ≤ Λ'.1) (hkd : ∀ a : Int, 0 ≤ a → a < Λ.1 → fx_kd Λ' a = fx_kd Λ a) (hwf' : fx_wf Λ') (hbd' : fx_bd Λ') (had : ∀ j, j < Λ.1 → ad' j = ad j) (hk18 : k < 60) (hb' : fx_at Λ' b k) (hroom : c + S1 ≤ rm.cells ∧ n + S ≤ rm.slots) (hR' : fx_rg h')
    (g : fx_FC (fx_inc (p, l, e, R, s, m, args, below, meth, cd, cells, slots, Q) S1 S) D cy ad' ex A Λ' cc own nL rm (c + S1) (n + S) ad0 n0 → fx_J (fx_inc (p, l, e, R, s, m, args, below, meth, cd, cells, slots, Q) S1 S) (D, cy, ad', ex, A) Λ' nL pc' ls ((k + 2, b) :: st) h')
    (hls : ∀ (i : Nat) (v : fx_V), ls[i]? = some (some v) → fx_ok Λ v) (hst : ∀ v ∈ st, fx_ok Λ v) {H1 : Heap} {locs : List Loc} {la : Array Slot} (q : Nat) (hq : ad' b.toNat = q)
    (hP1 : va_P D vwCl (fx_ws cy ad' Λ' h') H1) (hD1 : va_D A (fx_ws cy ad' Λ' h')) (hS1 : va_S A s.heap H1 locs) (hl : fx_loc ad ex ls nL la) :
    W p l e R s m args below meth cd H1 locs (cells + S1) (slots + S) Q (F0 m pc' la (.ref q :: st.map (fx_v ad ex))) := by
  obtain ⟨⟨hx, hb, hml, hown, hts, hK, hwf, hA, hRm, hlocks, hcr, hX⟩, hbd, hcs, hext, hn0⟩ := F
  obtain ⟨rfl, rfl⟩ := hcs
  subst hRm
  have hgo := g ⟨⟨hx, hb, hml, hown, hts, hK, hwf', hA, rfl, hlocks, hroom, hX⟩, hbd', ⟨rfl, rfl⟩, fun k' hk' => by rw [had k' (by omega)]; exact hext k' hk', by omega⟩
  have h9 := hgo (fun i v hi => fx_ok_mono hle hkd (hls i v hi)) (fx_okc (fx_cell_ok hk18 hb') (fun v hv => fx_ok_mono hle hkd (hst v hv))) hR' H1 locs la hP1 hD1 hS1 (fx_loc_ext had hls hl)
  rw [List.map_cons, fx_v_cell hk18, fx_st_ext had hst, hq] at h9
  exact h9
theorem fx_cy_eq {cA : ClassId} {ty : FieldType} {s : State} {tys : List (ClassId × FieldType)} {t0 : Nat} (hK : va_K D vwCl tys s) (ht : tys[t0]? = some (cy t0, ty)) (hK2 : va_K D vwCl (tys ++ [(cA, ty)]) s) : cA = cy t0 := by
  have h1 := (hK.2 t0 _ ht).2
  have h2 := (hK2.2 tys.length (cA, ty) (by simp)).2
  cases ty with
  | object C =>
    obtain ⟨_, _, _, _, _, f1⟩ := h1
    obtain ⟨_, _, _, _, _, f2⟩ := h2
    exact Option.some.inj (f2.symm.trans f1)
  | _ => exact Option.some.inj (h2.symm.trans h1)
theorem fx_newarr (F : fx_FC M D cy ad ex A Λ cc own nL rm c n ad0 n0) {atype : ArrayType} {ty : FieldType} (kd t0 : Nat) {len : Int} (hty : newarray.typeOf atype = ty) (hk : (kd = 7 ∧ t0 = 0 ∧ ty = .byte) ∨ (kd = 8 ∧ t0 = 1 ∧ ty = .int) ∨ (kd = 9 ∧ t0 = 2 ∧ ty = .boolean)) (hlen : 0 ≤ len ∧ len ≤ 100000) (lk : Cond.arrayClass ty ∈ fx_WS) (hroom : c + 1 ≤ rm.cells ∧ n + len.toNat ≤ rm.slots) (d : decode cc pc = .ok (.newarray atype, 2))
    (g : ∀ ad' : Nat → Nat, fx_FC (fx_inc M 1 len.toNat) D cy ad' ex A (fx_push Λ kd len (fun _ => -1)) cc own nL rm (c + 1) (n + len.toNat) ad0 n0 → fx_J (fx_inc M 1 len.toNat) (D, cy, ad', ex, A) (fx_push Λ kd len (fun _ => -1)) nL (pc + 2) ls ((kd + 2, (Λ.1 : Int)) :: st) (fx_z h Λ.1)) : fx_J M (D, cy, ad, ex, A) Λ nL pc ls ((0, len) :: st) h := by
  obtain ⟨p, l, e, R, s, m, args, below, meth, cd, cells, slots, Q⟩ := M
  have F' := F
  obtain ⟨⟨hx, hb, hml, hown, hts, hK, hwf, hA, hRm, hlocks, hcr, hX⟩, hbd, hcs, hext, hn0⟩ := F
  obtain ⟨rfl, rfl⟩ := hcs
  subst hRm
  intro hls hst hR H locs la hP hD hS hl
  have hx' := hst _ List.mem_cons_self
  have hr' : ∀ v ∈ st, fx_ok Λ v := fun v hv => hst v (List.mem_cons_of_mem _ hv)
  have hlr := fx_ok_i hx'
  have hneg : ¬ Int32.ofInt len < 0 := fun z => by
    have := (fx_lt hlr (show fx_R 0 from ⟨by decide, by decide⟩)).mp z
    omega
  have hdv : defaultValue ty = .int 0 := by rcases hk with ⟨-, -, rfl⟩ | ⟨-, -, rfl⟩ | ⟨-, -, rfl⟩ <;> rfl
  have hcb : componentBytes ty ≤ 4 := by rcases hk with ⟨-, -, rfl⟩ | ⟨-, -, rfl⟩ | ⟨-, -, rfl⟩ <;> decide
  subst hty
  refine va_newa (a0 := (len.toNat, .inl (fun _ => 0))) hx hb (hts _ lk) rfl hK hP hD hS hA (fun cA => by rw [hdv]; rfl) hneg (fx_cl hlr) (Nat.le_trans (Nat.mul_le_mul_left _ hcb) (by omega)) hroom.1 hroom.2 d (fun q cA H1 hK1 hP1 hD1 hS1 => ?_)
  have htt : (fx_tys cy)[t0]? = some (cy t0, newarray.typeOf atype) := by rcases hk with ⟨-, rfl, e1⟩ | ⟨-, rfl, e1⟩ | ⟨-, rfl, e1⟩ <;> rw [e1] <;> rfl
  have hcA := fx_cy_eq hK htt hK1
  subst hcA
  have ecell : fx_cell cy (fun j => if j = Λ.1 then q else ad j) (fx_push Λ kd len (fun _ => -1)) (fx_z h Λ.1) Λ.1 = .inl (cy t0, len.toNat, .inl (fun _ => 0)) := by
    have ek : fx_kd (fx_push Λ kd len (fun _ => -1)) Λ.1 = kd := by simp [fx_push, fx_kd]
    have el : fx_ln (fx_push Λ kd len (fun _ => -1)) Λ.1 = len := by simp [fx_push, fx_ln]
    have e5 : ∀ i : Int, fx_z h Λ.1 Λ.1 i = 0 := fun i => by simp [fx_z]
    unfold fx_cell
    rw [ek]
    rcases hk with ⟨rfl, rfl, -⟩ | ⟨rfl, rfl, -⟩ | ⟨rfl, rfl, -⟩ <;> (show fx_ai _ _ _ _ = _; unfold fx_ai; simp only [el, e5]; rfl)
  rw [← ecell] at hP1 hD1
  exact fx_made F' ⟨by omega, by omega⟩ (by omega) (by omega) (fun i => by show (-1 : Int) ≤ _; omega) hroom g hls hr' hR q hP1 hD1 hS1 hl
theorem fx_anew (F : fx_FC M D cy ad ex A Λ cc own nL rm c n ad0 n0) {index : Nat} {len : Int} (hlen : 0 ≤ len ∧ len ≤ 100000) (lk : Cond.classLink own index RX4 ∈ fx_WS) (hroom : c + 1 ≤ rm.cells ∧ n + len.toNat ≤ rm.slots) (d : decode cc pc = .ok (.anewarray index, 3))
    (g : ∀ ad' : Nat → Nat, fx_FC (fx_inc M 1 len.toNat) D cy ad' ex A (fx_push Λ 22 len (fun _ => -1)) cc own nL rm (c + 1) (n + len.toNat) ad0 n0 → fx_J (fx_inc M 1 len.toNat) (D, cy, ad', ex, A) (fx_push Λ 22 len (fun _ => -1)) nL (pc + 3) ls ((22 + 2, (Λ.1 : Int)) :: st) (fx_z h Λ.1)) : fx_J M (D, cy, ad, ex, A) Λ nL pc ls ((0, len) :: st) h := by
  obtain ⟨p, l, e, R, s, m, args, below, meth, cd, cells, slots, Q⟩ := M
  have F' := F
  obtain ⟨⟨hx, hb, hml, hown, hts, hK, hwf, hA, hRm, hlocks, hcr, hX⟩, hbd, hcs, hext, hn0⟩ := F
  obtain ⟨rfl, rfl⟩ := hcs
  subst hRm
  intro hls hst hR H locs la hP hD hS hl
  have hx' := hst _ List.mem_cons_self
  have hr' : ∀ v ∈ st, fx_ok Λ v := fun v hv => hst v (List.mem_cons_of_mem _ hv)
  have hlr := fx_ok_i hx'
  have hneg : ¬ Int32.ofInt len < 0 := fun z => by
    have := (fx_lt hlr (show fx_R 0 from ⟨by decide, by decide⟩)).mp z
    omega
  refine va_newq (N' := len.toNat) hx hb hown (hts _ lk) (hX.2.2.2.2.2.2.2 0 (by decide)).2.1 hK hP hD hS hA hneg (fx_cl hlr) (by omega) hroom.1 hroom.2 d (fun q cA H1 hK1 hP1 hD1 hS1 => ?_)
  have hcA := fx_cy_eq (cy := cy) (t0 := 3) hK rfl hK1
  subst hcA
  have ecell : fx_cell cy (fun j => if j = Λ.1 then q else ad j) (fx_push Λ 22 len (fun _ => -1)) (fx_z h Λ.1) Λ.1 = .inl (cy 3, len.toNat, .inr (.inr (.inr (.inr (fun _ => none))))) := by
    have ek : fx_kd (fx_push Λ 22 len (fun _ => -1)) Λ.1 = 22 := by simp [fx_push, fx_kd]
    have el : fx_ln (fx_push Λ 22 len (fun _ => -1)) Λ.1 = len := by simp [fx_push, fx_ln]
    have e6 : ∀ i : Int, fx_tg (fx_push Λ 22 len (fun _ => -1)) Λ.1 i = -1 := fun i => by simp [fx_push, fx_tg]
    unfold fx_cell
    rw [ek]
    show fx_ar _ _ _ _ = _
    unfold fx_ar
    simp only [el, e6]
    rfl
  rw [← ecell] at hP1 hD1
  exact fx_made F' ⟨by omega, by omega⟩ (by omega) (by omega) (fun i => by show (-1 : Int) ≤ _; omega) hroom g hls hr' hR q hP1 hD1 hS1 hl
/-- an array of N rows of K ints -/
def fx_grid (Λ : fx_L) (N K : Nat) : fx_L := (Λ.1 + 1 + N, (fun a => if a = Λ.1 then 11 else if Λ.1 < a then 8 else fx_kd Λ a), (fun a => if a = Λ.1 then (N : Int) else if Λ.1 < a then (K : Int) else fx_ln Λ a), (fun a i => if a = Λ.1 then (if 0 ≤ i ∧ i < N then Λ.1 + 1 + i else -1) else if Λ.1 < a then -1 else fx_tg Λ a i))
def fx_zg (h : fx_H) (n : Int) : fx_H := fun a i => if n ≤ a then 0 else h a i
theorem fx_mna (F : fx_FC M D cy ad ex A Λ cc own nL rm c n ad0 n0) {index : Nat} (N K : Nat) (hN : N ≤ 1000 ∧ K ≤ 1000) (lk : Cond.classLink own index ("[" ++ (FieldType.array .int).toString) ∈ fx_WS) (lk2 : Cond.arrayClass .int ∈ fx_WS) (hroom : c + (1 + N) ≤ rm.cells ∧ n + (N + N * K) ≤ rm.slots) (d : decode cc pc = .ok (.multianewarray index 2, 4))
    (g : ∀ ad' : Nat → Nat, fx_FC (fx_inc M (1 + N) (N + N * K)) D cy ad' ex A (fx_grid Λ N K) cc own nL rm (c + (1 + N)) (n + (N + N * K)) ad0 n0 → fx_J (fx_inc M (1 + N) (N + N * K)) (D, cy, ad', ex, A) (fx_grid Λ N K) nL (pc + 4) ls ((11 + 2, (Λ.1 : Int)) :: st) (fx_zg h Λ.1)) : fx_J M (D, cy, ad, ex, A) Λ nL pc ls ((0, (K : Int)) :: (0, (N : Int)) :: st) h := by
  obtain ⟨p, l, e, R, s, m, args, below, meth, cd, cells, slots, Q⟩ := M
  have F' := F
  obtain ⟨⟨hx, hb, hml, hown, hts, hK, hwf, hA, hRm, hlocks, hcr, hX⟩, hbd, hcs, hext, hn0⟩ := F
  obtain ⟨rfl, rfl⟩ := hcs
  subst hRm
  intro hls hst hR H locs la hP hD hS hl
  have hy' := hst _ List.mem_cons_self
  have hx' := hst _ (List.mem_cons_of_mem _ List.mem_cons_self)
  have hr' : ∀ v ∈ st, fx_ok Λ v := fun v hv => hst v (List.mem_cons_of_mem _ (List.mem_cons_of_mem _ hv))
  have hKr := fx_ok_i hy'
  have hNr := fx_ok_i hx'
  have z0 : fx_R 0 := ⟨by decide, by decide⟩
  have hn1 : ¬ Int32.ofInt (N : Int) < 0 := fun z => by have := (fx_lt hNr z0).mp z; omega
  have hk1 : ¬ Int32.ofInt (K : Int) < 0 := fun z => by have := (fx_lt hKr z0).mp z; omega
  have hcI : s.vm.findClass (FieldType.array .int).toString = some (cy 1) := (hK.2 1 (cy 1, .int) rfl).2
  have hP0 : va_P D vwCl (fx_ws cy ad Λ h ++ va_pl [] (fun _ => .inr (0, []))) H := by rw [show va_pl [] _ = [] from rfl, List.append_nil]; exact hP
  have hD0 : va_D A (fx_ws cy ad Λ h ++ va_pl [] (fun _ => .inr (0, []))) := by rw [show va_pl [] _ = [] from rfl, List.append_nil]; exact hD
  refine W.cs (cells' := cells) (slots' := slots) rfl rfl ?_
  refine va_mna (N' := N) (K' := K) (z := (K, .inl (fun _ => 0))) hx hb hown (hts _ lk) (hX.2.2.2.2.2.2.2 0 (by decide)).2.2 (hts _ lk2) hcI hK hP0 hD0 hS hA hn1 hk1 (by rw [fx_cl hNr]; omega) (by rw [fx_cl hKr]; omega) (by omega) (by show K * 4 ≤ _; omega) (by omega) rfl rfl hroom.1 hroom.2 (fun c => ?_) d (fun q r cA H1 hinj hnin hK1 hP1 hD1 hS1 => ?_)
  · show Jvm.Free.Multi.innerC c K (.int 0) = _
    rw [vp_cell_i]
    unfold Jvm.Free.Multi.innerC
    rw [← arrV_new]
  have hcA := fx_cy_eq (cy := cy) (t0 := 4) hK rfl hK1
  subst hcA
  have had : ∀ j, j < Λ.1 → (fun j => if j < Λ.1 then ad j else if j = Λ.1 then q else r (j - Λ.1 - 1)) j = ad j := fun j hj => if_pos hj
  have hws : fx_ws cy (fun j => if j < Λ.1 then ad j else if j = Λ.1 then q else r (j - Λ.1 - 1)) (fx_grid Λ N K) (fx_zg h Λ.1) = (fx_ws cy ad Λ h ++ [(q, .inl (cy 4, N, .inr (.inr (.inr (.inr (fun i => if i < N then some (r i) else none))))))]) ++ va_pl ([] ++ (List.range N).map r) (vr_up (fun _ => .inr (0, [])) ((List.range N).map r) (.inl (cy 1, (K, .inl (fun _ => 0))))) := by
    unfold fx_ws
    show (List.range (Λ.1 + 1 + N)).map _ = _
    rw [List.range_add, List.map_append, List.range_succ, List.map_append]
    congr 1
    · congr 1
      · apply List.map_congr_left
        intro j hj
        have hj' : j < Λ.1 := List.mem_range.mp hj
        show ((if j < Λ.1 then ad j else _), _) = (ad j, _)
        rw [if_pos hj']
        congr 1
        have hne : ¬ (j : Int) = (Λ.1 : Int) := by omega
        have hng : ¬ (Λ.1 : Int) < (j : Int) := by omega
        have hng2 : ¬ (Λ.1 : Int) ≤ (j : Int) := by omega
        refine fx_cell_congr ?_ ?_ (fun i => ?_) (fun i => ?_)
        · simp [fx_grid, fx_kd, hne, hng]
        · simp [fx_grid, fx_ln, hne, hng]
        · simp [fx_zg, hng2]
        · have e5 : fx_tg (fx_grid Λ N K) j i = fx_tg Λ j i := by simp [fx_grid, fx_tg, hne, hng]
          rw [e5]
          exact fx_ro_congr had (hbd j i (by omega) (by omega))
      · have ek : fx_kd (fx_grid Λ N K) Λ.1 = 11 := by simp [fx_grid, fx_kd]
        have el : fx_ln (fx_grid Λ N K) Λ.1 = N := by simp [fx_grid, fx_ln]
        simp only [List.map_cons, List.map_nil]
        congr 1
        refine Prod.ext (by simp) ?_
        show fx_cell cy _ (fx_grid Λ N K) (fx_zg h Λ.1) (Λ.1 : Int) = _
        unfold fx_cell
        rw [ek]
        show fx_ar _ _ _ _ = _
        unfold fx_ar
        rw [el]
        simp only [Int.toNat_natCast]
        congr 7
        funext i
        have et : fx_tg (fx_grid Λ N K) (Λ.1 : Int) (i : Int) = if (0 : Int) ≤ (i : Int) ∧ (i : Int) < N then (Λ.1 : Int) + 1 + i else -1 := by simp [fx_grid, fx_tg]
        rw [et]
        by_cases hi : i < N
        · rw [if_pos hi, if_pos (by omega), fx_ro_pos (by omega)]
          congr 1
          have e7 : ((Λ.1 : Int) + 1 + i).toNat = Λ.1 + 1 + i := by omega
          rw [e7]
          rw [if_neg (by omega), if_neg (by omega)]
          congr 1
          omega
        · rw [if_neg hi, if_neg (by omega)]
          rfl
    · rw [List.nil_append]
      unfold va_pl
      rw [List.map_map, List.map_map]
      apply List.map_congr_left
      intro i hi
      have hi' : i < N := List.mem_range.mp hi
      show ((if Λ.1 + 1 + i < Λ.1 then _ else if Λ.1 + 1 + i = Λ.1 then q else r (Λ.1 + 1 + i - Λ.1 - 1)), _) = (r i, _)
      rw [if_neg (by omega), if_neg (by omega), show Λ.1 + 1 + i - Λ.1 - 1 = i by omega, vr_up_in (List.mem_map_of_mem hi)]
      congr 1
      have hng : (Λ.1 : Int) < ((Λ.1 + 1 + i : Nat) : Int) := by omega
      have hne : ¬ ((Λ.1 + 1 + i : Nat) : Int) = (Λ.1 : Int) := by omega
      have ek : fx_kd (fx_grid Λ N K) ((Λ.1 + 1 + i : Nat) : Int) = 8 := by
        show (if ((Λ.1 + 1 + i : Nat) : Int) = (Λ.1 : Int) then 11 else if (Λ.1 : Int) < ((Λ.1 + 1 + i : Nat) : Int) then 8 else _) = 8
        rw [if_neg hne, if_pos hng]
      have el : fx_ln (fx_grid Λ N K) ((Λ.1 + 1 + i : Nat) : Int) = K := by
        show (if ((Λ.1 + 1 + i : Nat) : Int) = (Λ.1 : Int) then (N : Int) else if (Λ.1 : Int) < ((Λ.1 + 1 + i : Nat) : Int) then (K : Int) else _) = K
        rw [if_neg hne, if_pos hng]
      have e5 : ∀ j : Int, fx_zg h Λ.1 ((Λ.1 + 1 + i : Nat) : Int) j = 0 := fun j => if_pos (by omega)
      unfold fx_cell
      rw [ek]
      show fx_ai _ _ _ _ = _
      unfold fx_ai
      rw [el]
      simp only [e5, Int.toNat_natCast]
      rfl
  rw [← hws] at hP1 hD1
  refine W.cs (cells' := cells + (1 + N)) (slots' := slots + (N + N * K)) (by omega) (by omega) ?_
  have hkd : ∀ a : Int, 0 ≤ a → a < Λ.1 → fx_kd (fx_grid Λ N K) a = fx_kd Λ a := fun a h0 h1 => by
    show (if a = (Λ.1 : Int) then 11 else if (Λ.1 : Int) < a then 8 else fx_kd Λ a) = _
    rw [if_neg (by omega), if_neg (by omega)]
  have hkg : ∀ a : Int, (Λ.1 : Int) < a → fx_kd (fx_grid Λ N K) a = 8 := fun a h1 => by
    show (if a = (Λ.1 : Int) then 11 else if (Λ.1 : Int) < a then 8 else fx_kd Λ a) = _
    rw [if_neg (by omega), if_pos h1]
  have hat : ∀ (a : Int) (j : Nat), fx_at Λ a j → fx_at (fx_grid Λ N K) a j := fun a j hh => ⟨hh.1, by have := hh.2.1; show a < ((Λ.1 + 1 + N : Nat) : Int); omega, by rw [hkd a hh.1 hh.2.1]; exact hh.2.2⟩
  have hwf' : fx_wf (fx_grid Λ N K) := by
    intro a h0 h1
    have h1' : a < ((Λ.1 + 1 + N : Nat) : Int) := h1
    by_cases ha : a = (Λ.1 : Int)
    · have ek : fx_kd (fx_grid Λ N K) a = 11 := by show (if a = (Λ.1 : Int) then 11 else _) = 11; rw [if_pos ha]
      have el : fx_ln (fx_grid Λ N K) a = N := by show (if a = (Λ.1 : Int) then (N : Int) else _) = N; rw [if_pos ha]
      rw [el, ek]
      refine ⟨by omega, by omega, fun q => by omega, fun q => by omega, fun _ i i0 i1 => ?_⟩
      have et : fx_tg (fx_grid Λ N K) a i = (Λ.1 : Int) + 1 + i := by
        show (if a = (Λ.1 : Int) then (if 0 ≤ i ∧ i < (N : Int) then (Λ.1 : Int) + 1 + i else -1) else _) = _
        rw [if_pos ha, if_pos ⟨i0, i1⟩]
      rw [et]
      exact ⟨by omega, by show (Λ.1 : Int) + 1 + i < ((Λ.1 + 1 + N : Nat) : Int); omega, hkg _ (by omega)⟩
    · by_cases hg : (Λ.1 : Int) < a
      · have el : fx_ln (fx_grid Λ N K) a = K := by show (if a = (Λ.1 : Int) then (N : Int) else if (Λ.1 : Int) < a then (K : Int) else _) = K; rw [if_neg ha, if_pos hg]
        rw [el, hkg a hg]
        exact ⟨by omega, by omega, fun q => by omega, fun q => by omega, fun q => by omega⟩
      · have hlt : a < Λ.1 := by omega
        have el : fx_ln (fx_grid Λ N K) a = fx_ln Λ a := by show (if a = (Λ.1 : Int) then (N : Int) else if (Λ.1 : Int) < a then (K : Int) else _) = _; rw [if_neg ha, if_neg hg]
        have et : ∀ i, fx_tg (fx_grid Λ N K) a i = fx_tg Λ a i := fun i => by show (if a = (Λ.1 : Int) then _ else if (Λ.1 : Int) < a then -1 else fx_tg Λ a i) = _; rw [if_neg ha, if_neg hg]
        obtain ⟨w1, w2, w3, w4, w5⟩ := hwf a h0 hlt
        rw [el, hkd a h0 hlt]
        exact ⟨w1, w2, fun q i j hj => by rw [et]; exact hat _ _ (w3 q i j hj), fun q i i1 i2 => by rw [et]; exact hat _ _ (w4 q i i1 i2), fun q i i1 i2 => by rw [et]; exact hat _ _ (w5 q i i1 i2)⟩
  have hbd' : fx_bd (fx_grid Λ N K) := by
    intro a i h0 h1
    have h1' : a < ((Λ.1 + 1 + N : Nat) : Int) := h1
    show (if a = (Λ.1 : Int) then (if 0 ≤ i ∧ i < (N : Int) then (Λ.1 : Int) + 1 + i else -1) else if (Λ.1 : Int) < a then -1 else fx_tg Λ a i) < ((Λ.1 + 1 + N : Nat) : Int)
    split
    · split <;> omega
    · split
      · omega
      · have := hbd a i h0 (by omega); omega
  have hzr : fx_rg (fx_zg h Λ.1) := by
    refine ⟨fun b j hj => ?_, fun b j => ?_⟩
    · unfold fx_zg
      split
      · exact ⟨by decide, by decide⟩
      · exact hR.1 b j hj
    · unfold fx_zg
      split
      · exact ⟨by decide, by decide⟩
      · exact hR.2 b j
  exact fx_madeX F' (by show Λ.1 ≤ Λ.1 + 1 + N; omega) hkd hwf' hbd' had (by decide) ⟨by omega, by show (Λ.1 : Int) < ((Λ.1 + 1 + N : Nat) : Int); omega, by show (if (Λ.1 : Int) = (Λ.1 : Int) then 11 else _) = 11; rw [if_pos rfl]⟩ hroom hzr (g _) hls hr' q (by simp) hP1 hD1 hS1 hl
end FXB
