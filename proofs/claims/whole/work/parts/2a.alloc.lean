/-! ===== fx: making cells ===== -/
def fx_inc (M : fx_M) (a b : Nat) : fx_M := match M with
  | (p, l, e, R, s, m, args, below, meth, cd, cells, slots, Q) => (p, l, e, R, s, m, args, below, meth, cd, cells + a, slots + b, Q)
def fx_z (h : fx_H) (n : Int) : fx_H := fun a i => if a = n then 0 else h a i
def fx_push (Λ : fx_L) (k : Nat) (len : Int) (tg : Int → Int) : fx_L := (Λ.1 + 1, (fun a => if a = Λ.1 then k else fx_kd Λ a), (fun a => if a = Λ.1 then len else fx_ln Λ a), (fun a i => if a = Λ.1 then tg i else fx_tg Λ a i))
def fx_stg (Λ : fx_L) (a i b : Int) : fx_L := (Λ.1, fx_kd Λ, fx_ln Λ, fun a' i' => if a' = a ∧ i' = i then b else fx_tg Λ a' i')
def fx_skd (Λ : fx_L) (a : Int) (k : Nat) : fx_L := (Λ.1, (fun a' => if a' = a then k else fx_kd Λ a'), fx_ln Λ, fx_tg Λ)
def fx_bd (Λ : fx_L) : Prop := ∀ a i : Int, 0 ≤ a → a < Λ.1 → fx_tg Λ a i < Λ.1
def fx_cs (M : fx_M) (c n : Nat) : Prop := match M with
  | (_, _, _, _, _, _, _, _, _, _, cells, slots, _) => cells = c ∧ slots = n
theorem fx_z_rg {h : fx_H} {n : Int} (hr : fx_rg h) : fx_rg (fx_z h n) := by
  refine ⟨fun b j hj => ?_, fun b j => ?_⟩
  · unfold fx_z
    split
    · exact ⟨by decide, by decide⟩
    · exact hr.1 b j hj
  · unfold fx_z
    split
    · exact ⟨by decide, by decide⟩
    · exact hr.2 b j
theorem fx_cell_congr {cy : Nat → ClassId} {ad ad' : Nat → Nat} {Λ Λ' : fx_L} {h h' : fx_H} {b : Int} (e1 : fx_kd Λ' b = fx_kd Λ b) (e2 : fx_ln Λ' b = fx_ln Λ b) (e3 : ∀ i, h' b i = h b i) (e4 : ∀ i, fx_ro ad' (fx_tg Λ' b i) = fx_ro ad (fx_tg Λ b i)) : fx_cell cy ad' Λ' h' b = fx_cell cy ad Λ h b := by
  have ef : ∀ ts, fx_fs ad' Λ' h' b ts = fx_fs ad Λ h b ts := fun ts => by
    unfold fx_fs
    apply List.map_congr_left
    intro j _
    unfold fx_fv
    split
    · rw [e3]
    · rw [e3]
    · rw [e4]
  have ei : ∀ c, fx_ai c Λ' h' b = fx_ai c Λ h b := fun c => by unfold fx_ai; simp only [e2, e3]
  have er : ∀ c, fx_ar c ad' Λ' b = fx_ar c ad Λ b := fun c => by unfold fx_ar; simp only [e2, e4]
  unfold fx_cell
  rw [e1]
  split <;> simp only [ei, er, ef]
theorem fx_ro_congr {ad ad' : Nat → Nat} {n : Nat} (had : ∀ j, j < n → ad' j = ad j) {t : Int} (ht : t < n) : fx_ro ad' t = fx_ro ad t := by
  match t, ht with
  | .ofNat k, ht =>
    show some (ad' k) = some (ad k)
    rw [had k (by have : (k : Int) < n := ht; omega)]
  | .negSucc _, _ => rfl
theorem fx_ws_push {cy : Nat → ClassId} {ad ad' : Nat → Nat} {Λ : fx_L} {h : fx_H} {k : Nat} {len : Int} {tg : Int → Int} {q : Nat} {e : va_E} (hbd : fx_bd Λ) (had : ∀ j, j < Λ.1 → ad' j = ad j) (hq : ad' Λ.1 = q) (he : fx_cell cy ad' (fx_push Λ k len tg) (fx_z h Λ.1) Λ.1 = e) : fx_ws cy ad' (fx_push Λ k len tg) (fx_z h Λ.1) = fx_ws cy ad Λ h ++ [(q, e)] := by
  subst he
  subst hq
  unfold fx_ws
  show (List.range (Λ.1 + 1)).map _ = _
  rw [List.range_succ, List.map_append]
  congr 1
  apply List.map_congr_left
  intro j hj
  have hj' : j < Λ.1 := List.mem_range.mp hj
  have hne : ¬ (j : Int) = (Λ.1 : Int) := by omega
  show (ad' j, _) = (ad j, _)
  rw [had j hj']
  congr 1
  refine fx_cell_congr ?_ ?_ (fun i => ?_) (fun i => ?_)
  · simp [fx_push, fx_kd, hne]
  · simp [fx_push, fx_ln, hne]
  · simp [fx_z, hne]
  · have e5 : fx_tg (fx_push Λ k len tg) j i = fx_tg Λ j i := by simp [fx_push, fx_tg, hne]
    rw [e5]
    exact fx_ro_congr had (hbd j i (by omega) (by omega))
theorem fx_bd_push {Λ : fx_L} {k : Nat} {len : Int} {tg : Int → Int} (hbd : fx_bd Λ) (ht : ∀ i, tg i ≤ Λ.1) : fx_bd (fx_push Λ k len tg) := by
  intro a i h0 h1
  have h1' : a < ((Λ.1 + 1 : Nat) : Int) := h1
  show (if a = (Λ.1 : Int) then tg i else fx_tg Λ a i) < ((Λ.1 + 1 : Nat) : Int)
  split
  · have := ht i; omega
  · have := hbd a i h0 (by omega); omega
theorem fx_at_push {Λ : fx_L} {k : Nat} {len : Int} {tg : Int → Int} {a : Int} {j : Nat} (h : fx_at Λ a j) : fx_at (fx_push Λ k len tg) a j := by
  obtain ⟨h0, h1, h2⟩ := h
  refine ⟨h0, by show a < ((Λ.1 + 1 : Nat) : Int); omega, ?_⟩
  show (if a = (Λ.1 : Int) then k else fx_kd Λ a) = j
  rw [if_neg (by omega)]
  exact h2
theorem fx_wf_push {Λ : fx_L} {k : Nat} {len : Int} {tg : Int → Int} (hwf : fx_wf Λ) (hl : 0 ≤ len ∧ len ≤ 1000000) (hk : k = 7 ∨ k = 8 ∨ k = 9 ∨ 12 ≤ k ∨ (k = 11 ∧ ∀ i, 0 ≤ i → i < len → fx_at Λ (tg i) 8)) : fx_wf (fx_push Λ k len tg) := by
  intro a h0 h1
  have h1' : a < ((Λ.1 + 1 : Nat) : Int) := h1
  by_cases ha : a = (Λ.1 : Int)
  · have ek : fx_kd (fx_push Λ k len tg) a = k := by show (if a = (Λ.1 : Int) then k else fx_kd Λ a) = k; rw [if_pos ha]
    have el : fx_ln (fx_push Λ k len tg) a = len := by show (if a = (Λ.1 : Int) then len else fx_ln Λ a) = len; rw [if_pos ha]
    have et : ∀ i, fx_tg (fx_push Λ k len tg) a i = tg i := fun i => by show (if a = (Λ.1 : Int) then tg i else fx_tg Λ a i) = tg i; rw [if_pos ha]
    rw [el, ek]
    refine ⟨hl.1, hl.2, fun q => by omega, fun q => by omega, fun q i hi1 hi2 => ?_⟩
    rcases hk with h | h | h | h | ⟨-, h⟩
    · omega
    · omega
    · omega
    · omega
    · rw [et]; exact fx_at_push (h i hi1 hi2)
  · have hlt : a < Λ.1 := by omega
    have ek : fx_kd (fx_push Λ k len tg) a = fx_kd Λ a := by show (if a = (Λ.1 : Int) then k else fx_kd Λ a) = _; rw [if_neg ha]
    have el : fx_ln (fx_push Λ k len tg) a = fx_ln Λ a := by show (if a = (Λ.1 : Int) then len else fx_ln Λ a) = _; rw [if_neg ha]
    have et : ∀ i, fx_tg (fx_push Λ k len tg) a i = fx_tg Λ a i := fun i => by show (if a = (Λ.1 : Int) then tg i else fx_tg Λ a i) = _; rw [if_neg ha]
    obtain ⟨w1, w2, w3, w4, w5⟩ := hwf a h0 hlt
    rw [el, ek]
    exact ⟨w1, w2, fun q i j hj => by rw [et]; exact fx_at_push (w3 q i j hj), fun q i i1 i2 => by rw [et]; exact fx_at_push (w4 q i i1 i2), fun q i i1 i2 => by rw [et]; exact fx_at_push (w5 q i i1 i2)⟩
theorem fx_ok_push {Λ : fx_L} {k : Nat} {len : Int} {tg : Int → Int} {v : fx_V} (h : fx_ok Λ v) : fx_ok (fx_push Λ k len tg) v := by
  obtain ⟨t, x⟩ := v
  match t, h with
  | 0, h => exact h
  | 1, h => exact h
  | j + 2, h =>
    unfold fx_ok at h ⊢
    cases hb : Nat.ble 60 j
    · simp only [hb] at h ⊢
      exact fx_at_push h
    · simp only [hb]
/-- a value names the same under addresses that go on -/
theorem fx_v_ext {ad ad' ex : Nat → Nat} {Λ : fx_L} (had : ∀ j, j < Λ.1 → ad' j = ad j) {v : fx_V} (h : fx_ok Λ v) : fx_v ad' ex v = fx_v ad ex v := by
  obtain ⟨t, x⟩ := v
  match t, h with
  | 0, h => rfl
  | 1, h => rfl
  | j + 2, h =>
    unfold fx_ok at h
    unfold fx_v
    cases hb : Nat.ble 60 j
    · simp only [hb] at h ⊢
      rw [had x.toNat (by have := h.1; have := h.2.1; omega)]
    · simp only [hb]
theorem fx_st_ext {ad ad' ex : Nat → Nat} {Λ : fx_L} (had : ∀ j, j < Λ.1 → ad' j = ad j) {st : List fx_V} (h : ∀ v ∈ st, fx_ok Λ v) : st.map (fx_v ad' ex) = st.map (fx_v ad ex) := List.map_congr_left (fun v hv => fx_v_ext had (h v hv))
theorem fx_loc_ext {ad ad' ex : Nat → Nat} {Λ : fx_L} (had : ∀ j, j < Λ.1 → ad' j = ad j) {ls : List (Option fx_V)} {nL : Nat} {la : Array Slot} (h : ∀ (i : Nat) (v : fx_V), ls[i]? = some (some v) → fx_ok Λ v) (hl : fx_loc ad ex ls nL la) : fx_loc ad' ex ls nL la := ⟨hl.1, hl.2.1, fun i v hi => by rw [fx_v_ext had (h i v hi)]; exact hl.2.2 i v hi⟩
/-- what a walk that makes cells carries: the facts, bounds, the counts, the addresses since the start -/
def fx_FC (M : fx_M) (D : va_G) (cy : Nat → ClassId) (ad ex : Nat → Nat) (A : Nat → Prop) (Λ : fx_L) (cc : ByteArray) (own : String) (nL : Nat) (rm : Room) (c n : Nat) (ad0 : Nat → Nat) (n0 : Nat) : Prop := fx_F fx_X M (D, cy, ad, ex, A) Λ cc own nL rm ∧ fx_bd Λ ∧ fx_cs M c n ∧ (∀ k, k < n0 → ad k = ad0 k) ∧ n0 ≤ Λ.1
theorem fx_ext_of {ad ad0 : Nat → Nat} {q n : Nat} : (∀ j, j < n → (fun j => if j = n then q else ad j) j = ad j) := fun j hj => if_neg (by omega)
section FXA
variable {M : fx_M} {D : va_G} {cy : Nat → ClassId} {ad ex ad0 : Nat → Nat} {A : Nat → Prop} {Λ : fx_L} {cc : ByteArray} {own : String} {nL pc c n n0 : Nat} {rm : Room} {ls : List (Option fx_V)} {st : List fx_V} {h : fx_H}
/-- the shared end of all rows that make one cell -/
theorem fx_made {p : Program} {l : Launch} {e : Env} {R : Room} {s : State} {m : MethodId} {args : Array Value} {below : List Frame} {meth : Method} {cd : Code} {cells slots : Nat} {Q : State → Prop} {k : Nat} {len : Int} {tg : Int → Int} {S pc' : Nat} (F : fx_FC (p, l, e, R, s, m, args, below, meth, cd, cells, slots, Q) D cy ad ex A Λ cc own nL rm c n ad0 n0) (hlen : 0 ≤ len ∧ len ≤ 1000000) (hk18 : k < 60) (hk : k = 7 ∨ k = 8 ∨ k = 9 ∨ 12 ≤ k ∨ (k = 11 ∧ ∀ i, 0 ≤ i → i < len → fx_at Λ (tg i) 8)) (htg : ∀ i, tg i ≤ Λ.1) (hroom : c + 1 ≤ rm.cells ∧ n + S ≤ rm.slots)
    (g : ∀ ad' : Nat → Nat, fx_FC (fx_inc (p, l, e, R, s, m, args, below, meth, cd, cells, slots, Q) 1 S) D cy ad' ex A (fx_push Λ k len tg) cc own nL rm (c + 1) (n + S) ad0 n0 → fx_J (fx_inc (p, l, e, R, s, m, args, below, meth, cd, cells, slots, Q) 1 S) (D, cy, ad', ex, A) (fx_push Λ k len tg) nL pc' ls ((k + 2, (Λ.1 : Int)) :: st) (fx_z h Λ.1))
    (hls : ∀ (i : Nat) (v : fx_V), ls[i]? = some (some v) → fx_ok Λ v) (hst : ∀ v ∈ st, fx_ok Λ v) (hR : fx_rg h) {H1 : Heap} {locs : List Loc} {la : Array Slot} (q : Nat)
    (hP1 : va_P D vwCl (fx_ws cy ad Λ h ++ [(q, fx_cell cy (fun j => if j = Λ.1 then q else ad j) (fx_push Λ k len tg) (fx_z h Λ.1) Λ.1)]) H1) (hD1 : va_D A (fx_ws cy ad Λ h ++ [(q, fx_cell cy (fun j => if j = Λ.1 then q else ad j) (fx_push Λ k len tg) (fx_z h Λ.1) Λ.1)])) (hS1 : va_S A s.heap H1 locs) (hl : fx_loc ad ex ls nL la) :
    W p l e R s m args below meth cd H1 locs (cells + 1) (slots + S) Q (F0 m pc' la (.ref q :: st.map (fx_v ad ex))) := by
  obtain ⟨⟨hx, hb, hml, hown, hts, hK, hwf, hA, hRm, hlocks, hcr, hX⟩, hbd, hcs, hext, hn0⟩ := F
  obtain ⟨rfl, rfl⟩ := hcs
  subst hRm
  have had : ∀ j, j < Λ.1 → (fun j => if j = Λ.1 then q else ad j) j = ad j := fun j hj => if_neg (by omega)
  have hws := fx_ws_push (cy := cy) (h := h) (k := k) (len := len) (tg := tg) hbd had (q := q) (by simp) rfl
  rw [← hws] at hP1 hD1
  have hgo := g (fun j => if j = Λ.1 then q else ad j) ⟨⟨hx, hb, hml, hown, hts, hK, fx_wf_push hwf hlen hk, hA, rfl, hlocks, hroom, hX⟩, fx_bd_push hbd htg, ⟨rfl, rfl⟩, fun k' hk' => by rw [had k' (by omega)]; exact hext k' hk', by show n0 ≤ Λ.1 + 1; omega⟩
  have hnew : fx_ok (fx_push Λ k len tg) (k + 2, (Λ.1 : Int)) := fx_cell_ok hk18 ⟨by omega, by show (Λ.1 : Int) < ((Λ.1 + 1 : Nat) : Int); omega, by show (if (Λ.1 : Int) = (Λ.1 : Int) then k else fx_kd Λ Λ.1) = k; rw [if_pos rfl]⟩
  have h9 := hgo (fun i v hi => fx_ok_push (hls i v hi)) (fx_okc hnew (fun v hv => fx_ok_push (hst v hv))) (fx_z_rg hR) H1 locs la hP1 hD1 hS1 (fx_loc_ext had hls hl)
  rw [List.map_cons, fx_v_cell hk18, fx_st_ext had hst] at h9
  have eq9 : (if ((Λ.1 : Int).toNat) = Λ.1 then q else ad ((Λ.1 : Int).toNat)) = q := by simp
  rw [eq9] at h9
  exact h9
def fx_d0 (t : Nat) : Value := match t with
  | 0 => .int 0
  | 1 => .long 0
  | _ => .null
theorem fx_new (F : fx_FC M D cy ad ex A Λ cc own nL rm c n ad0 n0) {C : String} {T : u_T} {N index : Nat} (ci : Nat) (hC : fx_cls ci C T N) (hdef : ∀ j, j < N → (parseFieldDescriptor (T j).2.2.1).map defaultValue = some (fx_d0 ((fx_ft ci).getD j 0))) (l1 : Cond.classLink own index C ∈ fx_WS) (l2 : Cond.instantiable C N ∈ fx_WS) (l3 : Cond.initialized C ∈ fx_WS) (hroom : c + 1 ≤ rm.cells ∧ n + N ≤ rm.slots) (d : decode cc pc = .ok (.new index, 3))
    (g : ∀ ad' : Nat → Nat, fx_FC (fx_inc M 1 N) D cy ad' ex A (fx_push Λ (12 + ci) 0 (fun _ => -1)) cc own nL rm (c + 1) (n + N) ad0 n0 → fx_J (fx_inc M 1 N) (D, cy, ad', ex, A) (fx_push Λ (12 + ci) 0 (fun _ => -1)) nL (pc + 3) ls ((12 + ci + 2, (Λ.1 : Int)) :: st) (fx_z h Λ.1)) : fx_J M (D, cy, ad, ex, A) Λ nL pc ls st h := by
  obtain ⟨p, l, e, R, s, m, args, below, meth, cd, cells, slots, Q⟩ := M
  have F' := F
  obtain ⟨⟨hx, hb, hml, hown, hts, hK, hwf, hA, hRm, hlocks, hcr, hX⟩, hbd, hcs, hext, hn0⟩ := F
  obtain ⟨rfl, rfl⟩ := hcs
  subst hRm
  intro hls hst hR H locs la hP hD hS hl
  have hC' := hC
  obtain ⟨hc, h7, hN, hlen, hin, ⟨ty0, hty⟩, hnm⟩ := hC
  refine va_new (C := C) (T := T) (N := N) (fs := fx_fs (fun j => if j = Λ.1 then 0 else ad j) (fx_push Λ (12 + ci) 0 (fun _ => -1)) (fx_z h Λ.1) Λ.1 (fx_ft ci)) hx hb hts hin ty0 hty hown (hts _ l1) (hts _ l2) (hts _ l3) hK hP hD hS hA hc (fun j hj => ?_) hroom.1 hroom.2 d (fun q H1 hP1 hD1 hS1 => ?_)
  · have h1 := hdef j hj
    rw [hty j hj] at h1
    have h2 : defaultValue (ty0 j) = fx_d0 ((fx_ft ci).getD j 0) := Option.some.inj h1
    rw [h2]
    have hjl : j < (fx_ft ci).length := by rw [hlen]; exact hj
    have ht : (fx_ft ci)[j]? = some ((fx_ft ci).getD j 0) := by simp [List.getD, hjl]
    have h3 := fx_fs_at (ad := fun j => if j = Λ.1 then 0 else ad j) (Λ := fx_push Λ (12 + ci) 0 (fun _ => -1)) (h := fx_z h Λ.1) (a := Λ.1) ht
    have h4 : vp_V (fx_fs (fun j => if j = Λ.1 then 0 else ad j) (fx_push Λ (12 + ci) 0 (fun _ => -1)) (fx_z h Λ.1) Λ.1 (fx_ft ci)) j = fx_fv (fun j => if j = Λ.1 then 0 else ad j) (fx_push Λ (12 + ci) 0 (fun _ => -1)) (fx_z h Λ.1) Λ.1 j ((fx_ft ci).getD j 0) := by
      unfold vp_V
      rw [List.getD_eq_getElem?_getD, h3]
      rfl
    rw [h4]
    have e5 : ∀ i : Int, fx_z h Λ.1 Λ.1 i = 0 := fun i => by simp [fx_z]
    have e6 : ∀ i : Int, fx_tg (fx_push Λ (12 + ci) 0 (fun _ => -1)) Λ.1 i = -1 := fun i => by simp [fx_push, fx_tg]
    generalize (fx_ft ci).getD j 0 = t
    match t with
    | 0 => unfold fx_fv; simp only [e5]; rfl
    | 1 => unfold fx_fv; simp only [e5]; rfl
    | t + 2 => unfold fx_fv; simp only [e6]; rfl
  · have ecell : fx_cell cy (fun j => if j = Λ.1 then q else ad j) (fx_push Λ (12 + ci) 0 (fun _ => -1)) (fx_z h Λ.1) Λ.1 = .inr (ci, fx_fs (fun j => if j = Λ.1 then 0 else ad j) (fx_push Λ (12 + ci) 0 (fun _ => -1)) (fx_z h Λ.1) Λ.1 (fx_ft ci)) := by
      have ek : fx_kd (fx_push Λ (12 + ci) 0 (fun _ => -1)) Λ.1 = 12 + ci := by simp [fx_push, fx_kd]
      have e6 : ∀ i : Int, fx_tg (fx_push Λ (12 + ci) 0 (fun _ => -1)) Λ.1 i = -1 := fun i => by simp [fx_push, fx_tg]
      have ef : ∀ ad1 ad2 : Nat → Nat, ∀ ts, fx_fs ad1 (fx_push Λ (12 + ci) 0 (fun _ => -1)) (fx_z h Λ.1) Λ.1 ts = fx_fs ad2 (fx_push Λ (12 + ci) 0 (fun _ => -1)) (fx_z h Λ.1) Λ.1 ts := fun ad1 ad2 ts => by
        unfold fx_fs
        apply List.map_congr_left
        intro j _
        unfold fx_fv
        split
        · rfl
        · rfl
        · rw [e6]; rfl
      unfold fx_cell
      rw [ek]
      match ci, h7 with
      | 0, _ | 1, _ | 2, _ | 3, _ | 4, _ | 5, _ | 6, _ => exact congrArg (fun z => Sum.inr (_, z)) (ef _ _ _)
    rw [← ecell] at hP1 hD1
    exact fx_made F' ⟨by decide, by decide⟩ (by omega) (by omega) (fun i => by show (-1 : Int) ≤ _; omega) hroom g hls hst hR q hP1 hD1 hS1 hl
end FXA
