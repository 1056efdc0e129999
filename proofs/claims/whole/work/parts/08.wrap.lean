/-! ===== fx: rows as the program that writes walks takes them ===== -/
def fx_sbs : List (Option fx_V) → List (Option fx_V) → Prop
  | [], _ => True
  | none :: a, _ :: b => fx_sbs a b
  | none :: a, [] => fx_sbs a []
  | some v :: a, w :: b => w = some v ∧ fx_sbs a b
  | some _ :: _, [] => False
theorem fx_sbs_use : ∀ {a b : List (Option fx_V)}, fx_sbs a b → ∀ (i : Nat) (v : fx_V), a[i]? = some (some v) → b[i]? = some (some v)
  | [], _, _, i, v, hi => by simp at hi
  | none :: a, w :: b, h, i, v, hi => by
    match i, hi with
    | 0, hi => simp at hi
    | i + 1, hi => simpa using fx_sbs_use (a := a) (b := b) h i v (by simpa using hi)
  | none :: a, [], h, i, v, hi => by
    match i, hi with
    | 0, hi => simp at hi
    | i + 1, hi => exact absurd (fx_sbs_use (a := a) (b := []) h i v (by simpa using hi)) (by simp)
  | some u :: a, w :: b, h, i, v, hi => by
    match i, hi with
    | 0, hi =>
      have : u = v := by simpa using hi
      subst this
      simp [h.1]
    | i + 1, hi => simpa using fx_sbs_use (a := a) (b := b) h.2 i v (by simpa using hi)
  | some _ :: _, [], h, _, _, _ => absurd h (fun z => z)
def fx_zb (b : Int) : Option Int := if b = 0 ∨ b = 1 then some b else none
theorem fx_zb_use {b v : Int} (h : fx_zb b = some v) : b = v ∧ (v = 0 ∨ v = 1) := by
  unfold fx_zb at h
  split at h
  · rename_i q; cases h; exact ⟨rfl, q⟩
  · cases h
section FXW
variable {M : fx_M} {G : fx_G} {Λ : fx_L} {cc : ByteArray} {own : String} {nL pc : Nat} {rm : Room} {ls : List (Option fx_V)} {st : List fx_V} {h : fx_H}
theorem fx_drop {ls' : List (Option fx_V)} (hs : fx_sbs ls' ls) (g : fx_J M G Λ nL pc ls' st h) : fx_J M G Λ nL pc ls st h := by
  obtain ⟨p, l, e, R, s, m, args, below, meth, c, cells, slots, Q⟩ := M
  obtain ⟨D, cy, ad, ex, A⟩ := G
  intro hls hst hR H locs la hP hD hS hl
  exact g (fun i v hi => hls i v (fx_sbs_use hs i v hi)) hst hR H locs la hP hD hS ⟨hl.1, hl.2.1, fun i v hi => hl.2.2 i v (fx_sbs_use hs i v hi)⟩
theorem fx_gI (F : fx_F fx_X M G Λ cc own nL rm) {a : Int} {C : String} {T : u_T} {N index : Nat} (ci k : Nat) (kz : Int) (hz : (k : Int) = kz) (hC : fx_cls ci C T N) (ht : (fx_ft ci)[k]? = some 0) (lk : Cond.fieldLink own index (T k).1 (T k).2.1 (T k).2.2.1 ∈ fx_WS) (d : decode cc pc = .ok (.getfield index, 3)) (g : fx_J M G Λ nL (pc + 3) ls ((0, h a kz) :: st) h) : fx_J M G Λ nL pc ls ((ci + 2, a) :: st) h := by
  subst hz
  exact fx_getI F ci k hC ht lk d g
theorem fx_gL (F : fx_F fx_X M G Λ cc own nL rm) {a : Int} {C : String} {T : u_T} {N index : Nat} (ci k : Nat) (kz : Int) (hz : 1000000 + (k : Int) = kz) (hC : fx_cls ci C T N) (ht : (fx_ft ci)[k]? = some 1) (lk : Cond.fieldLink own index (T k).1 (T k).2.1 (T k).2.2.1 ∈ fx_WS) (d : decode cc pc = .ok (.getfield index, 3)) (g : fx_J M G Λ nL (pc + 3) ls ((1, h a kz) :: st) h) : fx_J M G Λ nL pc ls ((ci + 2, a) :: st) h := by
  subst hz
  exact fx_getL F ci k hC ht lk d g
theorem fx_gR (F : fx_F fx_X M G Λ cc own nL rm) {a : Int} {C : String} {T : u_T} {N index : Nat} (ci k : Nat) (kz : Int) (r : Nat) (hz : (k : Int) = kz) (hC : fx_cls ci C T N) (hr18 : r < 60) (ht : (fx_ft ci)[k]? = some (r + 2)) (lk : Cond.fieldLink own index (T k).1 (T k).2.1 (T k).2.2.1 ∈ fx_WS) (d : decode cc pc = .ok (.getfield index, 3)) (g : fx_J M G Λ nL (pc + 3) ls ((r + 2, fx_tg Λ a kz) :: st) h) : fx_J M G Λ nL pc ls ((ci + 2, a) :: st) h := by
  subst hz
  exact fx_getR F ci k hC hr18 ht lk d g
theorem fx_pI (F : fx_F fx_X M G Λ cc own nL rm) {a : Int} {C : String} {T : u_T} {N index : Nat} (ci k : Nat) (kz : Int) (hz : (k : Int) = kz) (hC : fx_cls ci C T N) (ht : (fx_ft ci)[k]? = some 0) (hfin : (T k).2.2.2 = false) (hd : parseFieldDescriptor (T k).2.2.1 = some .int) (lk : Cond.fieldLink own index (T k).1 (T k).2.1 (T k).2.2.1 ∈ fx_WS) {x : Int} (d : decode cc pc = .ok (.putfield index, 3)) (g : fx_J M G Λ nL (pc + 3) ls st (fx_up h a kz x)) : fx_J M G Λ nL pc ls ((0, x) :: (ci + 2, a) :: st) h := by
  subst hz
  exact fx_putI F ci k hC ht hfin hd lk d g
theorem fx_pZ (F : fx_F fx_X M G Λ cc own nL rm) {a : Int} {C : String} {T : u_T} {N index : Nat} (ci k : Nat) (kz : Int) (hz : (k : Int) = kz) (hC : fx_cls ci C T N) (ht : (fx_ft ci)[k]? = some 0) (hfin : (T k).2.2.2 = false) (hd : parseFieldDescriptor (T k).2.2.1 = some .boolean) (lk : Cond.fieldLink own index (T k).1 (T k).2.1 (T k).2.2.1 ∈ fx_WS) {x : Int} (hbz : x = 0 ∨ x = 1) (d : decode cc pc = .ok (.putfield index, 3)) (g : fx_J M G Λ nL (pc + 3) ls st (fx_up h a kz x)) : fx_J M G Λ nL pc ls ((0, x) :: (ci + 2, a) :: st) h := by
  subst hz
  exact fx_putZ F ci k hC ht hfin hd lk hbz d g
theorem fx_pL (F : fx_F fx_X M G Λ cc own nL rm) {a : Int} {C : String} {T : u_T} {N index : Nat} (ci k : Nat) (kz : Int) (hz : 1000000 + (k : Int) = kz) (hC : fx_cls ci C T N) (ht : (fx_ft ci)[k]? = some 1) (hfin : (T k).2.2.2 = false) (hd : parseFieldDescriptor (T k).2.2.1 = some .long) (lk : Cond.fieldLink own index (T k).1 (T k).2.1 (T k).2.2.1 ∈ fx_WS) {x : Int} (d : decode cc pc = .ok (.putfield index, 3)) (g : fx_J M G Λ nL (pc + 3) ls st (fx_up h a kz x)) : fx_J M G Λ nL pc ls ((1, x) :: (ci + 2, a) :: st) h := by
  subst hz
  exact fx_putL F ci k hC ht hfin hd lk d g
theorem fx_cV (F : fx_F fx_X M G Λ cc own nL rm) {y : MethodName} {cc' : ByteArray} {nL' index N : Nat} {ret : Option FieldType} {rm' : Room} {C : String} {T : u_T} (ci : Nat) (hC : fx_cls ci C T N) (as : List fx_V) (b : Int) (st : List fx_V) {v : fx_V} {ho : fx_H} (hM : fx_Met y cc' nL' ret rm' Λ ((ci + 2, b) :: as) h (some v) ho) (hd : fx_md y cc' nL' ret as.length) (hi : fx_mi y) (hyC : y.cls = C) (lk : Cond.methodLink own index y ∈ fx_WS) (hrm : rm'.cells = 0 ∧ rm'.slots = 0) (hRR : rm'.frames + 1 ≤ rm.frames ∧ 8 + (nL' + 11) + rm'.locals ≤ rm.locals) (hc8 : fx_c8 st ≤ 8) {stk : List fx_V} (hstk : stk = as.reverse ++ (ci + 2, b) :: st) (d : decode cc pc = .ok (.invokevirtual index, 3)) (g : fx_J M G Λ nL (pc + 3) ls (v :: st) ho) : fx_J M G Λ nL pc ls stk h := fx_callV F ci hC as hM hd hi hyC lk hrm hRR hc8 hstk d g
theorem fx_cVv (F : fx_F fx_X M G Λ cc own nL rm) {y : MethodName} {cc' : ByteArray} {nL' index N : Nat} {ret : Option FieldType} {rm' : Room} {C : String} {T : u_T} (ci : Nat) (hC : fx_cls ci C T N) (as : List fx_V) (b : Int) (st : List fx_V) {ho : fx_H} (hM : fx_Met y cc' nL' ret rm' Λ ((ci + 2, b) :: as) h none ho) (hd : fx_md y cc' nL' ret as.length) (hi : fx_mi y) (hyC : y.cls = C) (lk : Cond.methodLink own index y ∈ fx_WS) (hrm : rm'.cells = 0 ∧ rm'.slots = 0) (hRR : rm'.frames + 1 ≤ rm.frames ∧ 8 + (nL' + 11) + rm'.locals ≤ rm.locals) (hc8 : fx_c8 st ≤ 8) {stk : List fx_V} (hstk : stk = as.reverse ++ (ci + 2, b) :: st) (d : decode cc pc = .ok (.invokevirtual index, 3)) (g : fx_J M G Λ nL (pc + 3) ls st ho) : fx_J M G Λ nL pc ls stk h := fx_callV F ci hC as hM hd hi hyC lk hrm hRR hc8 hstk d g
theorem fx_cS (F : fx_F fx_X M G Λ cc own nL rm) {y : MethodName} {cc' : ByteArray} {nL' index : Nat} {ret : Option FieldType} {rm' : Room} (as st : List fx_V) {v : fx_V} {ho : fx_H} (hM : fx_Met y cc' nL' ret rm' Λ as h (some v) ho) (hd : fx_md y cc' nL' ret as.length) (hss : Cond.static y ∈ fx_WS) (lk : Cond.methodLink own index y ∈ fx_WS) (hrm : rm'.cells = 0 ∧ rm'.slots = 0) (hRR : rm'.frames + 1 ≤ rm.frames ∧ 8 + (nL' + 11) + rm'.locals ≤ rm.locals) (hc8 : fx_c8 st ≤ 8) {stk : List fx_V} (hstk : stk = as.reverse ++ st) (d : decode cc pc = .ok (.invokestatic index, 3)) (g : fx_J M G Λ nL (pc + 3) ls (v :: st) ho) : fx_J M G Λ nL pc ls stk h := fx_callS F as hM hd hss lk hrm hRR hc8 hstk d g
theorem fx_cSv (F : fx_F fx_X M G Λ cc own nL rm) {y : MethodName} {cc' : ByteArray} {nL' index : Nat} {ret : Option FieldType} {rm' : Room} (as st : List fx_V) {ho : fx_H} (hM : fx_Met y cc' nL' ret rm' Λ as h none ho) (hd : fx_md y cc' nL' ret as.length) (hss : Cond.static y ∈ fx_WS) (lk : Cond.methodLink own index y ∈ fx_WS) (hrm : rm'.cells = 0 ∧ rm'.slots = 0) (hRR : rm'.frames + 1 ≤ rm.frames ∧ 8 + (nL' + 11) + rm'.locals ≤ rm.locals) (hc8 : fx_c8 st ≤ 8) {stk : List fx_V} (hstk : stk = as.reverse ++ st) (d : decode cc pc = .ok (.invokestatic index, 3)) (g : fx_J M G Λ nL (pc + 3) ls st ho) : fx_J M G Λ nL pc ls stk h := fx_callS F as hM hd hss lk hrm hRR hc8 hstk d g
theorem fx_cN (F : fx_F fx_X M G Λ cc own nL rm) {y : MethodName} {cc' : ByteArray} {nL' index : Nat} {ret : Option FieldType} {rm' : Room} (as st : List fx_V) {v : fx_V} {ho : fx_H} (hM : fx_Met y cc' nL' ret rm' Λ as h (some v) ho) (hd : fx_md y cc' nL' ret as.length) (hss : Cond.static y ∈ fx_WS) (lk : (own, index, y) ∈ fx_nm) (hrm : rm'.cells = 0 ∧ rm'.slots = 0) (hRR : rm'.frames + 1 ≤ rm.frames ∧ 8 + (nL' + 11) + rm'.locals ≤ rm.locals) (hc8 : fx_c8 st ≤ 8) {stk : List fx_V} (hstk : stk = as.reverse ++ st) (d : decode cc pc = .ok (.invokestatic index, 3)) (g : fx_J M G Λ nL (pc + 3) ls (v :: st) ho) : fx_J M G Λ nL pc ls stk h := fx_callSN F as hM hd hss lk hrm hRR hc8 hstk d g
theorem fx_b01 {p : Prop} (d : Decidable p) : (if p then (1 : Int) else 0) = 0 ∨ (if p then (1 : Int) else 0) = 1 := by
  by_cases hp : p
  · rw [if_pos hp]; exact Or.inr rfl
  · rw [if_neg hp]; exact Or.inl rfl
theorem fx_lmax (F : fx_F fx_X M G Λ cc own nL rm) {x y : Int} {index : Nat} (lk : Cond.methodLink own index Lib.MathLoose.max_long.x ∈ fx_WS) (hk1 : Cond.static Lib.MathLoose.max_long.x ∈ fx_WS) (hk2 : Cond.initialized "java/lang/Math" ∈ fx_WS) (hk3 : Cond.code Lib.MathLoose.max_long.x Lib.MathLoose.max_long.code 4 (some .long) ∈ fx_WS) (hf1 : 1 ≤ rm.frames) (hf2 : fx_c8 st + 15 ≤ rm.locals) (d : decode cc pc = .ok (.invokestatic index, 3)) (g : fx_J M G Λ nL (pc + 3) ls ((1, max x y) :: st) h) : fx_J M G Λ nL pc ls ((1, y) :: (1, x) :: st) h := by
  obtain ⟨p, l, e, R, s, m, args, below, meth, c, cells, slots, Q⟩ := M
  obtain ⟨D, cy, ad, ex, A⟩ := G
  obtain ⟨hx, hb, hml, hown, hts, hK, hwf, hA, hRm, hlocks, hcr, hX⟩ := F
  intro hls hst hR H locs la hP hD hS hl
  have hy' := hst _ List.mem_cons_self
  have hx' := hst _ (List.mem_cons_of_mem _ List.mem_cons_self)
  have hr' : ∀ v ∈ st, fx_ok Λ v := fun v hv => hst v (List.mem_cons_of_mem _ (List.mem_cons_of_mem _ hv))
  subst hRm
  have hxr := fx_ok_l hx'
  have hyr := fx_ok_l hy'
  have e9 : (if Int64.ofInt y < Int64.ofInt x then Int64.ofInt x else Int64.ofInt y) = Int64.ofInt (max x y) := by
    have h3 : Int64.ofInt y < Int64.ofInt x ↔ y < x := by rw [Int64.lt_iff_toInt_lt, fx_tRl hxr, fx_tRl hyr]
    by_cases hq : y < x
    · rw [if_pos (h3.mpr hq), Int.max_eq_left (by omega)]
    · rw [if_neg (fun z => hq (h3.mp z)), Int.max_eq_right (by omega)]
  refine va_mmax_long hx hb (hml.trans hl.1.symm) hown (hts _ lk) (hts _ hk1) (hts _ hk2) (hts _ hk3) hf1 (by rw [fx_c8_le]; exact hf2) hcr.1 hcr.2 d ?_
  rw [e9]
  exact g hls (fx_okc (by show fx_Rl (max x y); unfold fx_Rl at hxr hyr ⊢; omega) hr') hR H locs la hP hD hS hl
end FXW
