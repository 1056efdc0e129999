/-! ===== fx: the machine seen as pure numbers. Values are Ints; cells are numbered; what an array or object holds is h cell place ===== -/
def fx_w (z : Int) : Int := Int.bmod z 4294967296
def fx_wl (z : Int) : Int := Int.bmod z 18446744073709551616
def fx_R (z : Int) : Prop := -2147483648 ≤ z ∧ z ≤ 2147483647
def fx_Rl (z : Int) : Prop := -9223372036854775808 ≤ z ∧ z ≤ 9223372036854775807
theorem fx_w_R (z : Int) : fx_R (fx_w z) := by
  have h1 := Int.le_bmod (x := z) (m := 4294967296) (by decide)
  have h2 := Int.bmod_lt (x := z) (m := 4294967296) (by decide)
  unfold fx_R fx_w
  omega
theorem fx_wl_R (z : Int) : fx_Rl (fx_wl z) := by
  have h1 := Int.le_bmod (x := z) (m := 18446744073709551616) (by decide)
  have h2 := Int.bmod_lt (x := z) (m := 18446744073709551616) (by decide)
  unfold fx_Rl fx_wl
  omega
theorem fx_id {z : Int} (h : fx_R z) : fx_w z = z := by
  unfold fx_R at h
  exact Int.bmod_eq_of_le (by omega) (by omega)
theorem fx_idl {z : Int} (h : fx_Rl z) : fx_wl z = z := by
  unfold fx_Rl at h
  exact Int.bmod_eq_of_le (by omega) (by omega)
theorem fx_ti (z : Int) : (Int32.ofInt z).toInt = fx_w z := Int32.toInt_ofInt
theorem fx_til (z : Int) : (Int64.ofInt z).toInt = fx_wl z := Int64.toInt_ofInt
theorem fx_tR {z : Int} (h : fx_R z) : (Int32.ofInt z).toInt = z := (fx_ti z).trans (fx_id h)
theorem fx_tRl {z : Int} (h : fx_Rl z) : (Int64.ofInt z).toInt = z := (fx_til z).trans (fx_idl h)
theorem fx_ofw (z : Int) : Int32.ofInt (fx_w z) = Int32.ofInt z := Int32.toInt_inj.mp (by rw [fx_ti, fx_ti]; exact fx_id (fx_w_R z))
theorem fx_ofwl (z : Int) : Int64.ofInt (fx_wl z) = Int64.ofInt z := Int64.toInt_inj.mp (by rw [fx_til, fx_til]; exact fx_idl (fx_wl_R z))
theorem fx_eq_of {x : Int32} {z : Int} (h : x.toInt = fx_w z) : x = Int32.ofInt (fx_w z) := Int32.toInt_inj.mp (by rw [h, fx_ti]; exact (fx_id (fx_w_R z)).symm)
theorem fx_eq_ofl {x : Int64} {z : Int} (h : x.toInt = fx_wl z) : x = Int64.ofInt (fx_wl z) := Int64.toInt_inj.mp (by rw [h, fx_til]; exact (fx_idl (fx_wl_R z)).symm)
theorem fx_of_toInt (x : Int32) : Int32.ofInt x.toInt = x := Int32.toInt_inj.mp (by rw [fx_ti]; exact fx_id ⟨Int32.le_toInt x, Int.le_of_lt_add_one (Int32.toInt_lt x)⟩)
theorem fx_of_toIntl (x : Int64) : Int64.ofInt x.toInt = x := Int64.toInt_inj.mp (by rw [fx_til]; exact fx_idl ⟨Int64.le_toInt x, Int.le_of_lt_add_one (Int64.toInt_lt x)⟩)
theorem fx_toInt_R (x : Int32) : fx_R x.toInt := ⟨Int32.le_toInt x, Int.le_of_lt_add_one (Int32.toInt_lt x)⟩
theorem fx_toInt_Rl (x : Int64) : fx_Rl x.toInt := ⟨Int64.le_toInt x, Int.le_of_lt_add_one (Int64.toInt_lt x)⟩
theorem fx_lt {x y : Int} (hx : fx_R x) (hy : fx_R y) : Int32.ofInt x < Int32.ofInt y ↔ x < y := by rw [Int32.lt_iff_toInt_lt, fx_tR hx, fx_tR hy]
theorem fx_le {x y : Int} (hx : fx_R x) (hy : fx_R y) : Int32.ofInt x ≤ Int32.ofInt y ↔ x ≤ y := by rw [Int32.le_iff_toInt_le, fx_tR hx, fx_tR hy]
theorem fx_eq {x y : Int} (hx : fx_R x) (hy : fx_R y) : Int32.ofInt x = Int32.ofInt y ↔ x = y := by rw [← Int32.toInt_inj, fx_tR hx, fx_tR hy]
theorem fx_in {x : Int} {n : Nat} (hx : fx_R x) (h0 : 0 ≤ x) (h1 : x < n) : vp_in (Int32.ofInt x) n := vp_in_iff.mpr (by rw [fx_tR hx]; exact ⟨h0, h1⟩)
theorem fx_cl {x : Int} (hx : fx_R x) : (Int32.ofInt x).toNatClampNeg = x.toNat := by
  show (Int32.ofInt x).toInt.toNat = _
  rw [fx_tR hx]
theorem fx_add (x y : Int) : Int32.ofInt x + Int32.ofInt y = Int32.ofInt (fx_w (x + y)) := by rw [fx_ofw, Int32.ofInt_add]
theorem fx_sub (x y : Int) : Int32.ofInt x - Int32.ofInt y = Int32.ofInt (fx_w (x - y)) := by rw [fx_ofw, Int32.ofInt_sub]
theorem fx_mul (x y : Int) : Int32.ofInt x * Int32.ofInt y = Int32.ofInt (fx_w (x * y)) := by rw [fx_ofw, Int32.ofInt_mul]
theorem fx_addl (x y : Int) : Int64.ofInt x + Int64.ofInt y = Int64.ofInt (fx_wl (x + y)) := by rw [fx_ofwl, Int64.ofInt_add]
theorem fx_subl (x y : Int) : Int64.ofInt x - Int64.ofInt y = Int64.ofInt (fx_wl (x - y)) := by rw [fx_ofwl, Int64.ofInt_sub]
theorem fx_mull (x y : Int) : Int64.ofInt x * Int64.ofInt y = Int64.ofInt (fx_wl (x * y)) := by rw [fx_ofwl, Int64.ofInt_mul]
theorem fx_div {x y : Int} (hx : fx_R x) (hy : fx_R y) : Int32.ofInt x / Int32.ofInt y = Int32.ofInt (fx_w (x.tdiv y)) := fx_eq_of (by rw [Int32.toInt_div, fx_tR hx, fx_tR hy]; rfl)
theorem fx_divl {x y : Int} (hx : fx_Rl x) (hy : fx_Rl y) : Int64.ofInt x / Int64.ofInt y = Int64.ofInt (fx_wl (x.tdiv y)) := fx_eq_ofl (by rw [Int64.toInt_div, fx_tRl hx, fx_tRl hy]; rfl)
theorem fx_rem {x y : Int} (hx : fx_R x) (hy : fx_R y) : Int32.ofInt x - Int32.ofInt x / Int32.ofInt y * Int32.ofInt y = Int32.ofInt (fx_w (x.tmod y)) := by
  rw [fx_div hx hy, fx_ofw, fx_ofw, ← Int32.ofInt_mul, ← Int32.ofInt_sub]
  congr 1
  have := Int.mul_tdiv_add_tmod x y
  rw [Int.mul_comm] at this
  omega
theorem fx_reml {x y : Int} (hx : fx_Rl x) (hy : fx_Rl y) : Int64.ofInt x - Int64.ofInt x / Int64.ofInt y * Int64.ofInt y = Int64.ofInt (fx_wl (x.tmod y)) := by
  rw [fx_divl hx hy, fx_ofwl, fx_ofwl, ← Int64.ofInt_mul, ← Int64.ofInt_sub]
  congr 1
  have := Int.mul_tdiv_add_tmod x y
  rw [Int.mul_comm] at this
  omega
def fx_land (x y : Int) : Int := (Int64.ofInt x &&& Int64.ofInt y).toInt
def fx_lor (x y : Int) : Int := (Int64.ofInt x ||| Int64.ofInt y).toInt
def fx_iand (x y : Int) : Int := (Int32.ofInt x &&& Int32.ofInt y).toInt
def fx_lshl (x y : Int) : Int := (Int64.ofInt x <<< ((Int32.ofInt y).toInt64 &&& 63)).toInt
def fx_lushr (x y : Int) : Int := ((Int64.ofInt x).toUInt64 >>> ((Int32.ofInt y).toInt64.toUInt64 &&& Int64.toUInt64 63)).toInt64.toInt
def fx_b (x : Int) : Int := (Int32.ofInt x).toInt8.toInt32.toInt
def fx_cmp (x y : Int) : Int := if y < x then 1 else if x = y then 0 else -1
theorem fx_i2l {x : Int} (hx : fx_R x) : (Int32.ofInt x).toInt64 = Int64.ofInt x := Int64.toInt_inj.mp (by
  rw [Int32.toInt_toInt64, fx_tR hx, fx_til, fx_idl]
  unfold fx_R at hx
  unfold fx_Rl
  omega)
theorem fx_l2i {x : Int} (hx : fx_Rl x) : (Int64.ofInt x).toInt32 = Int32.ofInt (fx_w x) := fx_eq_of (by
  rw [Int64.toInt_toInt32, fx_tRl hx]; rfl)
theorem fx_cmp_eq {x y : Int} (hx : fx_Rl x) (hy : fx_Rl y) : lg_cmp (Int64.ofInt x) (Int64.ofInt y) = Int32.ofInt (fx_cmp x y) := by
  have h1 : Int64.ofInt y < Int64.ofInt x ↔ y < x := by rw [Int64.lt_iff_toInt_lt, fx_tRl hx, fx_tRl hy]
  have h2 : Int64.ofInt x = Int64.ofInt y ↔ x = y := by rw [← Int64.toInt_inj, fx_tRl hx, fx_tRl hy]
  unfold lg_cmp fx_cmp
  simp only [gt_iff_lt, h1, h2]
  split
  · rfl
  · split <;> rfl
theorem fx_cmp_R (x y : Int) : fx_R (fx_cmp x y) := by
  unfold fx_cmp fx_R
  split
  · omega
  · split <;> omega
/-! ===== fx: layout, cells, worlds ===== -/
abbrev fx_H : Type := Int → Int → Int
/-- a value: its tag (0 int, 1 long, k + 2 a cell of kind k, from 62 on a cell that is no part of the world), and it -/
abbrev fx_V : Type := Nat × Int
/-- how many cells; kind; length; what a reference place of a cell names -/
abbrev fx_L : Type := Nat × (Int → Nat) × (Int → Int) × (Int → Int → Int)
/-- a cell that is no part of the world; 62 (tag 64): one that may be null -/
def fx_xv (ex : Nat → Nat) (k : Nat) (x : Int) : Value := match Nat.beq k 62 with
  | true => match ex 5 with
    | 0 => .null
    | n + 1 => .ref n
  | false => .ref (ex x.toNat)
def fx_v (ad ex : Nat → Nat) (v : fx_V) : Value := match v.1 with
  | 0 => .int (Int32.ofInt v.2)
  | 1 => .long (Int64.ofInt v.2)
  | k + 2 => match Nat.ble 60 k with
    | true => fx_xv ex k v.2
    | false => .ref (ad v.2.toNat)
def fx_kd (Λ : fx_L) (a : Int) : Nat := Λ.2.1 a
def fx_ln (Λ : fx_L) (a : Int) : Int := Λ.2.2.1 a
def fx_tg (Λ : fx_L) (a i : Int) : Int := Λ.2.2.2 a i
def fx_at (Λ : fx_L) (a : Int) (k : Nat) : Prop := 0 ≤ a ∧ a < Λ.1 ∧ fx_kd Λ a = k
def fx_ok (Λ : fx_L) (v : fx_V) : Prop := match v.1 with
  | 0 => fx_R v.2
  | 1 => fx_Rl v.2
  | k + 2 => match Nat.ble 60 k with
    | true => True
    | false => fx_at Λ v.2 k
def fx_rg (h : fx_H) : Prop := (∀ a i : Int, i < 1000000 → fx_R (h a i)) ∧ ∀ a i : Int, fx_Rl (h a i)
def fx_up (h : fx_H) (a i v : Int) : fx_H := fun a' i' => if a' = a ∧ i' = i then v else h a' i'
theorem fx_up_rg {h : fx_H} {a i v : Int} (hr : fx_rg h) (hv : fx_R v) : fx_rg (fx_up h a i v) := by
  refine ⟨fun b j hj => ?_, fun b j => ?_⟩
  · unfold fx_up
    split
    · exact hv
    · exact hr.1 b j hj
  · unfold fx_up
    split
    · unfold fx_R at hv
      unfold fx_Rl
      omega
    · exact hr.2 b j
theorem fx_up_rgl {h : fx_H} {a i v : Int} (hr : fx_rg h) (hi : 1000000 ≤ i) (hv : fx_Rl v) : fx_rg (fx_up h a i v) := by
  refine ⟨fun b j hj => ?_, fun b j => ?_⟩
  · unfold fx_up
    split
    · omega
    · exact hr.1 b j hj
  · unfold fx_up
    split
    · exact hv
    · exact hr.2 b j
/-- what a reference place holds: a cell of the world, or (a negative number) null -/
def fx_ro (ad : Nat → Nat) (t : Int) : Option Nat := match t with
  | .ofNat k => some (ad k)
  | .negSucc _ => none
theorem fx_ro_pos {ad : Nat → Nat} {t : Int} (h : 0 ≤ t) : fx_ro ad t = some (ad t.toNat) := by
  match t, h with
  | .ofNat k, _ => rfl
/-- kinds from 12 on: of the same sort (12 less), but not yet whole -/
def fx_ci (k : Nat) : Nat := if k < 12 then k else k - 12
def fx_fv (ad : Nat → Nat) (Λ : fx_L) (h : fx_H) (a : Int) (i t : Nat) : Value := match t with
  | 0 => .int (Int32.ofInt (h a i))
  | 1 => .long (Int64.ofInt (h a (1000000 + i)))
  | _ => va_rf (fx_ro ad (fx_tg Λ a i))
def fx_fs (ad : Nat → Nat) (Λ : fx_L) (h : fx_H) (a : Int) (ts : List Nat) : List Value := (List.range ts.length).map (fun i => fx_fv ad Λ h a i (ts.getD i 0))
/-- the fields of each kind of object: tags -/
def fx_ft : Nat → List Nat
  | 0 => [10, 10, 10, 10, 0, 0]
  | 1 => [13, 13, 0, 13, 0, 0, 13, 10, 10, 10, 10, 10, 13]
  | 2 => [0, 10, 10, 10, 0, 0]
  | 3 => [9, 0, 0, 0, 0, 0, 0]
  | 4 => [0, 0, 0, 0, 0, 0, 10, 10, 13, 13, 10, 10, 10, 10]
  | 5 => [6, 6, 12, 11, 5, 2, 3, 4, 1, 1, 0, 0, 0, 0]
  | 6 => [10, 10, 11, 10, 1, 1, 10, 10, 10, 10, 10, 10, 10, 10, 10, 10, 10, 0, 0, 0, 0, 0, 10, 0, 10]
  | _ => []
def fx_ai (cy : ClassId) (Λ : fx_L) (h : fx_H) (a : Int) : va_E := .inl (cy, (fx_ln Λ a).toNat, .inl (fun i => Int32.ofInt (h a i)))
def fx_ar (cy : ClassId) (ad : Nat → Nat) (Λ : fx_L) (a : Int) : va_E := .inl (cy, (fx_ln Λ a).toNat, .inr (.inr (.inr (.inr (fun i => fx_ro ad (fx_tg Λ a i))))))
def fx_cell (cy : Nat → ClassId) (ad : Nat → Nat) (Λ : fx_L) (h : fx_H) (a : Int) : va_E := match fx_kd Λ a with
  | 7 => fx_ai (cy 0) Λ h a
  | 8 => fx_ai (cy 1) Λ h a
  | 9 => fx_ai (cy 2) Λ h a
  | 10 => fx_ar (cy 3) ad Λ a
  | 11 => fx_ar (cy 4) ad Λ a
  | 22 => fx_ar (cy 3) ad Λ a
  | k => .inr (fx_ci k, fx_fs ad Λ h a (fx_ft (fx_ci k)))
def fx_ws (cy : Nat → ClassId) (ad : Nat → Nat) (Λ : fx_L) (h : fx_H) : va_W := (List.range Λ.1).map (fun k => (ad k, fx_cell cy ad Λ h k))
def fx_tys (cy : Nat → ClassId) : List (ClassId × FieldType) := [(cy 0, .byte), (cy 1, .int), (cy 2, .boolean), (cy 3, .object RX4), (cy 4, .array .int)]
def fx_wf (Λ : fx_L) : Prop := ∀ a : Int, 0 ≤ a → a < Λ.1 → 0 ≤ fx_ln Λ a ∧ fx_ln Λ a ≤ 1000000 ∧
  (fx_kd Λ a < 7 → ∀ (i k : Nat), (fx_ft (fx_kd Λ a))[i]? = some (k + 2) → fx_at Λ (fx_tg Λ a i) k) ∧
  (fx_kd Λ a = 10 → ∀ i : Int, 0 ≤ i → i < fx_ln Λ a → fx_at Λ (fx_tg Λ a i) 4) ∧
  (fx_kd Λ a = 11 → ∀ i : Int, 0 ≤ i → i < fx_ln Λ a → fx_at Λ (fx_tg Λ a i) 8)
theorem fx_map_set {α : Type} (n q : Nat) (f g : Nat → α) (hne : ∀ k, k ≠ q → g k = f k) : ((List.range n).map f).set q (g q) = (List.range n).map g := by
  apply List.ext_getElem?
  intro k
  rw [List.getElem?_set]
  by_cases hk : q = k
  · subst hk
    by_cases hn : q < n
    · simp [hn]
    · simp [hn]
  · simp only [hk, if_false, List.getElem?_map]
    by_cases hn : k < n
    · simp [List.getElem?_range hn, hne k (fun e => hk e.symm)]
    · rw [List.getElem?_eq_none (by simpa using hn)]
      rfl
theorem fx_ws_at {cy : Nat → ClassId} {ad : Nat → Nat} {Λ : fx_L} {h : fx_H} {a : Int} (h0 : 0 ≤ a) (h1 : a < Λ.1) : (fx_ws cy ad Λ h)[a.toNat]? = some (ad a.toNat, fx_cell cy ad Λ h a) := by
  unfold fx_ws
  rw [List.getElem?_map, List.getElem?_range (by omega)]
  simp [Int.toNat_of_nonneg h0]
theorem fx_cell_ne {cy : Nat → ClassId} {ad : Nat → Nat} {Λ : fx_L} {h : fx_H} {a b i v : Int} (hb : b ≠ a) : fx_cell cy ad Λ (fx_up h a i v) b = fx_cell cy ad Λ h b := by
  have e : ∀ j : Int, fx_up h a i v b j = h b j := fun j => by simp [fx_up, hb]
  unfold fx_cell
  split <;> simp only [fx_ai, fx_fs, e] <;> (try rfl)
  congr 2
  apply List.map_congr_left
  intro j _
  unfold fx_fv
  split <;> simp only [e]
theorem fx_ws_set {cy : Nat → ClassId} {ad : Nat → Nat} {Λ : fx_L} {h : fx_H} {a i v : Int} (h0 : 0 ≤ a) {e : va_E} (he : fx_cell cy ad Λ (fx_up h a i v) a = e) : (fx_ws cy ad Λ h).set a.toNat (ad a.toNat, e) = fx_ws cy ad Λ (fx_up h a i v) := by
  subst he
  have := fx_map_set Λ.1 a.toNat (fun k : Nat => (ad k, fx_cell cy ad Λ h k)) (fun k : Nat => (ad k, fx_cell cy ad Λ (fx_up h a i v) k)) (fun k hk => by
    show (ad k, fx_cell cy ad Λ (fx_up h a i v) k) = (ad k, fx_cell cy ad Λ h k)
    rw [fx_cell_ne (by omega)])
  rw [Int.toNat_of_nonneg h0] at this
  exact this
theorem fx_cell_obj {cy : Nat → ClassId} {ad : Nat → Nat} {Λ : fx_L} {h : fx_H} {a : Int} {k : Nat} (hk : fx_kd Λ a = k) (h7 : k < 7) : fx_cell cy ad Λ h a = .inr (k, fx_fs ad Λ h a (fx_ft k)) := by
  unfold fx_cell
  rw [hk]
  match k, h7 with
  | 0, _ | 1, _ | 2, _ | 3, _ | 4, _ | 5, _ | 6, _ => rfl
theorem fx_fs_at {ad : Nat → Nat} {Λ : fx_L} {h : fx_H} {a : Int} {ts : List Nat} {i t : Nat} (ht : ts[i]? = some t) : (fx_fs ad Λ h a ts)[i]? = some (fx_fv ad Λ h a i t) := by
  have hl : i < ts.length := (List.getElem?_eq_some_iff.mp ht).1
  unfold fx_fs
  rw [List.getElem?_map, List.getElem?_range hl]
  simp [List.getD, ht]
theorem fx_fs_len {ad : Nat → Nat} {Λ : fx_L} {h : fx_H} {a : Int} {ts : List Nat} : (fx_fs ad Λ h a ts).length = ts.length := by simp [fx_fs]
theorem fx_fs_set {ad : Nat → Nat} {Λ : fx_L} {h : fx_H} {a : Int} {ts : List Nat} {i : Nat} {j v : Int} {x : Value} (hx : fx_fv ad Λ (fx_up h a j v) a i (ts.getD i 0) = x) (ho : ∀ k : Nat, k ≠ i → (k : Int) ≠ j ∧ (1000000 + (k : Int)) ≠ j ∨ (∃ t, ts[k]? = some t ∧ ((t = 0 ∧ (k : Int) ≠ j) ∨ (t = 1 ∧ (1000000 + (k : Int)) ≠ j) ∨ 2 ≤ t)) ∨ ts.length ≤ k) : (fx_fs ad Λ h a ts).set i x = fx_fs ad Λ (fx_up h a j v) a ts := by
  subst hx
  apply List.ext_getElem?
  intro k
  rw [List.getElem?_set]
  by_cases hk : i = k
  · subst hk
    by_cases hn : i < ts.length
    · simp [fx_fs, hn]
    · simp [fx_fs, hn]
  · simp only [hk, if_false]
    unfold fx_fs
    rw [List.getElem?_map, List.getElem?_map]
    by_cases hn : k < ts.length
    · rw [List.getElem?_range hn]
      simp only [Option.map_some, Option.some.injEq]
      have hg : ts[k]? = some (ts.getD k 0) := by simp [List.getD, hn]
      rcases ho k (fun e => hk e.symm) with ⟨h1, h2⟩ | ⟨t, ht, h3⟩ | h4
      · unfold fx_fv
        split <;> simp [fx_up, h1, h2]
      · have e : ts.getD k 0 = t := by rw [ht] at hg; exact (Option.some.inj hg).symm
        rw [e]
        rcases h3 with ⟨rfl, h5⟩ | ⟨rfl, h5⟩ | h5
        · simp [fx_fv, fx_up, h5]
        · simp [fx_fv, fx_up, h5]
        · match t, h5 with
          | t + 2, _ => rfl
      · omega
    · rw [List.getElem?_eq_none (by simpa using hn)]
      rfl

