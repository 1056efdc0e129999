/-! ===== fx: the judgement J: from this place of the code, with these pure locals, stack and heap, the machine comes to Q ===== -/
def fx_WS : List Cond := lw_tbl.filter goodWord
theorem fx_WS_good : GoodIn fx_WS fx_WS := fun w h => ⟨h, good_of_word (List.mem_filter.mp h).2⟩
/-- what isn't the world's: carried along (statics, links of nest mates, texts) -/
def fx_loc (ad ex : Nat → Nat) (ls : List (Option fx_V)) (nL : Nat) (la : Array Slot) : Prop := la.size = nL ∧ lv_wf la ∧ ∀ (i : Nat) (v : fx_V), ls[i]? = some (some v) → la[i]? = some (.val (fx_v ad ex v))
abbrev fx_M : Type := Program × Launch × Env × Room × State × MethodId × Array Value × List Frame × Method × Code × Nat × Nat × (State → Prop)
abbrev fx_G : Type := va_G × (Nat → ClassId) × (Nat → Nat) × (Nat → Nat) × (Nat → Prop)
def fx_J (M : fx_M) (G : fx_G) (Λ : fx_L) (nL pc : Nat) (ls : List (Option fx_V)) (st : List fx_V) (h : fx_H) : Prop := match M, G with
  | (p, l, e, R, s, m, args, below, meth, c, cells, slots, Q), (D, cy, ad, ex, A) =>
    (∀ (i : Nat) (v : fx_V), ls[i]? = some (some v) → fx_ok Λ v) → (∀ v ∈ st, fx_ok Λ v) → fx_rg h → ∀ (H : Heap) (locs : List Loc) (la : Array Slot),
      va_P D vwCl (fx_ws cy ad Λ h) H → va_D A (fx_ws cy ad Λ h) → va_S A s.heap H locs → fx_loc ad ex ls nL la → W p l e R s m args below meth c H locs cells slots Q (F0 m pc la (st.map (fx_v ad ex)))
def fx_F (X : (Nat → Nat) → (Nat → Prop) → State → Prop) (M : fx_M) (G : fx_G) (Λ : fx_L) (cc : ByteArray) (own : String) (nL : Nat) (rm : Room) : Prop := match M, G with
  | (p, l, e, R, s, m, args, below, meth, c, cells, slots, Q), (D, cy, ad, ex, A) =>
    p.tables.exec = Jvm.exec ∧ c.code = cc ∧ c.maxLocals = nL ∧ s.vm.findClass own = some m.cls ∧ (∀ w ∈ fx_WS, w.before args s = true) ∧ va_K D vwCl (fx_tys cy) s ∧ fx_wf Λ ∧ (∀ q, s.heap.size ≤ q → A q) ∧ R = rm ∧ meth.locks = false ∧ (cells ≤ R.cells ∧ slots ≤ R.slots) ∧ X ex A s
theorem fx_ok_i {Λ : fx_L} {x : Int} (h : fx_ok Λ (0, x)) : fx_R x := h
theorem fx_ok_l {Λ : fx_L} {x : Int} (h : fx_ok Λ (1, x)) : fx_Rl x := h
theorem fx_okc {Λ : fx_L} {v : fx_V} {st : List fx_V} (h1 : fx_ok Λ v) (h2 : ∀ w ∈ st, fx_ok Λ w) : ∀ w ∈ v :: st, fx_ok Λ w := fun w h => by
  rcases List.mem_cons.mp h with rfl | h
  · exact h1
  · exact h2 w h
section FXJ
variable {X : (Nat → Nat) → (Nat → Prop) → State → Prop} {M : fx_M} {G : fx_G} {Λ : fx_L} {cc : ByteArray} {own : String} {nL pc : Nat} {rm : Room} {ls : List (Option fx_V)} {st : List fx_V} {h : fx_H}
theorem fx_iconst (F : fx_F X M G Λ cc own nL rm) {n : Int} (hn : fx_R n) (d : decode cc pc = .ok (.iconst n, 1)) (g : fx_J M G Λ nL (pc + 1) ls ((0, n) :: st) h) : fx_J M G Λ nL pc ls st h := by
  obtain ⟨p, l, e, R, s, m, args, below, meth, c, cells, slots, Q⟩ := M
  obtain ⟨D, cy, ad, ex, A⟩ := G
  obtain ⟨hx, hb, hml, hown, hts, hK, hwf, hA, hRm, hlocks, hcr, hX⟩ := F
  intro hls hst hR H locs la hP hD hS hl
  exact lv_iconst hx hb d rfl (g hls (fx_okc hn hst) hR H locs la hP hD hS hl)
theorem fx_bipush (F : fx_F X M G Λ cc own nL rm) {n : Int} (hn : fx_R n) (hv : (Int8.ofInt n).toInt32 = Int32.ofInt n) (d : decode cc pc = .ok (.bipush n, 2)) (g : fx_J M G Λ nL (pc + 2) ls ((0, n) :: st) h) : fx_J M G Λ nL pc ls st h := by
  obtain ⟨p, l, e, R, s, m, args, below, meth, c, cells, slots, Q⟩ := M
  obtain ⟨D, cy, ad, ex, A⟩ := G
  obtain ⟨hx, hb, hml, hown, hts, hK, hwf, hA, hRm, hlocks, hcr, hX⟩ := F
  intro hls hst hR H locs la hP hD hS hl
  exact lv_bipush hx hb d hv (g hls (fx_okc hn hst) hR H locs la hP hD hS hl)
theorem fx_sipush (F : fx_F X M G Λ cc own nL rm) {n : Int} (hn : fx_R n) (hv : (Int16.ofInt n).toInt32 = Int32.ofInt n) (d : decode cc pc = .ok (.sipush n, 3)) (g : fx_J M G Λ nL (pc + 3) ls ((0, n) :: st) h) : fx_J M G Λ nL pc ls st h := by
  obtain ⟨p, l, e, R, s, m, args, below, meth, c, cells, slots, Q⟩ := M
  obtain ⟨D, cy, ad, ex, A⟩ := G
  obtain ⟨hx, hb, hml, hown, hts, hK, hwf, hA, hRm, hlocks, hcr, hX⟩ := F
  intro hls hst hR H locs la hP hD hS hl
  exact lv_sipush hx hb d hv (g hls (fx_okc hn hst) hR H locs la hP hD hS hl)
theorem fx_lconst (F : fx_F X M G Λ cc own nL rm) {n : Fin 2} {z : Int} (hz : z = (n : Nat)) (hn : fx_Rl z) (hv : Int64.ofNat (n : Nat) = Int64.ofInt z) (d : decode cc pc = .ok (.lconst n, 1)) (g : fx_J M G Λ nL (pc + 1) ls ((1, z) :: st) h) : fx_J M G Λ nL pc ls st h := by
  obtain ⟨p, l, e, R, s, m, args, below, meth, c, cells, slots, Q⟩ := M
  obtain ⟨D, cy, ad, ex, A⟩ := G
  obtain ⟨hx, hb, hml, hown, hts, hK, hwf, hA, hRm, hlocks, hcr, hX⟩ := F
  intro hls hst hR H locs la hP hD hS hl
  exact lv_lconst hx hb d hv (g hls (fx_okc hn hst) hR H locs la hP hD hS hl)
theorem fx_ldc (F : fx_F X M G Λ cc own nL rm) {index : Nat} {v : Int32} {z : Int} (hz : Int32.ofInt z = v) (hn : fx_R z) (lk : Cond.constant own index v ∈ fx_WS) (d : decode cc pc = .ok (.ldc index, 2)) (g : fx_J M G Λ nL (pc + 2) ls ((0, z) :: st) h) : fx_J M G Λ nL pc ls st h := by
  obtain ⟨p, l, e, R, s, m, args, below, meth, c, cells, slots, Q⟩ := M
  obtain ⟨D, cy, ad, ex, A⟩ := G
  obtain ⟨hx, hb, hml, hown, hts, hK, hwf, hA, hRm, hlocks, hcr, hX⟩ := F
  intro hls hst hR H locs la hP hD hS hl
  subst hz
  exact lv_ldc hx hb hown (hts _ lk) d (g hls (fx_okc hn hst) hR H locs la hP hD hS hl)
theorem fx_ldc2 (F : fx_F X M G Λ cc own nL rm) {index : Nat} {v : Int64} {z : Int} (hz : Int64.ofInt z = v) (hn : fx_Rl z) (lk : Cond.constantLong own index v ∈ fx_WS) (d : decode cc pc = .ok (.ldc2_w index, 3)) (g : fx_J M G Λ nL (pc + 3) ls ((1, z) :: st) h) : fx_J M G Λ nL pc ls st h := by
  obtain ⟨p, l, e, R, s, m, args, below, meth, c, cells, slots, Q⟩ := M
  obtain ⟨D, cy, ad, ex, A⟩ := G
  obtain ⟨hx, hb, hml, hown, hts, hK, hwf, hA, hRm, hlocks, hcr, hX⟩ := F
  intro hls hst hR H locs la hP hD hS hl
  subst hz
  exact lv_ldc2 hx hb hown (hts _ lk) d (g hls (fx_okc hn hst) hR H locs la hP hD hS hl)
theorem fx_iload_n (F : fx_F X M G Λ cc own nL rm) {k : Fin 4} {x : Int} (i : Nat) (hi : (k : Nat) = i) (hv : ls[i]? = some (some (0, x))) (d : decode cc pc = .ok (.iload_n k, 1)) (g : fx_J M G Λ nL (pc + 1) ls ((0, x) :: st) h) : fx_J M G Λ nL pc ls st h := by
  obtain ⟨p, l, e, R, s, m, args, below, meth, c, cells, slots, Q⟩ := M
  obtain ⟨D, cy, ad, ex, A⟩ := G
  obtain ⟨hx, hb, hml, hown, hts, hK, hwf, hA, hRm, hlocks, hcr, hX⟩ := F
  intro hls hst hR H locs la hP hD hS hl
  exact lv_iload_n hx hb d hi (hl.2.2 i _ hv) (g hls (fx_okc (hls i _ hv) hst) hR H locs la hP hD hS hl)
theorem fx_iload (F : fx_F X M G Λ cc own nL rm) {x : Int} {i : Nat} (hv : ls[i]? = some (some (0, x))) (d : decode cc pc = .ok (.iload i, 2)) (g : fx_J M G Λ nL (pc + 2) ls ((0, x) :: st) h) : fx_J M G Λ nL pc ls st h := by
  obtain ⟨p, l, e, R, s, m, args, below, meth, c, cells, slots, Q⟩ := M
  obtain ⟨D, cy, ad, ex, A⟩ := G
  obtain ⟨hx, hb, hml, hown, hts, hK, hwf, hA, hRm, hlocks, hcr, hX⟩ := F
  intro hls hst hR H locs la hP hD hS hl
  exact lv_iload hx hb d (hl.2.2 i _ hv) (g hls (fx_okc (hls i _ hv) hst) hR H locs la hP hD hS hl)
theorem fx_lload_n (F : fx_F X M G Λ cc own nL rm) {k : Fin 4} {x : Int} (i : Nat) (hi : (k : Nat) = i) (hv : ls[i]? = some (some (1, x))) (d : decode cc pc = .ok (.lload_n k, 1)) (g : fx_J M G Λ nL (pc + 1) ls ((1, x) :: st) h) : fx_J M G Λ nL pc ls st h := by
  obtain ⟨p, l, e, R, s, m, args, below, meth, c, cells, slots, Q⟩ := M
  obtain ⟨D, cy, ad, ex, A⟩ := G
  obtain ⟨hx, hb, hml, hown, hts, hK, hwf, hA, hRm, hlocks, hcr, hX⟩ := F
  intro hls hst hR H locs la hP hD hS hl
  exact lv_lload_n hx hb d hi (hl.2.2 i _ hv) (g hls (fx_okc (hls i _ hv) hst) hR H locs la hP hD hS hl)
theorem fx_lload (F : fx_F X M G Λ cc own nL rm) {x : Int} {i : Nat} (hv : ls[i]? = some (some (1, x))) (d : decode cc pc = .ok (.lload i, 2)) (g : fx_J M G Λ nL (pc + 2) ls ((1, x) :: st) h) : fx_J M G Λ nL pc ls st h := by
  obtain ⟨p, l, e, R, s, m, args, below, meth, c, cells, slots, Q⟩ := M
  obtain ⟨D, cy, ad, ex, A⟩ := G
  obtain ⟨hx, hb, hml, hown, hts, hK, hwf, hA, hRm, hlocks, hcr, hX⟩ := F
  intro hls hst hR H locs la hP hD hS hl
  exact lv_lload hx hb d (hl.2.2 i _ hv) (g hls (fx_okc (hls i _ hv) hst) hR H locs la hP hD hS hl)
theorem fx_v_ref (ad ex : Nat → Nat) (k : Nat) (x : Int) (hk20 : k ≠ 62) : ∃ q : Nat, fx_v ad ex (k + 2, x) = .ref q := by
  unfold fx_v fx_xv
  have h2 : Nat.beq k 62 = false := by
    cases hq : Nat.beq k 62
    · rfl
    · exact absurd (Nat.eq_of_beq_eq_true hq) hk20
  cases hk : Nat.ble 60 k
  · exact ⟨ad x.toNat, by simp only [hk]⟩
  · exact ⟨ex x.toNat, by simp only [hk, h2]⟩
theorem fx_v_cat (ad ex : Nat → Nat) (k : Nat) (x : Int) : (fx_v ad ex (k + 2, x)).category = 1 := by
  unfold fx_v fx_xv
  cases hk : Nat.ble 60 k
  · simp only [hk]; rfl
  · simp only [hk]
    cases h2 : Nat.beq k 62
    · rfl
    · cases ex 5 <;> rfl
theorem fx_aload_n (F : fx_F X M G Λ cc own nL rm) {k : Fin 4} {x : Int} {t : Nat} (i : Nat) (hi : (k : Nat) = i) (hv : ls[i]? = some (some (t + 2, x))) (d : decode cc pc = .ok (.aload_n k, 1)) (g : fx_J M G Λ nL (pc + 1) ls ((t + 2, x) :: st) h) (ht20 : t ≠ 62 := by decide) : fx_J M G Λ nL pc ls st h := by
  obtain ⟨p, l, e, R, s, m, args, below, meth, c, cells, slots, Q⟩ := M
  obtain ⟨D, cy, ad, ex, A⟩ := G
  obtain ⟨hx, hb, hml, hown, hts, hK, hwf, hA, hRm, hlocks, hcr, hX⟩ := F
  intro hls hst hR H locs la hP hD hS hl
  obtain ⟨q, hq⟩ := fx_v_ref ad ex t x ht20
  have h1 := hl.2.2 i _ hv
  have h2 := g hls (fx_okc (hls i _ hv) hst) hR H locs la hP hD hS hl
  rw [List.map_cons, hq] at h2
  rw [hq] at h1
  exact lv_aload_n hx hb d hi h1 h2
theorem fx_aload (F : fx_F X M G Λ cc own nL rm) {x : Int} {t i : Nat} (hv : ls[i]? = some (some (t + 2, x))) (d : decode cc pc = .ok (.aload i, 2)) (g : fx_J M G Λ nL (pc + 2) ls ((t + 2, x) :: st) h) (ht20 : t ≠ 62 := by decide) : fx_J M G Λ nL pc ls st h := by
  obtain ⟨p, l, e, R, s, m, args, below, meth, c, cells, slots, Q⟩ := M
  obtain ⟨D, cy, ad, ex, A⟩ := G
  obtain ⟨hx, hb, hml, hown, hts, hK, hwf, hA, hRm, hlocks, hcr, hX⟩ := F
  intro hls hst hR H locs la hP hD hS hl
  obtain ⟨q, hq⟩ := fx_v_ref ad ex t x ht20
  have h1 := hl.2.2 i _ hv
  have h2 := g hls (fx_okc (hls i _ hv) hst) hR H locs la hP hD hS hl
  rw [List.map_cons, hq] at h2
  rw [hq] at h1
  exact lv_aload hx hb d h1 h2
/-- no long begins just ahead of i -/
def fx_np (ls : List (Option fx_V)) (i : Nat) : Bool := match i with
  | 0 => true
  | j + 1 => match ls[j]? with
    | some (some v) => v.1 != 1
    | _ => true
theorem fx_np_use {ls : List (Option fx_V)} {i : Nat} (hp : fx_np ls i = true) : ∀ j x, j + 1 = i → ls[j]? ≠ some (some (1, x)) := fun j x hj hv => by
  subst hj
  simp [fx_np, hv] at hp
/-- the locals as a list of the kit's form -/
def fx_ll (ad ex : Nat → Nat) (ls : List (Option fx_V)) : List (Nat × Value) := (List.range ls.length).filterMap (fun i => match ls[i]? with
  | some (some v) => some (i, fx_v ad ex v)
  | _ => none)
theorem fx_ll_mem {ad ex : Nat → Nat} {ls : List (Option fx_V)} {q : Nat × Value} : q ∈ fx_ll ad ex ls ↔ ∃ v : fx_V, ls[q.1]? = some (some v) ∧ q.2 = fx_v ad ex v := by
  unfold fx_ll
  rw [List.mem_filterMap]
  constructor
  · rintro ⟨i, -, hi⟩
    split at hi
    · rename_i v hv
      cases hi
      exact ⟨v, hv, rfl⟩
    · cases hi
  · rintro ⟨v, hv, hq⟩
    refine ⟨q.1, List.mem_range.mpr (List.getElem?_eq_some_iff.mp hv).1, ?_⟩
    rw [hv]
    simp only [Option.some.injEq]
    rw [← hq]
theorem fx_loc_has {ad ex : Nat → Nat} {ls : List (Option fx_V)} {nL : Nat} {la : Array Slot} (hl : fx_loc ad ex ls nL la) : lv_has la nL (fx_ll ad ex ls) := ⟨hl.1, hl.2.1, fun q hq => by
  obtain ⟨v, h1, h2⟩ := fx_ll_mem.mp hq
  rw [h2]
  exact hl.2.2 _ _ h1⟩
/-- storing one word at i: no long may begin at i - 1 -/
theorem fx_loc_st1 {ad ex : Nat → Nat} {ls ls' : List (Option fx_V)} {nL i : Nat} {la' : Array Slot} {v : fx_V} (hh : lv_has la' nL ((i, fx_v ad ex v) :: (fx_ll ad ex ls).filter (fun q => !(q.1 == i) && !(q.1 + 1 == i && q.2.category == 2)))) (hs : ls.set i (some v) = ls') (hp : ∀ j x, j + 1 = i → ls[j]? ≠ some (some (1, x))) : fx_loc ad ex ls' nL la' := by
  subst hs
  refine ⟨hh.1, hh.2.1, fun j w hw => ?_⟩
  rw [List.getElem?_set] at hw
  by_cases hj : i = j
  · subst hj
    rw [if_pos rfl] at hw
    split at hw
    · cases hw
      exact hh.2.2 (i, fx_v ad ex v) List.mem_cons_self
    · cases hw
  · rw [if_neg hj] at hw
    refine hh.2.2 (j, fx_v ad ex w) (List.mem_cons_of_mem _ (List.mem_filter.mpr ⟨fx_ll_mem.mpr ⟨w, hw, rfl⟩, ?_⟩))
    have h1 : (j == i) = false := by simpa using fun e => hj e.symm
    by_cases hj1 : j + 1 = i
    · have h2 : (fx_v ad ex w).category ≠ 2 := by
        intro hc
        obtain ⟨t, x⟩ := w
        match t, hc, hw with
        | 0, hc, _ => exact absurd hc (by simp [fx_v, Value.category])
        | 1, _, hw => exact hp j x hj1 hw
        | k + 2, hc, _ =>
          rw [fx_v_cat] at hc
          exact absurd hc (by decide)
      simp [h1, h2]
    · simp [h1, hj1]
theorem fx_loc_st2 {ad ex : Nat → Nat} {ls ls' : List (Option fx_V)} {nL i : Nat} {la' : Array Slot} {v : fx_V} (hh : lv_has la' nL ((i, fx_v ad ex v) :: (fx_ll ad ex ls).filter (fun q => !(q.1 == i) && (!(q.1 == i + 1) && !(q.1 + 1 == i && q.2.category == 2))))) (hs : (ls.set i (some v)).set (i + 1) none = ls') (hp : ∀ j x, j + 1 = i → ls[j]? ≠ some (some (1, x))) : fx_loc ad ex ls' nL la' := by
  subst hs
  refine ⟨hh.1, hh.2.1, fun j w hw => ?_⟩
  rw [List.getElem?_set] at hw
  by_cases hj2 : i + 1 = j
  · rw [if_pos hj2] at hw
    split at hw <;> cases hw
  · rw [if_neg hj2, List.getElem?_set] at hw
    by_cases hj : i = j
    · subst hj
      rw [if_pos rfl] at hw
      split at hw
      · cases hw
        exact hh.2.2 (i, fx_v ad ex v) List.mem_cons_self
      · cases hw
    · rw [if_neg hj] at hw
      refine hh.2.2 (j, fx_v ad ex w) (List.mem_cons_of_mem _ (List.mem_filter.mpr ⟨fx_ll_mem.mpr ⟨w, hw, rfl⟩, ?_⟩))
      have h1 : (j == i) = false := by simpa using fun e => hj e.symm
      have h3 : (j == i + 1) = false := by simpa using fun e => hj2 e.symm
      by_cases hj1 : j + 1 = i
      · have h2 : (fx_v ad ex w).category ≠ 2 := by
          intro hc
          obtain ⟨t, x⟩ := w
          match t, hc, hw with
          | 0, hc, _ => exact absurd hc (by simp [fx_v, Value.category])
          | 1, _, hw => exact hp j x hj1 hw
          | k + 2, hc, _ =>
            rw [fx_v_cat] at hc
            exact absurd hc (by decide)
        simp [h1, h2, h3]
      · simp [h1, hj1, h3]
theorem fx_ok_set {Λ : fx_L} {ls ls' : List (Option fx_V)} {i : Nat} {v : fx_V} (hs : ls.set i (some v) = ls') (hls : ∀ (i : Nat) (v : fx_V), ls[i]? = some (some v) → fx_ok Λ v) (hv : fx_ok Λ v) : ∀ (i : Nat) (v : fx_V), ls'[i]? = some (some v) → fx_ok Λ v := by
  subst hs
  intro j w hw
  rw [List.getElem?_set] at hw
  by_cases hj : i = j
  · subst hj
    rw [if_pos rfl] at hw
    split at hw
    · cases hw
      exact hv
    · cases hw
  · rw [if_neg hj] at hw
    exact hls j w hw
theorem fx_ok_set2 {Λ : fx_L} {ls ls' : List (Option fx_V)} {i : Nat} {v : fx_V} (hs : (ls.set i (some v)).set (i + 1) none = ls') (hls : ∀ (i : Nat) (v : fx_V), ls[i]? = some (some v) → fx_ok Λ v) (hv : fx_ok Λ v) : ∀ (i : Nat) (v : fx_V), ls'[i]? = some (some v) → fx_ok Λ v := by
  subst hs
  intro j w hw
  rw [List.getElem?_set] at hw
  by_cases hj : i + 1 = j
  · rw [if_pos hj] at hw
    split at hw <;> cases hw
  · rw [if_neg hj] at hw
    exact fx_ok_set rfl hls hv j w hw
theorem fx_istore_n (F : fx_F X M G Λ cc own nL rm) {k : Fin 4} {x : Int} (i : Nat) {ls' : List (Option fx_V)} (hi : (k : Nat) = i) (hn : i < nL) (hs : ls.set i (some (0, x)) = ls') (hp : fx_np ls i = true) (d : decode cc pc = .ok (.istore_n k, 1)) (g : fx_J M G Λ nL (pc + 1) ls' st h) : fx_J M G Λ nL pc ls ((0, x) :: st) h := by
  obtain ⟨p, l, e, R, s, m, args, below, meth, c, cells, slots, Q⟩ := M
  obtain ⟨D, cy, ad, ex, A⟩ := G
  obtain ⟨hx, hb, hml, hown, hts, hK, hwf, hA, hRm, hlocks, hcr, hX⟩ := F
  intro hls hst hR H locs la hP hD hS hl
  have hp' := fx_np_use hp
  refine lv_istore_n hx hb d hi (fx_loc_has hl) hn rfl (fun la' hh => ?_)
  exact g (fx_ok_set hs hls (hst _ List.mem_cons_self)) (fun v hv => hst v (List.mem_cons_of_mem _ hv)) hR H locs la' hP hD hS (fx_loc_st1 (v := (0, x)) hh hs hp')
theorem fx_istore (F : fx_F X M G Λ cc own nL rm) {x : Int} {i : Nat} {ls' : List (Option fx_V)} (hn : i < nL) (hs : ls.set i (some (0, x)) = ls') (hp : fx_np ls i = true) (d : decode cc pc = .ok (.istore i, 2)) (g : fx_J M G Λ nL (pc + 2) ls' st h) : fx_J M G Λ nL pc ls ((0, x) :: st) h := by
  obtain ⟨p, l, e, R, s, m, args, below, meth, c, cells, slots, Q⟩ := M
  obtain ⟨D, cy, ad, ex, A⟩ := G
  obtain ⟨hx, hb, hml, hown, hts, hK, hwf, hA, hRm, hlocks, hcr, hX⟩ := F
  intro hls hst hR H locs la hP hD hS hl
  have hp' := fx_np_use hp
  refine lv_istore hx hb d (fx_loc_has hl) hn rfl (fun la' hh => ?_)
  exact g (fx_ok_set hs hls (hst _ List.mem_cons_self)) (fun v hv => hst v (List.mem_cons_of_mem _ hv)) hR H locs la' hP hD hS (fx_loc_st1 (v := (0, x)) hh hs hp')
theorem fx_lstore_n (F : fx_F X M G Λ cc own nL rm) {k : Fin 4} {x : Int} (i : Nat) {ls' : List (Option fx_V)} (hi : (k : Nat) = i) (hn : i + 1 < nL) (hs : (ls.set i (some (1, x))).set (i + 1) none = ls') (hp : fx_np ls i = true) (d : decode cc pc = .ok (.lstore_n k, 1)) (g : fx_J M G Λ nL (pc + 1) ls' st h) : fx_J M G Λ nL pc ls ((1, x) :: st) h := by
  obtain ⟨p, l, e, R, s, m, args, below, meth, c, cells, slots, Q⟩ := M
  obtain ⟨D, cy, ad, ex, A⟩ := G
  obtain ⟨hx, hb, hml, hown, hts, hK, hwf, hA, hRm, hlocks, hcr, hX⟩ := F
  intro hls hst hR H locs la hP hD hS hl
  have hp' := fx_np_use hp
  refine lv_lstore_n hx hb d hi (fx_loc_has hl) hn rfl (fun la' hh => ?_)
  exact g (fx_ok_set2 hs hls (hst _ List.mem_cons_self)) (fun v hv => hst v (List.mem_cons_of_mem _ hv)) hR H locs la' hP hD hS (fx_loc_st2 (v := (1, x)) hh hs hp')
theorem fx_lstore (F : fx_F X M G Λ cc own nL rm) {x : Int} {i : Nat} {ls' : List (Option fx_V)} (hn : i + 1 < nL) (hs : (ls.set i (some (1, x))).set (i + 1) none = ls') (hp : fx_np ls i = true) (d : decode cc pc = .ok (.lstore i, 2)) (g : fx_J M G Λ nL (pc + 2) ls' st h) : fx_J M G Λ nL pc ls ((1, x) :: st) h := by
  obtain ⟨p, l, e, R, s, m, args, below, meth, c, cells, slots, Q⟩ := M
  obtain ⟨D, cy, ad, ex, A⟩ := G
  obtain ⟨hx, hb, hml, hown, hts, hK, hwf, hA, hRm, hlocks, hcr, hX⟩ := F
  intro hls hst hR H locs la hP hD hS hl
  have hp' := fx_np_use hp
  refine lv_lstore hx hb d (fx_loc_has hl) hn rfl (fun la' hh => ?_)
  exact g (fx_ok_set2 hs hls (hst _ List.mem_cons_self)) (fun v hv => hst v (List.mem_cons_of_mem _ hv)) hR H locs la' hP hD hS (fx_loc_st2 (v := (1, x)) hh hs hp')
theorem fx_astore_n (F : fx_F X M G Λ cc own nL rm) {k : Fin 4} {x : Int} {t : Nat} (i : Nat) {ls' : List (Option fx_V)} (hi : (k : Nat) = i) (hn : i < nL) (hs : ls.set i (some (t + 2, x)) = ls') (hp : fx_np ls i = true) (d : decode cc pc = .ok (.astore_n k, 1)) (g : fx_J M G Λ nL (pc + 1) ls' st h) (ht20 : t ≠ 62 := by decide) : fx_J M G Λ nL pc ls ((t + 2, x) :: st) h := by
  obtain ⟨p, l, e, R, s, m, args, below, meth, c, cells, slots, Q⟩ := M
  obtain ⟨D, cy, ad, ex, A⟩ := G
  obtain ⟨hx, hb, hml, hown, hts, hK, hwf, hA, hRm, hlocks, hcr, hX⟩ := F
  intro hls hst hR H locs la hP hD hS hl
  have hp' := fx_np_use hp
  obtain ⟨q, hq⟩ := fx_v_ref ad ex t x ht20
  rw [List.map_cons, hq]
  refine lv_astore_n hx hb d hi (fx_loc_has hl) hn rfl (fun la' hh => ?_)
  rw [← hq] at hh
  exact g (fx_ok_set hs hls (hst _ List.mem_cons_self)) (fun v hv => hst v (List.mem_cons_of_mem _ hv)) hR H locs la' hP hD hS (fx_loc_st1 hh hs hp')
theorem fx_astore (F : fx_F X M G Λ cc own nL rm) {x : Int} {t i : Nat} {ls' : List (Option fx_V)} (hn : i < nL) (hs : ls.set i (some (t + 2, x)) = ls') (hp : fx_np ls i = true) (d : decode cc pc = .ok (.astore i, 2)) (g : fx_J M G Λ nL (pc + 2) ls' st h) (ht20 : t ≠ 62 := by decide) : fx_J M G Λ nL pc ls ((t + 2, x) :: st) h := by
  obtain ⟨p, l, e, R, s, m, args, below, meth, c, cells, slots, Q⟩ := M
  obtain ⟨D, cy, ad, ex, A⟩ := G
  obtain ⟨hx, hb, hml, hown, hts, hK, hwf, hA, hRm, hlocks, hcr, hX⟩ := F
  intro hls hst hR H locs la hP hD hS hl
  have hp' := fx_np_use hp
  obtain ⟨q, hq⟩ := fx_v_ref ad ex t x ht20
  rw [List.map_cons, hq]
  refine lv_astore hx hb d (fx_loc_has hl) hn rfl (fun la' hh => ?_)
  rw [← hq] at hh
  exact g (fx_ok_set hs hls (hst _ List.mem_cons_self)) (fun v hv => hst v (List.mem_cons_of_mem _ hv)) hR H locs la' hP hD hS (fx_loc_st1 hh hs hp')
theorem fx_iinc (F : fx_F X M G Λ cc own nL rm) {x n : Int} {i : Nat} {ls' : List (Option fx_V)} (hn : i < nL) (hv : ls[i]? = some (some (0, x))) (hs : ls.set i (some (0, fx_w (x + n))) = ls') (hp : fx_np ls i = true) (d : decode cc pc = .ok (.iinc i n, 3)) (g : fx_J M G Λ nL (pc + 3) ls' st h) : fx_J M G Λ nL pc ls st h := by
  obtain ⟨p, l, e, R, s, m, args, below, meth, c, cells, slots, Q⟩ := M
  obtain ⟨D, cy, ad, ex, A⟩ := G
  obtain ⟨hx, hb, hml, hown, hts, hK, hwf, hA, hRm, hlocks, hcr, hX⟩ := F
  intro hls hst hR H locs la hP hD hS hl
  have hp' := fx_np_use hp
  obtain ⟨k, hk⟩ := List.getElem?_of_mem (fx_ll_mem (ad := ad) (ex := ex) (q := (i, .int (Int32.ofInt x))) |>.mpr ⟨(0, x), hv, rfl⟩)
  refine lv_iinc hx hb d (fx_loc_has hl) hk (fx_add x n) hn rfl (fun la' hh => ?_)
  exact g (fx_ok_set hs hls (fx_w_R _)) hst hR H locs la' hP hD hS (fx_loc_st1 (v := (0, fx_w (x + n))) hh hs hp')
theorem fx_iadd (F : fx_F X M G Λ cc own nL rm) {x y : Int} (d : decode cc pc = .ok (.iadd, 1)) (g : fx_J M G Λ nL (pc + 1) ls ((0, fx_w (x + y)) :: st) h) : fx_J M G Λ nL pc ls ((0, y) :: (0, x) :: st) h := by
  obtain ⟨p, l, e, R, s, m, args, below, meth, c, cells, slots, Q⟩ := M
  obtain ⟨D, cy, ad, ex, A⟩ := G
  obtain ⟨hx, hb, hml, hown, hts, hK, hwf, hA, hRm, hlocks, hcr, hX⟩ := F
  intro hls hst hR H locs la hP hD hS hl
  have hy' := hst _ List.mem_cons_self
  have hx' := hst _ (List.mem_cons_of_mem _ List.mem_cons_self)
  have hr' : ∀ v ∈ st, fx_ok Λ v := fun v hv => hst v (List.mem_cons_of_mem _ (List.mem_cons_of_mem _ hv))
  refine lv_iadd hx hb d ?_
  rw [fx_add x y]
  exact g hls (fx_okc (fx_w_R _) hr') hR H locs la hP hD hS hl
theorem fx_isub (F : fx_F X M G Λ cc own nL rm) {x y : Int} (d : decode cc pc = .ok (.isub, 1)) (g : fx_J M G Λ nL (pc + 1) ls ((0, fx_w (x - y)) :: st) h) : fx_J M G Λ nL pc ls ((0, y) :: (0, x) :: st) h := by
  obtain ⟨p, l, e, R, s, m, args, below, meth, c, cells, slots, Q⟩ := M
  obtain ⟨D, cy, ad, ex, A⟩ := G
  obtain ⟨hx, hb, hml, hown, hts, hK, hwf, hA, hRm, hlocks, hcr, hX⟩ := F
  intro hls hst hR H locs la hP hD hS hl
  have hy' := hst _ List.mem_cons_self
  have hx' := hst _ (List.mem_cons_of_mem _ List.mem_cons_self)
  have hr' : ∀ v ∈ st, fx_ok Λ v := fun v hv => hst v (List.mem_cons_of_mem _ (List.mem_cons_of_mem _ hv))
  refine lv_isub hx hb d ?_
  rw [fx_sub x y]
  exact g hls (fx_okc (fx_w_R _) hr') hR H locs la hP hD hS hl
theorem fx_imul (F : fx_F X M G Λ cc own nL rm) {x y : Int} (d : decode cc pc = .ok (.imul, 1)) (g : fx_J M G Λ nL (pc + 1) ls ((0, fx_w (x * y)) :: st) h) : fx_J M G Λ nL pc ls ((0, y) :: (0, x) :: st) h := by
  obtain ⟨p, l, e, R, s, m, args, below, meth, c, cells, slots, Q⟩ := M
  obtain ⟨D, cy, ad, ex, A⟩ := G
  obtain ⟨hx, hb, hml, hown, hts, hK, hwf, hA, hRm, hlocks, hcr, hX⟩ := F
  intro hls hst hR H locs la hP hD hS hl
  have hy' := hst _ List.mem_cons_self
  have hx' := hst _ (List.mem_cons_of_mem _ List.mem_cons_self)
  have hr' : ∀ v ∈ st, fx_ok Λ v := fun v hv => hst v (List.mem_cons_of_mem _ (List.mem_cons_of_mem _ hv))
  refine lv_imul hx hb d ?_
  rw [fx_mul x y]
  exact g hls (fx_okc (fx_w_R _) hr') hR H locs la hP hD hS hl
theorem fx_ladd (F : fx_F X M G Λ cc own nL rm) {x y : Int} (d : decode cc pc = .ok (.ladd, 1)) (g : fx_J M G Λ nL (pc + 1) ls ((1, fx_wl (x + y)) :: st) h) : fx_J M G Λ nL pc ls ((1, y) :: (1, x) :: st) h := by
  obtain ⟨p, l, e, R, s, m, args, below, meth, c, cells, slots, Q⟩ := M
  obtain ⟨D, cy, ad, ex, A⟩ := G
  obtain ⟨hx, hb, hml, hown, hts, hK, hwf, hA, hRm, hlocks, hcr, hX⟩ := F
  intro hls hst hR H locs la hP hD hS hl
  have hy' := hst _ List.mem_cons_self
  have hx' := hst _ (List.mem_cons_of_mem _ List.mem_cons_self)
  have hr' : ∀ v ∈ st, fx_ok Λ v := fun v hv => hst v (List.mem_cons_of_mem _ (List.mem_cons_of_mem _ hv))
  refine lv_ladd hx hb d ?_
  rw [fx_addl x y]
  exact g hls (fx_okc (fx_wl_R _) hr') hR H locs la hP hD hS hl
theorem fx_lsub (F : fx_F X M G Λ cc own nL rm) {x y : Int} (d : decode cc pc = .ok (.lsub, 1)) (g : fx_J M G Λ nL (pc + 1) ls ((1, fx_wl (x - y)) :: st) h) : fx_J M G Λ nL pc ls ((1, y) :: (1, x) :: st) h := by
  obtain ⟨p, l, e, R, s, m, args, below, meth, c, cells, slots, Q⟩ := M
  obtain ⟨D, cy, ad, ex, A⟩ := G
  obtain ⟨hx, hb, hml, hown, hts, hK, hwf, hA, hRm, hlocks, hcr, hX⟩ := F
  intro hls hst hR H locs la hP hD hS hl
  have hy' := hst _ List.mem_cons_self
  have hx' := hst _ (List.mem_cons_of_mem _ List.mem_cons_self)
  have hr' : ∀ v ∈ st, fx_ok Λ v := fun v hv => hst v (List.mem_cons_of_mem _ (List.mem_cons_of_mem _ hv))
  refine lv_lsub hx hb d ?_
  rw [fx_subl x y]
  exact g hls (fx_okc (fx_wl_R _) hr') hR H locs la hP hD hS hl
theorem fx_lmul (F : fx_F X M G Λ cc own nL rm) {x y : Int} (d : decode cc pc = .ok (.lmul, 1)) (g : fx_J M G Λ nL (pc + 1) ls ((1, fx_wl (x * y)) :: st) h) : fx_J M G Λ nL pc ls ((1, y) :: (1, x) :: st) h := by
  obtain ⟨p, l, e, R, s, m, args, below, meth, c, cells, slots, Q⟩ := M
  obtain ⟨D, cy, ad, ex, A⟩ := G
  obtain ⟨hx, hb, hml, hown, hts, hK, hwf, hA, hRm, hlocks, hcr, hX⟩ := F
  intro hls hst hR H locs la hP hD hS hl
  have hy' := hst _ List.mem_cons_self
  have hx' := hst _ (List.mem_cons_of_mem _ List.mem_cons_self)
  have hr' : ∀ v ∈ st, fx_ok Λ v := fun v hv => hst v (List.mem_cons_of_mem _ (List.mem_cons_of_mem _ hv))
  refine lv_lmul hx hb d ?_
  rw [fx_mull x y]
  exact g hls (fx_okc (fx_wl_R _) hr') hR H locs la hP hD hS hl
theorem fx_idiv (F : fx_F X M G Λ cc own nL rm) {x y : Int} (h0 : ¬ y = 0) (d : decode cc pc = .ok (.idiv, 1)) (g : fx_J M G Λ nL (pc + 1) ls ((0, fx_w (x.tdiv y)) :: st) h) : fx_J M G Λ nL pc ls ((0, y) :: (0, x) :: st) h := by
  obtain ⟨p, l, e, R, s, m, args, below, meth, c, cells, slots, Q⟩ := M
  obtain ⟨D, cy, ad, ex, A⟩ := G
  obtain ⟨hx, hb, hml, hown, hts, hK, hwf, hA, hRm, hlocks, hcr, hX⟩ := F
  intro hls hst hR H locs la hP hD hS hl
  have hy' := hst _ List.mem_cons_self
  have hx' := hst _ (List.mem_cons_of_mem _ List.mem_cons_self)
  have hr' : ∀ v ∈ st, fx_ok Λ v := fun v hv => hst v (List.mem_cons_of_mem _ (List.mem_cons_of_mem _ hv))
  refine lv_idiv hx hb d (fun q => h0 ((fx_eq (fx_ok_i hy') (by unfold fx_R; omega)).mp q)) ?_
  rw [fx_div (fx_ok_i hx') (fx_ok_i hy')]
  exact g hls (fx_okc (fx_w_R _) hr') hR H locs la hP hD hS hl
theorem fx_irem (F : fx_F X M G Λ cc own nL rm) {x y : Int} (h0 : ¬ y = 0) (d : decode cc pc = .ok (.irem, 1)) (g : fx_J M G Λ nL (pc + 1) ls ((0, fx_w (x.tmod y)) :: st) h) : fx_J M G Λ nL pc ls ((0, y) :: (0, x) :: st) h := by
  obtain ⟨p, l, e, R, s, m, args, below, meth, c, cells, slots, Q⟩ := M
  obtain ⟨D, cy, ad, ex, A⟩ := G
  obtain ⟨hx, hb, hml, hown, hts, hK, hwf, hA, hRm, hlocks, hcr, hX⟩ := F
  intro hls hst hR H locs la hP hD hS hl
  have hy' := hst _ List.mem_cons_self
  have hx' := hst _ (List.mem_cons_of_mem _ List.mem_cons_self)
  have hr' : ∀ v ∈ st, fx_ok Λ v := fun v hv => hst v (List.mem_cons_of_mem _ (List.mem_cons_of_mem _ hv))
  refine lv_irem hx hb d (fun q => h0 ((fx_eq (fx_ok_i hy') (by unfold fx_R; omega)).mp q)) ?_
  rw [fx_rem (fx_ok_i hx') (fx_ok_i hy')]
  exact g hls (fx_okc (fx_w_R _) hr') hR H locs la hP hD hS hl
theorem fx_ldiv (F : fx_F X M G Λ cc own nL rm) {x y : Int} (h0 : ¬ y = 0) (d : decode cc pc = .ok (.ldiv, 1)) (g : fx_J M G Λ nL (pc + 1) ls ((1, fx_wl (x.tdiv y)) :: st) h) : fx_J M G Λ nL pc ls ((1, y) :: (1, x) :: st) h := by
  obtain ⟨p, l, e, R, s, m, args, below, meth, c, cells, slots, Q⟩ := M
  obtain ⟨D, cy, ad, ex, A⟩ := G
  obtain ⟨hx, hb, hml, hown, hts, hK, hwf, hA, hRm, hlocks, hcr, hX⟩ := F
  intro hls hst hR H locs la hP hD hS hl
  have hy' := hst _ List.mem_cons_self
  have hx' := hst _ (List.mem_cons_of_mem _ List.mem_cons_self)
  have hr' : ∀ v ∈ st, fx_ok Λ v := fun v hv => hst v (List.mem_cons_of_mem _ (List.mem_cons_of_mem _ hv))
  refine lv_ldiv hx hb d (fun q => h0 (by have := congrArg Int64.toInt q; rw [fx_tRl (fx_ok_l hy')] at this; exact this)) ?_
  rw [fx_divl (fx_ok_l hx') (fx_ok_l hy')]
  exact g hls (fx_okc (fx_wl_R _) hr') hR H locs la hP hD hS hl
theorem fx_lrem (F : fx_F X M G Λ cc own nL rm) {x y : Int} (h0 : ¬ y = 0) (d : decode cc pc = .ok (.lrem, 1)) (g : fx_J M G Λ nL (pc + 1) ls ((1, fx_wl (x.tmod y)) :: st) h) : fx_J M G Λ nL pc ls ((1, y) :: (1, x) :: st) h := by
  obtain ⟨p, l, e, R, s, m, args, below, meth, c, cells, slots, Q⟩ := M
  obtain ⟨D, cy, ad, ex, A⟩ := G
  obtain ⟨hx, hb, hml, hown, hts, hK, hwf, hA, hRm, hlocks, hcr, hX⟩ := F
  intro hls hst hR H locs la hP hD hS hl
  have hy' := hst _ List.mem_cons_self
  have hx' := hst _ (List.mem_cons_of_mem _ List.mem_cons_self)
  have hr' : ∀ v ∈ st, fx_ok Λ v := fun v hv => hst v (List.mem_cons_of_mem _ (List.mem_cons_of_mem _ hv))
  refine lv_lrem hx hb d (fun q => h0 (by have := congrArg Int64.toInt q; rw [fx_tRl (fx_ok_l hy')] at this; exact this)) ?_
  rw [fx_reml (fx_ok_l hx') (fx_ok_l hy')]
  exact g hls (fx_okc (fx_wl_R _) hr') hR H locs la hP hD hS hl
theorem fx_rland (F : fx_F X M G Λ cc own nL rm) {x y : Int} (d : decode cc pc = .ok (.land, 1)) (g : fx_J M G Λ nL (pc + 1) ls ((1, fx_land x y) :: st) h) : fx_J M G Λ nL pc ls ((1, y) :: (1, x) :: st) h := by
  obtain ⟨p, l, e, R, s, m, args, below, meth, c, cells, slots, Q⟩ := M
  obtain ⟨D, cy, ad, ex, A⟩ := G
  obtain ⟨hx, hb, hml, hown, hts, hK, hwf, hA, hRm, hlocks, hcr, hX⟩ := F
  intro hls hst hR H locs la hP hD hS hl
  have hy' := hst _ List.mem_cons_self
  have hx' := hst _ (List.mem_cons_of_mem _ List.mem_cons_self)
  have hr' : ∀ v ∈ st, fx_ok Λ v := fun v hv => hst v (List.mem_cons_of_mem _ (List.mem_cons_of_mem _ hv))
  refine lv_land hx hb d ?_
  have h2 := g hls (fx_okc (fx_toInt_Rl _) hr') hR H locs la hP hD hS hl
  have e : fx_v ad ex (1, fx_land x y) = .long (Int64.ofInt x &&& Int64.ofInt y) := by
    show Value.long (Int64.ofInt (fx_land x y)) = _
    unfold fx_land
    rw [fx_of_toIntl]
  rw [List.map_cons, e] at h2
  exact h2
theorem fx_rlor (F : fx_F X M G Λ cc own nL rm) {x y : Int} (d : decode cc pc = .ok (.lor, 1)) (g : fx_J M G Λ nL (pc + 1) ls ((1, fx_lor x y) :: st) h) : fx_J M G Λ nL pc ls ((1, y) :: (1, x) :: st) h := by
  obtain ⟨p, l, e, R, s, m, args, below, meth, c, cells, slots, Q⟩ := M
  obtain ⟨D, cy, ad, ex, A⟩ := G
  obtain ⟨hx, hb, hml, hown, hts, hK, hwf, hA, hRm, hlocks, hcr, hX⟩ := F
  intro hls hst hR H locs la hP hD hS hl
  have hy' := hst _ List.mem_cons_self
  have hx' := hst _ (List.mem_cons_of_mem _ List.mem_cons_self)
  have hr' : ∀ v ∈ st, fx_ok Λ v := fun v hv => hst v (List.mem_cons_of_mem _ (List.mem_cons_of_mem _ hv))
  refine lv_lor hx hb d ?_
  have h2 := g hls (fx_okc (fx_toInt_Rl _) hr') hR H locs la hP hD hS hl
  have e : fx_v ad ex (1, fx_lor x y) = .long (Int64.ofInt x ||| Int64.ofInt y) := by
    show Value.long (Int64.ofInt (fx_lor x y)) = _
    unfold fx_lor
    rw [fx_of_toIntl]
  rw [List.map_cons, e] at h2
  exact h2
theorem fx_riand (F : fx_F X M G Λ cc own nL rm) {x y : Int} (d : decode cc pc = .ok (.iand, 1)) (g : fx_J M G Λ nL (pc + 1) ls ((0, fx_iand x y) :: st) h) : fx_J M G Λ nL pc ls ((0, y) :: (0, x) :: st) h := by
  obtain ⟨p, l, e, R, s, m, args, below, meth, c, cells, slots, Q⟩ := M
  obtain ⟨D, cy, ad, ex, A⟩ := G
  obtain ⟨hx, hb, hml, hown, hts, hK, hwf, hA, hRm, hlocks, hcr, hX⟩ := F
  intro hls hst hR H locs la hP hD hS hl
  have hy' := hst _ List.mem_cons_self
  have hx' := hst _ (List.mem_cons_of_mem _ List.mem_cons_self)
  have hr' : ∀ v ∈ st, fx_ok Λ v := fun v hv => hst v (List.mem_cons_of_mem _ (List.mem_cons_of_mem _ hv))
  refine lv_iand hx hb d ?_
  have h2 := g hls (fx_okc (fx_toInt_R _) hr') hR H locs la hP hD hS hl
  have e : fx_v ad ex (0, fx_iand x y) = .int (Int32.ofInt x &&& Int32.ofInt y) := by
    show Value.int (Int32.ofInt (fx_iand x y)) = _
    unfold fx_iand
    rw [fx_of_toInt]
  rw [List.map_cons, e] at h2
  exact h2
theorem fx_rlshl (F : fx_F X M G Λ cc own nL rm) {x y : Int} (d : decode cc pc = .ok (.lshl, 1)) (g : fx_J M G Λ nL (pc + 1) ls ((1, fx_lshl x y) :: st) h) : fx_J M G Λ nL pc ls ((0, y) :: (1, x) :: st) h := by
  obtain ⟨p, l, e, R, s, m, args, below, meth, c, cells, slots, Q⟩ := M
  obtain ⟨D, cy, ad, ex, A⟩ := G
  obtain ⟨hx, hb, hml, hown, hts, hK, hwf, hA, hRm, hlocks, hcr, hX⟩ := F
  intro hls hst hR H locs la hP hD hS hl
  have hy' := hst _ List.mem_cons_self
  have hx' := hst _ (List.mem_cons_of_mem _ List.mem_cons_self)
  have hr' : ∀ v ∈ st, fx_ok Λ v := fun v hv => hst v (List.mem_cons_of_mem _ (List.mem_cons_of_mem _ hv))
  refine lv_lshl hx hb (v := Int64.ofInt x <<< ((Int32.ofInt y).toInt64 &&& 63)) d rfl ?_
  have h2 := g hls (fx_okc (fx_toInt_Rl _) hr') hR H locs la hP hD hS hl
  have e : fx_v ad ex (1, fx_lshl x y) = .long (Int64.ofInt x <<< ((Int32.ofInt y).toInt64 &&& 63)) := by
    show Value.long (Int64.ofInt (fx_lshl x y)) = _
    unfold fx_lshl
    rw [fx_of_toIntl]
  rw [List.map_cons, e] at h2
  exact h2
theorem fx_rlushr (F : fx_F X M G Λ cc own nL rm) {x y : Int} (d : decode cc pc = .ok (.lushr, 1)) (g : fx_J M G Λ nL (pc + 1) ls ((1, fx_lushr x y) :: st) h) : fx_J M G Λ nL pc ls ((0, y) :: (1, x) :: st) h := by
  obtain ⟨p, l, e, R, s, m, args, below, meth, c, cells, slots, Q⟩ := M
  obtain ⟨D, cy, ad, ex, A⟩ := G
  obtain ⟨hx, hb, hml, hown, hts, hK, hwf, hA, hRm, hlocks, hcr, hX⟩ := F
  intro hls hst hR H locs la hP hD hS hl
  have hy' := hst _ List.mem_cons_self
  have hx' := hst _ (List.mem_cons_of_mem _ List.mem_cons_self)
  have hr' : ∀ v ∈ st, fx_ok Λ v := fun v hv => hst v (List.mem_cons_of_mem _ (List.mem_cons_of_mem _ hv))
  refine lv_lushr hx hb (v := ((Int64.ofInt x).toUInt64 >>> ((Int32.ofInt y).toInt64.toUInt64 &&& Int64.toUInt64 63)).toInt64) d rfl ?_
  have h2 := g hls (fx_okc (fx_toInt_Rl _) hr') hR H locs la hP hD hS hl
  have e : fx_v ad ex (1, fx_lushr x y) = .long (((Int64.ofInt x).toUInt64 >>> ((Int32.ofInt y).toInt64.toUInt64 &&& Int64.toUInt64 63)).toInt64) := by
    show Value.long (Int64.ofInt (fx_lushr x y)) = _
    unfold fx_lushr
    rw [fx_of_toIntl]
  rw [List.map_cons, e] at h2
  exact h2
theorem fx_ri2l (F : fx_F X M G Λ cc own nL rm) {x : Int} (d : decode cc pc = .ok (.i2l, 1)) (g : fx_J M G Λ nL (pc + 1) ls ((1, x) :: st) h) : fx_J M G Λ nL pc ls ((0, x) :: st) h := by
  obtain ⟨p, l, e, R, s, m, args, below, meth, c, cells, slots, Q⟩ := M
  obtain ⟨D, cy, ad, ex, A⟩ := G
  obtain ⟨hx, hb, hml, hown, hts, hK, hwf, hA, hRm, hlocks, hcr, hX⟩ := F
  intro hls hst hR H locs la hP hD hS hl
  have hx' := hst _ List.mem_cons_self
  have hr' : ∀ v ∈ st, fx_ok Λ v := fun v hv => hst v (List.mem_cons_of_mem _ hv)
  have hxr := fx_ok_i hx'
  exact lv_i2l hx hb d (fx_i2l hxr) (g hls (fx_okc (by show fx_Rl x; unfold fx_R at hxr; unfold fx_Rl; omega) hr') hR H locs la hP hD hS hl)
theorem fx_rl2i (F : fx_F X M G Λ cc own nL rm) {x : Int} (d : decode cc pc = .ok (.l2i, 1)) (g : fx_J M G Λ nL (pc + 1) ls ((0, fx_w x) :: st) h) : fx_J M G Λ nL pc ls ((1, x) :: st) h := by
  obtain ⟨p, l, e, R, s, m, args, below, meth, c, cells, slots, Q⟩ := M
  obtain ⟨D, cy, ad, ex, A⟩ := G
  obtain ⟨hx, hb, hml, hown, hts, hK, hwf, hA, hRm, hlocks, hcr, hX⟩ := F
  intro hls hst hR H locs la hP hD hS hl
  have hx' := hst _ List.mem_cons_self
  have hr' : ∀ v ∈ st, fx_ok Λ v := fun v hv => hst v (List.mem_cons_of_mem _ hv)
  exact lv_l2i hx hb d (fx_l2i (fx_ok_l hx')) (g hls (fx_okc (fx_w_R _) hr') hR H locs la hP hD hS hl)
theorem fx_ri2b (F : fx_F X M G Λ cc own nL rm) {x : Int} (d : decode cc pc = .ok (.i2b, 1)) (g : fx_J M G Λ nL (pc + 1) ls ((0, fx_b x) :: st) h) : fx_J M G Λ nL pc ls ((0, x) :: st) h := by
  obtain ⟨p, l, e, R, s, m, args, below, meth, c, cells, slots, Q⟩ := M
  obtain ⟨D, cy, ad, ex, A⟩ := G
  obtain ⟨hx, hb, hml, hown, hts, hK, hwf, hA, hRm, hlocks, hcr, hX⟩ := F
  intro hls hst hR H locs la hP hD hS hl
  have hx' := hst _ List.mem_cons_self
  have hr' : ∀ v ∈ st, fx_ok Λ v := fun v hv => hst v (List.mem_cons_of_mem _ hv)
  exact lv_i2b hx hb d (by unfold fx_b; rw [fx_of_toInt]) (g hls (fx_okc (fx_toInt_R _) hr') hR H locs la hP hD hS hl)
theorem fx_rlcmp (F : fx_F X M G Λ cc own nL rm) {x y : Int} (d : decode cc pc = .ok (.lcmp, 1)) (g : fx_J M G Λ nL (pc + 1) ls ((0, fx_cmp x y) :: st) h) : fx_J M G Λ nL pc ls ((1, y) :: (1, x) :: st) h := by
  obtain ⟨p, l, e, R, s, m, args, below, meth, c, cells, slots, Q⟩ := M
  obtain ⟨D, cy, ad, ex, A⟩ := G
  obtain ⟨hx, hb, hml, hown, hts, hK, hwf, hA, hRm, hlocks, hcr, hX⟩ := F
  intro hls hst hR H locs la hP hD hS hl
  have hy' := hst _ List.mem_cons_self
  have hx' := hst _ (List.mem_cons_of_mem _ List.mem_cons_self)
  have hr' : ∀ v ∈ st, fx_ok Λ v := fun v hv => hst v (List.mem_cons_of_mem _ (List.mem_cons_of_mem _ hv))
  refine W.lcmp hx hb d ?_
  rw [fx_cmp_eq (fx_ok_l hx') (fx_ok_l hy')]
  exact g hls (fx_okc (fx_cmp_R x y) hr') hR H locs la hP hD hS hl
theorem fx_cat1 (ad ex : Nat → Nat) {v : fx_V} (hv : v.1 ≠ 1) : (fx_v ad ex v).category = 1 := by
  obtain ⟨t, x⟩ := v
  match t, hv with
  | 0, _ => rfl
  | 1, hv => exact absurd rfl hv
  | k + 2, _ => exact fx_v_cat ad ex k x
theorem fx_dup (F : fx_F X M G Λ cc own nL rm) {v : fx_V} (hv : v.1 ≠ 1) (d : decode cc pc = .ok (.dup, 1)) (g : fx_J M G Λ nL (pc + 1) ls (v :: v :: st) h) : fx_J M G Λ nL pc ls (v :: st) h := by
  obtain ⟨p, l, e, R, s, m, args, below, meth, c, cells, slots, Q⟩ := M
  obtain ⟨D, cy, ad, ex, A⟩ := G
  obtain ⟨hx, hb, hml, hown, hts, hK, hwf, hA, hRm, hlocks, hcr, hX⟩ := F
  intro hls hst hR H locs la hP hD hS hl
  have hx' := hst _ List.mem_cons_self
  have hr' : ∀ v ∈ st, fx_ok Λ v := fun v hv => hst v (List.mem_cons_of_mem _ hv)
  exact lv_dup hx hb d (fx_cat1 ad ex hv) (g hls (fx_okc hx' hst) hR H locs la hP hD hS hl)
theorem fx_dup2 (F : fx_F X M G Λ cc own nL rm) {v w : fx_V} (hv : v.1 ≠ 1) (hw : w.1 ≠ 1) (d : decode cc pc = .ok (.dup2, 1)) (g : fx_J M G Λ nL (pc + 1) ls (v :: w :: v :: w :: st) h) : fx_J M G Λ nL pc ls (v :: w :: st) h := by
  obtain ⟨p, l, e, R, s, m, args, below, meth, c, cells, slots, Q⟩ := M
  obtain ⟨D, cy, ad, ex, A⟩ := G
  obtain ⟨hx, hb, hml, hown, hts, hK, hwf, hA, hRm, hlocks, hcr, hX⟩ := F
  intro hls hst hR H locs la hP hD hS hl
  have hy' := hst _ List.mem_cons_self
  have hx' := hst _ (List.mem_cons_of_mem _ List.mem_cons_self)
  have hr' : ∀ v ∈ st, fx_ok Λ v := fun v hv => hst v (List.mem_cons_of_mem _ (List.mem_cons_of_mem _ hv))
  exact lv_dup2_11 hx hb d (fx_cat1 ad ex hv) (fx_cat1 ad ex hw) (g hls (fx_okc hy' (fx_okc hx' hst)) hR H locs la hP hD hS hl)
theorem fx_goto (F : fx_F X M G Λ cc own nL rm) {off : Int} (tgt : Nat) (ht : (pc : Int) + off = (tgt : Int)) (d : decode cc pc = .ok (.goto off, 3)) (g : fx_J M G Λ nL tgt ls st h) : fx_J M G Λ nL pc ls st h := by
  obtain ⟨p, l, e, R, s, m, args, below, meth, c, cells, slots, Q⟩ := M
  obtain ⟨D, cy, ad, ex, A⟩ := G
  obtain ⟨hx, hb, hml, hown, hts, hK, hwf, hA, hRm, hlocks, hcr, hX⟩ := F
  intro hls hst hR H locs la hP hD hS hl
  exact lv_goto hx hb d ht (g hls hst hR H locs la hP hD hS hl)
theorem fx_icmp_eq (F : fx_F X M G Λ cc own nL rm) {x y off : Int} (tgt : Nat) (ht : (pc : Int) + off = (tgt : Int)) (d : decode cc pc = .ok (.if_icmp .eq off, 3)) (gt : x = y → fx_J M G Λ nL tgt ls st h) (gf : ¬ (x = y) → fx_J M G Λ nL (pc + 3) ls st h) : fx_J M G Λ nL pc ls ((0, y) :: (0, x) :: st) h := by
  obtain ⟨p, l, e, R, s, m, args, below, meth, c, cells, slots, Q⟩ := M
  obtain ⟨D, cy, ad, ex, A⟩ := G
  obtain ⟨hx, hb, hml, hown, hts, hK, hwf, hA, hRm, hlocks, hcr, hX⟩ := F
  intro hls hst hR H locs la hP hD hS hl
  have hy' := hst _ List.mem_cons_self
  have hx' := hst _ (List.mem_cons_of_mem _ List.mem_cons_self)
  have hr' : ∀ v ∈ st, fx_ok Λ v := fun v hv => hst v (List.mem_cons_of_mem _ (List.mem_cons_of_mem _ hv))
  exact lv_icmp_eq hx hb d ht (fun q => (fun q => gt ((fx_eq (fx_ok_i hx') (fx_ok_i hy')).mp q)) q hls hr' hR H locs la hP hD hS hl) (fun q => (fun q => gf (fun e => q ((fx_eq (fx_ok_i hx') (fx_ok_i hy')).mpr e))) q hls hr' hR H locs la hP hD hS hl)
theorem fx_icmp_ne (F : fx_F X M G Λ cc own nL rm) {x y off : Int} (tgt : Nat) (ht : (pc : Int) + off = (tgt : Int)) (d : decode cc pc = .ok (.if_icmp .ne off, 3)) (gt : x ≠ y → fx_J M G Λ nL tgt ls st h) (gf : ¬ (x ≠ y) → fx_J M G Λ nL (pc + 3) ls st h) : fx_J M G Λ nL pc ls ((0, y) :: (0, x) :: st) h := by
  obtain ⟨p, l, e, R, s, m, args, below, meth, c, cells, slots, Q⟩ := M
  obtain ⟨D, cy, ad, ex, A⟩ := G
  obtain ⟨hx, hb, hml, hown, hts, hK, hwf, hA, hRm, hlocks, hcr, hX⟩ := F
  intro hls hst hR H locs la hP hD hS hl
  have hy' := hst _ List.mem_cons_self
  have hx' := hst _ (List.mem_cons_of_mem _ List.mem_cons_self)
  have hr' : ∀ v ∈ st, fx_ok Λ v := fun v hv => hst v (List.mem_cons_of_mem _ (List.mem_cons_of_mem _ hv))
  exact lv_icmp_ne hx hb d ht (fun q => (fun q => gt (fun e => q ((fx_eq (fx_ok_i hx') (fx_ok_i hy')).mpr e))) q hls hr' hR H locs la hP hD hS hl) (fun q => (fun q => gf (fun e => e ((fx_eq (fx_ok_i hx') (fx_ok_i hy')).mp q))) q hls hr' hR H locs la hP hD hS hl)
theorem fx_icmp_lt (F : fx_F X M G Λ cc own nL rm) {x y off : Int} (tgt : Nat) (ht : (pc : Int) + off = (tgt : Int)) (d : decode cc pc = .ok (.if_icmp .lt off, 3)) (gt : x < y → fx_J M G Λ nL tgt ls st h) (gf : ¬ (x < y) → fx_J M G Λ nL (pc + 3) ls st h) : fx_J M G Λ nL pc ls ((0, y) :: (0, x) :: st) h := by
  obtain ⟨p, l, e, R, s, m, args, below, meth, c, cells, slots, Q⟩ := M
  obtain ⟨D, cy, ad, ex, A⟩ := G
  obtain ⟨hx, hb, hml, hown, hts, hK, hwf, hA, hRm, hlocks, hcr, hX⟩ := F
  intro hls hst hR H locs la hP hD hS hl
  have hy' := hst _ List.mem_cons_self
  have hx' := hst _ (List.mem_cons_of_mem _ List.mem_cons_self)
  have hr' : ∀ v ∈ st, fx_ok Λ v := fun v hv => hst v (List.mem_cons_of_mem _ (List.mem_cons_of_mem _ hv))
  exact lv_icmp_lt hx hb d ht (fun q => (fun q => gt ((fx_lt (fx_ok_i hx') (fx_ok_i hy')).mp q)) q hls hr' hR H locs la hP hD hS hl) (fun q => (fun q => gf (fun e => q ((fx_lt (fx_ok_i hx') (fx_ok_i hy')).mpr e))) q hls hr' hR H locs la hP hD hS hl)
theorem fx_icmp_ge (F : fx_F X M G Λ cc own nL rm) {x y off : Int} (tgt : Nat) (ht : (pc : Int) + off = (tgt : Int)) (d : decode cc pc = .ok (.if_icmp .ge off, 3)) (gt : y ≤ x → fx_J M G Λ nL tgt ls st h) (gf : ¬ (y ≤ x) → fx_J M G Λ nL (pc + 3) ls st h) : fx_J M G Λ nL pc ls ((0, y) :: (0, x) :: st) h := by
  obtain ⟨p, l, e, R, s, m, args, below, meth, c, cells, slots, Q⟩ := M
  obtain ⟨D, cy, ad, ex, A⟩ := G
  obtain ⟨hx, hb, hml, hown, hts, hK, hwf, hA, hRm, hlocks, hcr, hX⟩ := F
  intro hls hst hR H locs la hP hD hS hl
  have hy' := hst _ List.mem_cons_self
  have hx' := hst _ (List.mem_cons_of_mem _ List.mem_cons_self)
  have hr' : ∀ v ∈ st, fx_ok Λ v := fun v hv => hst v (List.mem_cons_of_mem _ (List.mem_cons_of_mem _ hv))
  exact lv_icmp_ge hx hb d ht (fun q => (fun q => gt ((fx_le (fx_ok_i hy') (fx_ok_i hx')).mp q)) q hls hr' hR H locs la hP hD hS hl) (fun q => (fun q => gf (fun e => q ((fx_le (fx_ok_i hy') (fx_ok_i hx')).mpr e))) q hls hr' hR H locs la hP hD hS hl)
theorem fx_icmp_gt (F : fx_F X M G Λ cc own nL rm) {x y off : Int} (tgt : Nat) (ht : (pc : Int) + off = (tgt : Int)) (d : decode cc pc = .ok (.if_icmp .gt off, 3)) (gt : y < x → fx_J M G Λ nL tgt ls st h) (gf : ¬ (y < x) → fx_J M G Λ nL (pc + 3) ls st h) : fx_J M G Λ nL pc ls ((0, y) :: (0, x) :: st) h := by
  obtain ⟨p, l, e, R, s, m, args, below, meth, c, cells, slots, Q⟩ := M
  obtain ⟨D, cy, ad, ex, A⟩ := G
  obtain ⟨hx, hb, hml, hown, hts, hK, hwf, hA, hRm, hlocks, hcr, hX⟩ := F
  intro hls hst hR H locs la hP hD hS hl
  have hy' := hst _ List.mem_cons_self
  have hx' := hst _ (List.mem_cons_of_mem _ List.mem_cons_self)
  have hr' : ∀ v ∈ st, fx_ok Λ v := fun v hv => hst v (List.mem_cons_of_mem _ (List.mem_cons_of_mem _ hv))
  exact lv_icmp_gt hx hb d ht (fun q => (fun q => gt ((fx_lt (fx_ok_i hy') (fx_ok_i hx')).mp q)) q hls hr' hR H locs la hP hD hS hl) (fun q => (fun q => gf (fun e => q ((fx_lt (fx_ok_i hy') (fx_ok_i hx')).mpr e))) q hls hr' hR H locs la hP hD hS hl)
theorem fx_icmp_le (F : fx_F X M G Λ cc own nL rm) {x y off : Int} (tgt : Nat) (ht : (pc : Int) + off = (tgt : Int)) (d : decode cc pc = .ok (.if_icmp .le off, 3)) (gt : x ≤ y → fx_J M G Λ nL tgt ls st h) (gf : ¬ (x ≤ y) → fx_J M G Λ nL (pc + 3) ls st h) : fx_J M G Λ nL pc ls ((0, y) :: (0, x) :: st) h := by
  obtain ⟨p, l, e, R, s, m, args, below, meth, c, cells, slots, Q⟩ := M
  obtain ⟨D, cy, ad, ex, A⟩ := G
  obtain ⟨hx, hb, hml, hown, hts, hK, hwf, hA, hRm, hlocks, hcr, hX⟩ := F
  intro hls hst hR H locs la hP hD hS hl
  have hy' := hst _ List.mem_cons_self
  have hx' := hst _ (List.mem_cons_of_mem _ List.mem_cons_self)
  have hr' : ∀ v ∈ st, fx_ok Λ v := fun v hv => hst v (List.mem_cons_of_mem _ (List.mem_cons_of_mem _ hv))
  exact lv_icmp_le hx hb d ht (fun q => (fun q => gt ((fx_le (fx_ok_i hx') (fx_ok_i hy')).mp q)) q hls hr' hR H locs la hP hD hS hl) (fun q => (fun q => gf (fun e => q ((fx_le (fx_ok_i hx') (fx_ok_i hy')).mpr e))) q hls hr' hR H locs la hP hD hS hl)
theorem fx_if_eq (F : fx_F X M G Λ cc own nL rm) {x off : Int} (tgt : Nat) (ht : (pc : Int) + off = (tgt : Int)) (d : decode cc pc = .ok (.ifCond .eq off, 3)) (gt : x = 0 → fx_J M G Λ nL tgt ls st h) (gf : ¬ (x = 0) → fx_J M G Λ nL (pc + 3) ls st h) : fx_J M G Λ nL pc ls ((0, x) :: st) h := by
  obtain ⟨p, l, e, R, s, m, args, below, meth, c, cells, slots, Q⟩ := M
  obtain ⟨D, cy, ad, ex, A⟩ := G
  obtain ⟨hx, hb, hml, hown, hts, hK, hwf, hA, hRm, hlocks, hcr, hX⟩ := F
  intro hls hst hR H locs la hP hD hS hl
  have hx' := hst _ List.mem_cons_self
  have hr' : ∀ v ∈ st, fx_ok Λ v := fun v hv => hst v (List.mem_cons_of_mem _ hv)
  have h00 : fx_R 0 := by unfold fx_R; omega
  exact lv_if_eq hx hb d ht (fun q => (fun q => gt ((fx_eq (fx_ok_i hx') h00).mp q)) q hls hr' hR H locs la hP hD hS hl) (fun q => (fun q => gf (fun e => q ((fx_eq (fx_ok_i hx') h00).mpr e))) q hls hr' hR H locs la hP hD hS hl)
theorem fx_if_ne (F : fx_F X M G Λ cc own nL rm) {x off : Int} (tgt : Nat) (ht : (pc : Int) + off = (tgt : Int)) (d : decode cc pc = .ok (.ifCond .ne off, 3)) (gt : x ≠ 0 → fx_J M G Λ nL tgt ls st h) (gf : ¬ (x ≠ 0) → fx_J M G Λ nL (pc + 3) ls st h) : fx_J M G Λ nL pc ls ((0, x) :: st) h := by
  obtain ⟨p, l, e, R, s, m, args, below, meth, c, cells, slots, Q⟩ := M
  obtain ⟨D, cy, ad, ex, A⟩ := G
  obtain ⟨hx, hb, hml, hown, hts, hK, hwf, hA, hRm, hlocks, hcr, hX⟩ := F
  intro hls hst hR H locs la hP hD hS hl
  have hx' := hst _ List.mem_cons_self
  have hr' : ∀ v ∈ st, fx_ok Λ v := fun v hv => hst v (List.mem_cons_of_mem _ hv)
  have h00 : fx_R 0 := by unfold fx_R; omega
  exact lv_if_ne hx hb d ht (fun q => (fun q => gt (fun e => q ((fx_eq (fx_ok_i hx') h00).mpr e))) q hls hr' hR H locs la hP hD hS hl) (fun q => (fun q => gf (fun e => e ((fx_eq (fx_ok_i hx') h00).mp q))) q hls hr' hR H locs la hP hD hS hl)
theorem fx_if_lt (F : fx_F X M G Λ cc own nL rm) {x off : Int} (tgt : Nat) (ht : (pc : Int) + off = (tgt : Int)) (d : decode cc pc = .ok (.ifCond .lt off, 3)) (gt : x < 0 → fx_J M G Λ nL tgt ls st h) (gf : ¬ (x < 0) → fx_J M G Λ nL (pc + 3) ls st h) : fx_J M G Λ nL pc ls ((0, x) :: st) h := by
  obtain ⟨p, l, e, R, s, m, args, below, meth, c, cells, slots, Q⟩ := M
  obtain ⟨D, cy, ad, ex, A⟩ := G
  obtain ⟨hx, hb, hml, hown, hts, hK, hwf, hA, hRm, hlocks, hcr, hX⟩ := F
  intro hls hst hR H locs la hP hD hS hl
  have hx' := hst _ List.mem_cons_self
  have hr' : ∀ v ∈ st, fx_ok Λ v := fun v hv => hst v (List.mem_cons_of_mem _ hv)
  have h00 : fx_R 0 := by unfold fx_R; omega
  exact lv_if_lt hx hb d ht (fun q => (fun q => gt ((fx_lt (fx_ok_i hx') h00).mp q)) q hls hr' hR H locs la hP hD hS hl) (fun q => (fun q => gf (fun e => q ((fx_lt (fx_ok_i hx') h00).mpr e))) q hls hr' hR H locs la hP hD hS hl)
theorem fx_if_ge (F : fx_F X M G Λ cc own nL rm) {x off : Int} (tgt : Nat) (ht : (pc : Int) + off = (tgt : Int)) (d : decode cc pc = .ok (.ifCond .ge off, 3)) (gt : 0 ≤ x → fx_J M G Λ nL tgt ls st h) (gf : ¬ (0 ≤ x) → fx_J M G Λ nL (pc + 3) ls st h) : fx_J M G Λ nL pc ls ((0, x) :: st) h := by
  obtain ⟨p, l, e, R, s, m, args, below, meth, c, cells, slots, Q⟩ := M
  obtain ⟨D, cy, ad, ex, A⟩ := G
  obtain ⟨hx, hb, hml, hown, hts, hK, hwf, hA, hRm, hlocks, hcr, hX⟩ := F
  intro hls hst hR H locs la hP hD hS hl
  have hx' := hst _ List.mem_cons_self
  have hr' : ∀ v ∈ st, fx_ok Λ v := fun v hv => hst v (List.mem_cons_of_mem _ hv)
  have h00 : fx_R 0 := by unfold fx_R; omega
  exact lv_if_ge hx hb d ht (fun q => (fun q => gt ((fx_le h00 (fx_ok_i hx')).mp q)) q hls hr' hR H locs la hP hD hS hl) (fun q => (fun q => gf (fun e => q ((fx_le h00 (fx_ok_i hx')).mpr e))) q hls hr' hR H locs la hP hD hS hl)
theorem fx_if_gt (F : fx_F X M G Λ cc own nL rm) {x off : Int} (tgt : Nat) (ht : (pc : Int) + off = (tgt : Int)) (d : decode cc pc = .ok (.ifCond .gt off, 3)) (gt : 0 < x → fx_J M G Λ nL tgt ls st h) (gf : ¬ (0 < x) → fx_J M G Λ nL (pc + 3) ls st h) : fx_J M G Λ nL pc ls ((0, x) :: st) h := by
  obtain ⟨p, l, e, R, s, m, args, below, meth, c, cells, slots, Q⟩ := M
  obtain ⟨D, cy, ad, ex, A⟩ := G
  obtain ⟨hx, hb, hml, hown, hts, hK, hwf, hA, hRm, hlocks, hcr, hX⟩ := F
  intro hls hst hR H locs la hP hD hS hl
  have hx' := hst _ List.mem_cons_self
  have hr' : ∀ v ∈ st, fx_ok Λ v := fun v hv => hst v (List.mem_cons_of_mem _ hv)
  have h00 : fx_R 0 := by unfold fx_R; omega
  exact lv_if_gt hx hb d ht (fun q => (fun q => gt ((fx_lt h00 (fx_ok_i hx')).mp q)) q hls hr' hR H locs la hP hD hS hl) (fun q => (fun q => gf (fun e => q ((fx_lt h00 (fx_ok_i hx')).mpr e))) q hls hr' hR H locs la hP hD hS hl)
theorem fx_if_le (F : fx_F X M G Λ cc own nL rm) {x off : Int} (tgt : Nat) (ht : (pc : Int) + off = (tgt : Int)) (d : decode cc pc = .ok (.ifCond .le off, 3)) (gt : x ≤ 0 → fx_J M G Λ nL tgt ls st h) (gf : ¬ (x ≤ 0) → fx_J M G Λ nL (pc + 3) ls st h) : fx_J M G Λ nL pc ls ((0, x) :: st) h := by
  obtain ⟨p, l, e, R, s, m, args, below, meth, c, cells, slots, Q⟩ := M
  obtain ⟨D, cy, ad, ex, A⟩ := G
  obtain ⟨hx, hb, hml, hown, hts, hK, hwf, hA, hRm, hlocks, hcr, hX⟩ := F
  intro hls hst hR H locs la hP hD hS hl
  have hx' := hst _ List.mem_cons_self
  have hr' : ∀ v ∈ st, fx_ok Λ v := fun v hv => hst v (List.mem_cons_of_mem _ hv)
  have h00 : fx_R 0 := by unfold fx_R; omega
  exact lv_if_le hx hb d ht (fun q => (fun q => gt ((fx_le (fx_ok_i hx') h00).mp q)) q hls hr' hR H locs la hP hD hS hl) (fun q => (fun q => gf (fun e => q ((fx_le (fx_ok_i hx') h00).mpr e))) q hls hr' hR H locs la hP hD hS hl)
end FXJ
