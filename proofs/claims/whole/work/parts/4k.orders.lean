-- needs: 4j
/-! ===== all orders of people ===== -/
def rsq (P code : Int) : Nat → Int
  | 0 => code
  | m + 1 => rsq P code m / P
/-- the order that a code spells -/
def od (P code k : Int) : Int := rsq P code (P - 1 - k).toNat % P
def unl (P code : Int) : Prop := ∀ i j : Int, 0 ≤ i → i < j → j < P → ¬ od P code i = od P code j
def odl (P c : Nat) : List Int := (List.range P).map (fun k : Nat => od P c (k : Int))
def unlb (P c : Nat) : Bool := (List.range P).all (fun j : Nat => (List.range j).all (fun i : Nat => decide (¬ od P c (i : Int) = od P c (j : Int))))
def fnl (l : List Int) (k : Int) : Int := l.getD k.toNat 0
def nxl (P : Nat) (l : List Int) : List Int := (List.range P).map (fun j : Nat => nx (fnl l) P (j : Int))
def itl (P : Nat) : Nat → List Int → List (List Int)
  | 0, _ => []
  | f + 1, l => l :: (if tn (fnl l) P < 0 then [] else itl P f (nxl P l))
def idl (P : Nat) : List Int := (List.range P).map (fun k : Nat => (k : Int))
def ordOk (P : Nat) : Bool := decide (itl P 120 (idl P) = ((List.range (P ^ P)).filter (unlb P)).map (odl P))
theorem ordOk_1 : ordOk 1 = true := by decide +kernel
theorem ordOk_2 : ordOk 2 = true := by decide +kernel
theorem ordOk_3 : ordOk 3 = true := by decide +kernel
theorem ordOk_4 : ordOk 4 = true := by decide +kernel
theorem ordOk_5 : ordOk 5 = true := by decide +kernel
/-- the least code that spells an order -/
def c0F (P : Nat) : Nat := [0, 0, 1, 5, 27, 194].getD P 0
def fstOk (P : Nat) : Bool := (List.range (c0F P)).all (fun c => !unlb P c) && unlb P (c0F P) && decide (odl P (c0F P) = idl P) && decide (c0F P < P ^ P)
theorem fstOk_all : (List.range 5).all (fun P => fstOk (P + 1)) = true := by decide +kernel
theorem unlb_iff {P c : Nat} : unlb P c = true ↔ unl P c := by
  unfold unlb unl
  rw [List.all_eq_true]
  constructor
  · intro h i j i0 ij jP
    have h1 := h j.toNat (List.mem_range.mpr (by omega))
    rw [List.all_eq_true] at h1
    have h2 := h1 i.toNat (List.mem_range.mpr (by omega))
    rw [decide_eq_true_eq, show ((i.toNat : Nat) : Int) = i by omega, show ((j.toNat : Nat) : Int) = j by omega] at h2
    exact h2
  · intro h j hj
    rw [List.all_eq_true]
    intro i hi
    rw [List.mem_range] at hi hj
    rw [decide_eq_true_eq]
    exact h i j (by omega) (by omega) (by omega)
theorem map_range_eq {f g : Nat → Int} {P : Nat} (h : (List.range P).map f = (List.range P).map g) : ∀ k : Nat, k < P → f k = g k := by
  intro k hk
  have := List.map_inj_left.mp h k (List.mem_range.mpr hk)
  exact this
theorem fnl_map {f : Int → Int} {P : Nat} {k : Int} (k0 : 0 ≤ k) (k1 : k < P) : fnl ((List.range P).map (fun j : Nat => f (j : Int))) k = f k := by
  unfold fnl
  rw [List.getD_eq_getElem?_getD, List.getElem?_map, List.getElem?_range (by omega)]
  show f ((k.toNat : Nat) : Int) = f k
  rw [show ((k.toNat : Nat) : Int) = k by omega]
/-- the iterates, as lists -/
theorem itl_eq {P : Nat} (P1 : 1 ≤ P) : ∀ (f : Nat) (r : Int → Int), itl P f ((List.range P).map (fun j : Nat => r (j : Int))) = (List.range (rcF P f r)).map (fun i : Nat => (List.range P).map (fun j : Nat => Rq P r i (j : Int)))
  | 0, r => rfl
  | f + 1, r => by
    have e : ∀ j : Int, 0 ≤ j → j < (P : Int) → fnl ((List.range P).map (fun j : Nat => r (j : Int))) j = r j := fun j a b => fnl_map a b
    have te : tn (fnl ((List.range P).map (fun j : Nat => r (j : Int)))) P = tn r P := tn_congr (by omega) e
    have ne : nxl P ((List.range P).map (fun j : Nat => r (j : Int))) = (List.range P).map (fun j : Nat => nx r P (j : Int)) := by
      unfold nxl
      refine List.map_congr_left (fun j hj => ?_)
      rw [List.mem_range] at hj
      exact nx_congr (by omega) e (by omega) (by omega)
    show (List.range P).map (fun j : Nat => r (j : Int)) :: (if tn (fnl ((List.range P).map (fun j : Nat => r (j : Int)))) P < 0 then [] else itl P f (nxl P ((List.range P).map (fun j : Nat => r (j : Int))))) = (List.range (if tn r P < 0 then 1 else 1 + rcF P f (nx r P))).map (fun i : Nat => (List.range P).map (fun j : Nat => Rq P r i (j : Int)))
    rw [te, ne, itl_eq P1 f (nx r P)]
    by_cases c : tn r P < 0
    · rw [if_pos c, if_pos c]; rfl
    · rw [if_neg c, if_neg c, show 1 + rcF P f (nx r P) = rcF P f (nx r P) + 1 by omega, List.range_succ_eq_map, List.map_cons, List.map_map]
      refine congrArg _ (List.map_congr_left (fun i _ => ?_))
      show (List.range P).map (fun j : Nat => Rq P (nx r P) i (j : Int)) = (List.range P).map (fun j : Nat => Rq P r (i + 1) (j : Int))
      rw [Rq_s]
/-- the class's orders are the reference's -/
theorem ord_cor {P : Int} (P1 : 1 ≤ P) (P5 : P ≤ 5) : (∀ i : Nat, i < rc P (fun j => j) → ∃ c : Int, 0 ≤ c ∧ c < P ^ P.toNat ∧ unl P c ∧ ∀ k : Int, 0 ≤ k → k < P → od P c k = Rq P (fun j => j) i k) ∧ (∀ c : Int, 0 ≤ c → c < P ^ P.toNat → unl P c → ∃ i : Nat, i < rc P (fun j => j) ∧ ∀ k : Int, 0 ≤ k → k < P → od P c k = Rq P (fun j => j) i k) := by
  obtain ⟨Q, rfl⟩ : ∃ Q : Nat, P = Q := ⟨P.toNat, by omega⟩
  have hk : ordOk Q = true := by
    rcases (show Q = 1 ∨ Q = 2 ∨ Q = 3 ∨ Q = 4 ∨ Q = 5 by omega) with rfl | rfl | rfl | rfl | rfl
    · exact ordOk_1
    · exact ordOk_2
    · exact ordOk_3
    · exact ordOk_4
    · exact ordOk_5
  unfold ordOk at hk
  rw [decide_eq_true_eq] at hk
  have e := itl_eq (P := Q) (by omega) 120 (fun j => j)
  have e0 : (List.range Q).map (fun j : Nat => (fun j : Int => j) (j : Int)) = idl Q := rfl
  rw [e0, hk] at e
  have pw : ((Q : Int)) ^ ((Q : Int)).toNat = ((Q ^ Q : Nat) : Int) := by rw [Int.toNat_natCast, Int.natCast_pow]
  rw [pw]
  constructor
  · intro i hi
    have m : (List.range Q).map (fun j : Nat => Rq Q (fun j => j) i (j : Int)) ∈ ((List.range (Q ^ Q)).filter (unlb Q)).map (odl Q) := by
      rw [e]
      exact List.mem_map.mpr ⟨i, List.mem_range.mpr hi, rfl⟩
    obtain ⟨c, hc, hE⟩ := List.mem_map.mp m
    obtain ⟨c1, c2⟩ := List.mem_filter.mp hc
    rw [List.mem_range] at c1
    refine ⟨c, by omega, by omega, unlb_iff.mp c2, fun k k0 k1 => ?_⟩
    have := map_range_eq hE k.toNat (by omega)
    rw [show ((k.toNat : Nat) : Int) = k by omega] at this
    exact this
  · intro c c0 c1 hu
    obtain ⟨d, rfl⟩ : ∃ d : Nat, c = d := ⟨c.toNat, by omega⟩
    have m : odl Q d ∈ (List.range (rcF Q 120 (fun j => j))).map (fun i : Nat => (List.range Q).map (fun j : Nat => Rq Q (fun j => j) i (j : Int))) := by
      rw [← e]
      exact List.mem_map.mpr ⟨d, List.mem_filter.mpr ⟨List.mem_range.mpr (by omega), unlb_iff.mpr hu⟩, rfl⟩
    obtain ⟨i, hi, hE⟩ := List.mem_map.mp m
    rw [List.mem_range] at hi
    refine ⟨i, hi, fun k k0 k1 => ?_⟩
    have := map_range_eq hE k.toNat (by omega)
    rw [show ((k.toNat : Nat) : Int) = k by omega] at this
    exact this.symm
theorem ord_fst {P : Int} (P1 : 1 ≤ P) (P5 : P ≤ 5) : ∃ c0 : Int, 0 ≤ c0 ∧ c0 < P ^ P.toNat ∧ (∀ c : Int, 0 ≤ c → c < c0 → ¬ unl P c) ∧ unl P c0 ∧ ∀ k : Int, 0 ≤ k → k < P → od P c0 k = k := by
  obtain ⟨Q, rfl⟩ : ∃ Q : Nat, P = Q := ⟨P.toNat, by omega⟩
  have h := List.all_eq_true.mp fstOk_all (Q - 1) (List.mem_range.mpr (by omega))
  rw [show Q - 1 + 1 = Q by omega] at h
  unfold fstOk at h
  simp only [Bool.and_eq_true, decide_eq_true_eq] at h
  obtain ⟨⟨⟨h1, h2⟩, h3⟩, h4⟩ := h
  have pw : ((Q : Int)) ^ ((Q : Int)).toNat = ((Q ^ Q : Nat) : Int) := by rw [Int.toNat_natCast, Int.natCast_pow]
  rw [pw]
  refine ⟨(c0F Q : Int), by omega, by omega, fun c c0 c1 hu => ?_, unlb_iff.mp h2, fun k k0 k1 => ?_⟩
  · obtain ⟨d, rfl⟩ : ∃ d : Nat, c = d := ⟨c.toNat, by omega⟩
    have := List.all_eq_true.mp h1 d (List.mem_range.mpr (by omega))
    rw [unlb_iff.mpr hu] at this
    cases this
  · have := map_range_eq h3 k.toNat (by omega)
    rw [show ((k.toNat : Nat) : Int) = k by omega] at this
    exact this
