-- needs: 7b
/-! ===== the draft, in two heaps ===== -/
def DV (s : fx_H) : Prop := (0 ≤ s 20 0 ∧ s 20 0 ≤ 9) ∧ (0 ≤ s 20 1 ∧ s 20 1 ≤ 4) ∧ (1 ≤ s 20 2 ∧ s 20 2 ≤ 5) ∧ (1 ≤ s 20 3 ∧ s 20 3 ≤ 5) ∧ (0 ≤ s 20 4 ∧ s 20 4 < s 20 2) ∧ s 20 5 = 0 ∧ (∀ t : Int, 0 ≤ t → t < s 20 0 → -1 ≤ s 21 t ∧ s 21 t < t) ∧ (∀ q : Int, 0 ≤ q → q < 5 → 0 ≤ s 22 q ∧ s 22 q ≤ 5 ∧ (s 20 3 ≤ q → s 22 q = 0)) ∧ (∀ q p : Int, 0 ≤ q → q < 5 → 0 ≤ p → p < 5 → 0 ≤ s (24 + q) p ∧ s (24 + q) p ≤ 9 ∧ (s (24 + q) p = 9 ∨ s (24 + q) p < s 20 0)) ∧ (∀ p t : Int, 0 ≤ p → p < 5 → 0 ≤ t → t < 9 → 0 ≤ s (30 + p) t ∧ (s 20 0 ≤ t → s (30 + p) t = 0)) ∧ (∀ p : Int, 0 ≤ p → p < 5 → sumI 9 (fun t => s (30 + p) t) ≤ s 20 3) ∧ (∀ p : Int, 0 ≤ p → p < 5 → 0 ≤ s 35 p ∧ s 35 p ≤ 40)
def DG (s g : fx_H) : Prop := g 142 0 = s 20 0 ∧ g 142 12 = s 20 1 ∧ g 142 10 = s 20 2 ∧ g 142 11 = s 20 3 ∧ g 142 13 = s 20 4 ∧ g 142 94 = 0 ∧ (∀ t : Int, 0 ≤ t → t < s 20 0 → g 142 (1 + t) = s 21 t) ∧ (∀ q : Int, 0 ≤ q → q < 5 → g 142 (14 + q) = s 22 q) ∧ (∀ q p : Int, 0 ≤ q → q < 5 → 0 ≤ p → p < 5 → g 142 (19 + 5 * p + q) = de (s (24 + q) p)) ∧ (∀ p t : Int, 0 ≤ p → p < 5 → 0 ≤ t → t < 9 → g 142 (44 + 9 * p + t) = s (30 + p) t) ∧ (∀ p : Int, 0 ≤ p → p < 5 → g 142 (89 + p) = s 35 p)
def DZ (s : fx_H) : Prop := s 20 4 = 0 ∧ (∀ q : Int, 0 ≤ q → q < 5 → s 22 q = 0) ∧ (∀ p t : Int, 0 ≤ p → p < 5 → 0 ≤ t → t < 9 → s (30 + p) t = 0)
def LV (s g : fx_H) : Prop := DV s ∧ DG s g ∧ s 41 6 = g 126 23 ∧ (s 41 6 = 0 → DZ s)
theorem DV_TV {s : fx_H} (d : DV s) : TV 20 s := by
  obtain ⟨v1, v2, v3, v4, v5, v6, v7, v8, v9, v10, v11, v12⟩ := d
  refine ⟨v1, v2, v3, v4, v5, by omega, v7, v8, fun q p a b a' b' => ?_, fun p t a b a' b' => ?_, fun p a b => ?_, v12, fun k a b => by omega⟩
  · rw [show (20 : Int) + 4 + q = 24 + q by omega]; exact v9 q p a b a' b'
  · rw [show (20 : Int) + 10 + p = 30 + p by omega]; exact v10 p t a b a' b'
  · rw [show (20 : Int) + 10 + p = 30 + p by omega]; exact v11 p a b
theorem LV_congr {s g s' g' : fx_H} (e : ∀ a i : Int, 20 ≤ a → a ≤ 35 → s' a i = s a i) (e2 : ∀ i : Int, g' 142 i = g 142 i) (e3 : s' 41 6 = g' 126 23) (e4 : s' 41 6 = 0 → s 41 6 = 0) (h : LV s g) : LV s' g' := by
  obtain ⟨⟨v1, v2, v3, v4, v5, v6, v7, v8, v9, v10, v11, v12⟩, ⟨r1, r2, r3, r4, r5, r6, r7, r8, r9, r10, r11⟩, u1, u2⟩ := h
  have ec : ∀ i, s' 20 i = s 20 i := fun i => e 20 i (by omega) (by omega)
  refine ⟨?_, ?_, e3, fun z => ?_⟩
  · unfold DV
    simp only [ec]
    refine ⟨v1, v2, v3, v4, v5, v6, fun t a b => ?_, fun q a b => ?_, fun q p a b a' b' => ?_, fun p t a b a' b' => ?_, fun p a b => ?_, fun p a b => ?_⟩
    · rw [e _ _ (by omega) (by omega)]; exact v7 t a b
    · rw [e _ _ (by omega) (by omega)]; exact v8 q a b
    · rw [e _ _ (by omega) (by omega)]; exact v9 q p a b a' b'
    · rw [e _ _ (by omega) (by omega)]; exact v10 p t a b a' b'
    · rw [sumI_congr (g := fun t => s (30 + p) t) (fun t _ _ => e _ _ (by omega) (by omega))]; exact v11 p a b
    · rw [e _ _ (by omega) (by omega)]; exact v12 p a b
  · unfold DG
    simp only [ec, e2]
    refine ⟨r1, r2, r3, r4, r5, r6, fun t a b => ?_, fun q a b => ?_, fun q p a b a' b' => ?_, fun p t a b a' b' => ?_, fun p a b => ?_⟩
    · rw [e _ _ (by omega) (by omega)]; exact r7 t a b
    · rw [e _ _ (by omega) (by omega)]; exact r8 q a b
    · rw [e _ _ (by omega) (by omega)]; exact r9 q p a b a' b'
    · rw [e _ _ (by omega) (by omega)]; exact r10 p t a b a' b'
    · rw [e _ _ (by omega) (by omega)]; exact r11 p a b
  · obtain ⟨z1, z2, z3⟩ := u2 (e4 z)
    refine ⟨by rw [ec]; exact z1, fun q a b => ?_, fun p t a b a' b' => ?_⟩
    · rw [e _ _ (by omega) (by omega)]; exact z2 q a b
    · rw [e _ _ (by omega) (by omega)]; exact z3 p t a b a' b' 
theorem LV_line {s g : fx_H} {v : Int} (h0 : 0 ≤ v) (h1 : v ≤ 4) (h : LV s g) : LV (fx_up s 20 1 v) (fx_up g 142 12 v) := by
  obtain ⟨⟨⟨v1, v1'⟩, ⟨v2, v2'⟩, ⟨v3, v3'⟩, ⟨v4, v4'⟩, ⟨v5, v5'⟩, v6, v7, v8, v9, v10, v11, v12⟩, ⟨r1, r2, r3, r4, r5, r6, r7, r8, r9, r10, r11⟩, u1, u2⟩ := h
  refine ⟨⟨?_, ?_, ?_, ?_, ?_, ?_, fun t a b => ?_, fun q a b => ?_, fun q p a b a' b' => ?_, fun p t a b a' b' => ?_, fun p a b => ?_, fun p a b => ?_⟩, ⟨?_, ?_, ?_, ?_, ?_, ?_, fun t a b => ?_, fun q a b => ?_, fun q p a b a' b' => ?_, fun p t a b a' b' => ?_, fun p a b => ?_⟩, ?_, fun z => ?_⟩
  · (try simp (disch := omega) only [up_ne, up_eq]); omega
  · (try simp (disch := omega) only [up_ne, up_eq]); omega
  · (try simp (disch := omega) only [up_ne, up_eq]); omega
  · (try simp (disch := omega) only [up_ne, up_eq]); omega
  · (try simp (disch := omega) only [up_ne, up_eq]); omega
  · (try simp (disch := omega) only [up_ne, up_eq]); omega
  · (try simp (disch := omega) only [up_ne, up_eq] at b); (try simp (disch := omega) only [up_ne, up_eq]); exact v7 t a b
  · (try simp (disch := omega) only [up_ne, up_eq]); exact v8 q a b
  · (try simp (disch := omega) only [up_ne, up_eq]); exact v9 q p a b a' b'
  · (try simp (disch := omega) only [up_ne, up_eq]); exact v10 p t a b a' b'
  · (try simp (disch := omega) only [up_ne, up_eq]); exact v11 p a b
  · (try simp (disch := omega) only [up_ne, up_eq]); exact v12 p a b
  · (try simp (disch := omega) only [up_ne, up_eq]) <;> first | exact r1 | omega
  · (try simp (disch := omega) only [up_ne, up_eq]) <;> first | exact r2 | omega
  · (try simp (disch := omega) only [up_ne, up_eq]) <;> first | exact r3 | omega
  · (try simp (disch := omega) only [up_ne, up_eq]) <;> first | exact r4 | omega
  · (try simp (disch := omega) only [up_ne, up_eq]) <;> first | exact r5 | omega
  · (try simp (disch := omega) only [up_ne, up_eq]) <;> first | exact r6 | omega
  · (try simp (disch := omega) only [up_ne, up_eq] at b); (try simp (disch := omega) only [up_ne, up_eq]); exact r7 t a b
  · (try simp (disch := omega) only [up_ne, up_eq]); exact r8 q a b
  · (try simp (disch := omega) only [up_ne, up_eq]); exact r9 q p a b a' b'
  · (try simp (disch := omega) only [up_ne, up_eq]); exact r10 p t a b a' b'
  · (try simp (disch := omega) only [up_ne, up_eq]); exact r11 p a b
  · (try simp (disch := omega) only [up_ne, up_eq]); exact u1
  · (try simp (disch := omega) only [up_ne, up_eq] at z)
    obtain ⟨z1, z2, z3⟩ := u2 z
    exact ⟨by (try simp (disch := omega) only [up_ne, up_eq]); exact z1, fun q a b => by (try simp (disch := omega) only [up_ne, up_eq]); exact z2 q a b, fun p t a b a' b' => by (try simp (disch := omega) only [up_ne, up_eq]); exact z3 p t a b a' b'⟩
theorem LV_people {s g : fx_H} {v : Int} (h0 : 1 ≤ v) (h1 : v ≤ 5) (u : s 41 6 = 0) (h : LV s g) : LV (fx_up s 20 2 v) (fx_up g 142 10 v) := by
  obtain ⟨⟨⟨v1, v1'⟩, ⟨v2, v2'⟩, ⟨v3, v3'⟩, ⟨v4, v4'⟩, ⟨v5, v5'⟩, v6, v7, v8, v9, v10, v11, v12⟩, ⟨r1, r2, r3, r4, r5, r6, r7, r8, r9, r10, r11⟩, u1, u2⟩ := h
  have w4 := (u2 u).1
  refine ⟨⟨?_, ?_, ?_, ?_, ?_, ?_, fun t a b => ?_, fun q a b => ?_, fun q p a b a' b' => ?_, fun p t a b a' b' => ?_, fun p a b => ?_, fun p a b => ?_⟩, ⟨?_, ?_, ?_, ?_, ?_, ?_, fun t a b => ?_, fun q a b => ?_, fun q p a b a' b' => ?_, fun p t a b a' b' => ?_, fun p a b => ?_⟩, ?_, fun z => ?_⟩
  · (try simp (disch := omega) only [up_ne, up_eq]); omega
  · (try simp (disch := omega) only [up_ne, up_eq]); omega
  · (try simp (disch := omega) only [up_ne, up_eq]); omega
  · (try simp (disch := omega) only [up_ne, up_eq]); omega
  · (try simp (disch := omega) only [up_ne, up_eq]); omega
  · (try simp (disch := omega) only [up_ne, up_eq]); omega
  · (try simp (disch := omega) only [up_ne, up_eq] at b); (try simp (disch := omega) only [up_ne, up_eq]); exact v7 t a b
  · (try simp (disch := omega) only [up_ne, up_eq]); exact v8 q a b
  · (try simp (disch := omega) only [up_ne, up_eq]); exact v9 q p a b a' b'
  · (try simp (disch := omega) only [up_ne, up_eq]); exact v10 p t a b a' b'
  · (try simp (disch := omega) only [up_ne, up_eq]); exact v11 p a b
  · (try simp (disch := omega) only [up_ne, up_eq]); exact v12 p a b
  · (try simp (disch := omega) only [up_ne, up_eq]) <;> first | exact r1 | omega
  · (try simp (disch := omega) only [up_ne, up_eq]) <;> first | exact r2 | omega
  · (try simp (disch := omega) only [up_ne, up_eq]) <;> first | exact r3 | omega
  · (try simp (disch := omega) only [up_ne, up_eq]) <;> first | exact r4 | omega
  · (try simp (disch := omega) only [up_ne, up_eq]) <;> first | exact r5 | omega
  · (try simp (disch := omega) only [up_ne, up_eq]) <;> first | exact r6 | omega
  · (try simp (disch := omega) only [up_ne, up_eq] at b); (try simp (disch := omega) only [up_ne, up_eq]); exact r7 t a b
  · (try simp (disch := omega) only [up_ne, up_eq]); exact r8 q a b
  · (try simp (disch := omega) only [up_ne, up_eq]); exact r9 q p a b a' b'
  · (try simp (disch := omega) only [up_ne, up_eq]); exact r10 p t a b a' b'
  · (try simp (disch := omega) only [up_ne, up_eq]); exact r11 p a b
  · (try simp (disch := omega) only [up_ne, up_eq]); exact u1
  · (try simp (disch := omega) only [up_ne, up_eq] at z)
    obtain ⟨z1, z2, z3⟩ := u2 u
    exact ⟨by (try simp (disch := omega) only [up_ne, up_eq]); exact z1, fun q a b => by (try simp (disch := omega) only [up_ne, up_eq]); exact z2 q a b, fun p t a b a' b' => by (try simp (disch := omega) only [up_ne, up_eq]); exact z3 p t a b a' b'⟩
theorem LV_hours {s g : fx_H} {v : Int} (h0 : 1 ≤ v) (h1 : v ≤ 5) (u : s 41 6 = 0) (h : LV s g) : LV (fx_up s 20 3 v) (fx_up g 142 11 v) := by
  obtain ⟨⟨⟨v1, v1'⟩, ⟨v2, v2'⟩, ⟨v3, v3'⟩, ⟨v4, v4'⟩, ⟨v5, v5'⟩, v6, v7, v8, v9, v10, v11, v12⟩, ⟨r1, r2, r3, r4, r5, r6, r7, r8, r9, r10, r11⟩, u1, u2⟩ := h
  refine ⟨⟨?_, ?_, ?_, ?_, ?_, ?_, fun t a b => ?_, fun q a b => ?_, fun q p a b a' b' => ?_, fun p t a b a' b' => ?_, fun p a b => ?_, fun p a b => ?_⟩, ⟨?_, ?_, ?_, ?_, ?_, ?_, fun t a b => ?_, fun q a b => ?_, fun q p a b a' b' => ?_, fun p t a b a' b' => ?_, fun p a b => ?_⟩, ?_, fun z => ?_⟩
  · (try simp (disch := omega) only [up_ne, up_eq]); omega
  · (try simp (disch := omega) only [up_ne, up_eq]); omega
  · (try simp (disch := omega) only [up_ne, up_eq]); omega
  · (try simp (disch := omega) only [up_ne, up_eq]); omega
  · (try simp (disch := omega) only [up_ne, up_eq]); omega
  · (try simp (disch := omega) only [up_ne, up_eq]); omega
  · (try simp (disch := omega) only [up_ne, up_eq] at b); (try simp (disch := omega) only [up_ne, up_eq]); exact v7 t a b
  · (try simp (disch := omega) only [up_ne, up_eq])
    have := (u2 u).2.1 q a b
    omega
  · (try simp (disch := omega) only [up_ne, up_eq]); exact v9 q p a b a' b'
  · (try simp (disch := omega) only [up_ne, up_eq]); exact v10 p t a b a' b'
  · (try simp (disch := omega) only [up_ne, up_eq])
    rw [sum_zero (fun t a' b' => (u2 u).2.2 p t a b a' (by omega))]; omega
  · (try simp (disch := omega) only [up_ne, up_eq]); exact v12 p a b
  · (try simp (disch := omega) only [up_ne, up_eq]) <;> first | exact r1 | omega
  · (try simp (disch := omega) only [up_ne, up_eq]) <;> first | exact r2 | omega
  · (try simp (disch := omega) only [up_ne, up_eq]) <;> first | exact r3 | omega
  · (try simp (disch := omega) only [up_ne, up_eq]) <;> first | exact r4 | omega
  · (try simp (disch := omega) only [up_ne, up_eq]) <;> first | exact r5 | omega
  · (try simp (disch := omega) only [up_ne, up_eq]) <;> first | exact r6 | omega
  · (try simp (disch := omega) only [up_ne, up_eq] at b); (try simp (disch := omega) only [up_ne, up_eq]); exact r7 t a b
  · (try simp (disch := omega) only [up_ne, up_eq]); exact r8 q a b
  · (try simp (disch := omega) only [up_ne, up_eq]); exact r9 q p a b a' b'
  · (try simp (disch := omega) only [up_ne, up_eq]); exact r10 p t a b a' b'
  · (try simp (disch := omega) only [up_ne, up_eq]); exact r11 p a b
  · (try simp (disch := omega) only [up_ne, up_eq]); exact u1
  · (try simp (disch := omega) only [up_ne, up_eq] at z)
    obtain ⟨z1, z2, z3⟩ := u2 u
    exact ⟨by (try simp (disch := omega) only [up_ne, up_eq]); exact z1, fun q a b => by (try simp (disch := omega) only [up_ne, up_eq]); exact z2 q a b, fun p t a b a' b' => by (try simp (disch := omega) only [up_ne, up_eq]); exact z3 p t a b a' b'⟩
theorem LV_rich {s g : fx_H} {v : Int} (h0 : 0 ≤ v) (h1 : v < s 20 2) (n6 : ¬ s 41 6 = 0)  (h : LV s g) : LV (fx_up s 20 4 v) (fx_up g 142 13 v) := by
  obtain ⟨⟨⟨v1, v1'⟩, ⟨v2, v2'⟩, ⟨v3, v3'⟩, ⟨v4, v4'⟩, ⟨v5, v5'⟩, v6, v7, v8, v9, v10, v11, v12⟩, ⟨r1, r2, r3, r4, r5, r6, r7, r8, r9, r10, r11⟩, u1, u2⟩ := h
  refine ⟨⟨?_, ?_, ?_, ?_, ?_, ?_, fun t a b => ?_, fun q a b => ?_, fun q p a b a' b' => ?_, fun p t a b a' b' => ?_, fun p a b => ?_, fun p a b => ?_⟩, ⟨?_, ?_, ?_, ?_, ?_, ?_, fun t a b => ?_, fun q a b => ?_, fun q p a b a' b' => ?_, fun p t a b a' b' => ?_, fun p a b => ?_⟩, ?_, fun z => ?_⟩
  · (try simp (disch := omega) only [up_ne, up_eq]); omega
  · (try simp (disch := omega) only [up_ne, up_eq]); omega
  · (try simp (disch := omega) only [up_ne, up_eq]); omega
  · (try simp (disch := omega) only [up_ne, up_eq]); omega
  · (try simp (disch := omega) only [up_ne, up_eq]); omega
  · (try simp (disch := omega) only [up_ne, up_eq]); omega
  · (try simp (disch := omega) only [up_ne, up_eq] at b); (try simp (disch := omega) only [up_ne, up_eq]); exact v7 t a b
  · (try simp (disch := omega) only [up_ne, up_eq]); exact v8 q a b
  · (try simp (disch := omega) only [up_ne, up_eq]); exact v9 q p a b a' b'
  · (try simp (disch := omega) only [up_ne, up_eq]); exact v10 p t a b a' b'
  · (try simp (disch := omega) only [up_ne, up_eq]); exact v11 p a b
  · (try simp (disch := omega) only [up_ne, up_eq]); exact v12 p a b
  · (try simp (disch := omega) only [up_ne, up_eq]) <;> first | exact r1 | omega
  · (try simp (disch := omega) only [up_ne, up_eq]) <;> first | exact r2 | omega
  · (try simp (disch := omega) only [up_ne, up_eq]) <;> first | exact r3 | omega
  · (try simp (disch := omega) only [up_ne, up_eq]) <;> first | exact r4 | omega
  · (try simp (disch := omega) only [up_ne, up_eq]) <;> first | exact r5 | omega
  · (try simp (disch := omega) only [up_ne, up_eq]) <;> first | exact r6 | omega
  · (try simp (disch := omega) only [up_ne, up_eq] at b); (try simp (disch := omega) only [up_ne, up_eq]); exact r7 t a b
  · (try simp (disch := omega) only [up_ne, up_eq]); exact r8 q a b
  · (try simp (disch := omega) only [up_ne, up_eq]); exact r9 q p a b a' b'
  · (try simp (disch := omega) only [up_ne, up_eq]); exact r10 p t a b a' b'
  · (try simp (disch := omega) only [up_ne, up_eq]); exact r11 p a b
  · (try simp (disch := omega) only [up_ne, up_eq]); exact u1
  · (try simp (disch := omega) only [up_ne, up_eq] at z); exact absurd z n6
theorem LV_kind {s g : fx_H} {k v : Int} (k0 : 0 ≤ k) (k1 : k < s 20 3) (h0 : 0 ≤ v) (h1 : v ≤ 5) (n6 : ¬ s 41 6 = 0)  (h : LV s g) : LV (fx_up s 22 k v) (fx_up g 142 (14 + k) v) := by
  obtain ⟨⟨⟨v1, v1'⟩, ⟨v2, v2'⟩, ⟨v3, v3'⟩, ⟨v4, v4'⟩, ⟨v5, v5'⟩, v6, v7, v8, v9, v10, v11, v12⟩, ⟨r1, r2, r3, r4, r5, r6, r7, r8, r9, r10, r11⟩, u1, u2⟩ := h
  refine ⟨⟨?_, ?_, ?_, ?_, ?_, ?_, fun t a b => ?_, fun q a b => ?_, fun q p a b a' b' => ?_, fun p t a b a' b' => ?_, fun p a b => ?_, fun p a b => ?_⟩, ⟨?_, ?_, ?_, ?_, ?_, ?_, fun t a b => ?_, fun q a b => ?_, fun q p a b a' b' => ?_, fun p t a b a' b' => ?_, fun p a b => ?_⟩, ?_, fun z => ?_⟩
  · (try simp (disch := omega) only [up_ne, up_eq]); omega
  · (try simp (disch := omega) only [up_ne, up_eq]); omega
  · (try simp (disch := omega) only [up_ne, up_eq]); omega
  · (try simp (disch := omega) only [up_ne, up_eq]); omega
  · (try simp (disch := omega) only [up_ne, up_eq]); omega
  · (try simp (disch := omega) only [up_ne, up_eq]); omega
  · (try simp (disch := omega) only [up_ne, up_eq] at b); (try simp (disch := omega) only [up_ne, up_eq]); exact v7 t a b
  · by_cases e : q = k
    · subst e; simp (disch := omega) only [up_ne, up_eq]; omega
    · simp (disch := omega) only [up_ne, up_eq]; exact v8 q a b
  · (try simp (disch := omega) only [up_ne, up_eq]); exact v9 q p a b a' b'
  · (try simp (disch := omega) only [up_ne, up_eq]); exact v10 p t a b a' b'
  · (try simp (disch := omega) only [up_ne, up_eq]); exact v11 p a b
  · (try simp (disch := omega) only [up_ne, up_eq]); exact v12 p a b
  · (try simp (disch := omega) only [up_ne, up_eq]) <;> first | exact r1 | omega
  · (try simp (disch := omega) only [up_ne, up_eq]) <;> first | exact r2 | omega
  · (try simp (disch := omega) only [up_ne, up_eq]) <;> first | exact r3 | omega
  · (try simp (disch := omega) only [up_ne, up_eq]) <;> first | exact r4 | omega
  · (try simp (disch := omega) only [up_ne, up_eq]) <;> first | exact r5 | omega
  · (try simp (disch := omega) only [up_ne, up_eq]) <;> first | exact r6 | omega
  · (try simp (disch := omega) only [up_ne, up_eq] at b); (try simp (disch := omega) only [up_ne, up_eq]); exact r7 t a b
  · by_cases e : q = k
    · subst e; simp (disch := omega) only [up_ne, up_eq]
    · simp (disch := omega) only [up_ne, up_eq]; exact r8 q a b
  · (try simp (disch := omega) only [up_ne, up_eq]); exact r9 q p a b a' b'
  · (try simp (disch := omega) only [up_ne, up_eq]); exact r10 p t a b a' b'
  · (try simp (disch := omega) only [up_ne, up_eq]); exact r11 p a b
  · (try simp (disch := omega) only [up_ne, up_eq]); exact u1
  · (try simp (disch := omega) only [up_ne, up_eq] at z); exact absurd z n6
theorem LV_doing {s g : fx_H} {k j v : Int} (k0 : 0 ≤ k) (k1 : k < 5) (j0 : 0 ≤ j) (j1 : j < 5) (h0 : 0 ≤ v) (h1 : v < s 20 0) (n6 : ¬ s 41 6 = 0)  (h : LV s g) : LV (fx_up s (24 + k) j v) (fx_up g 142 (19 + 5 * j + k) v) := by
  obtain ⟨⟨⟨v1, v1'⟩, ⟨v2, v2'⟩, ⟨v3, v3'⟩, ⟨v4, v4'⟩, ⟨v5, v5'⟩, v6, v7, v8, v9, v10, v11, v12⟩, ⟨r1, r2, r3, r4, r5, r6, r7, r8, r9, r10, r11⟩, u1, u2⟩ := h
  refine ⟨⟨?_, ?_, ?_, ?_, ?_, ?_, fun t a b => ?_, fun q a b => ?_, fun q p a b a' b' => ?_, fun p t a b a' b' => ?_, fun p a b => ?_, fun p a b => ?_⟩, ⟨?_, ?_, ?_, ?_, ?_, ?_, fun t a b => ?_, fun q a b => ?_, fun q p a b a' b' => ?_, fun p t a b a' b' => ?_, fun p a b => ?_⟩, ?_, fun z => ?_⟩
  · (try simp (disch := omega) only [up_ne, up_eq]); omega
  · (try simp (disch := omega) only [up_ne, up_eq]); omega
  · (try simp (disch := omega) only [up_ne, up_eq]); omega
  · (try simp (disch := omega) only [up_ne, up_eq]); omega
  · (try simp (disch := omega) only [up_ne, up_eq]); omega
  · (try simp (disch := omega) only [up_ne, up_eq]); omega
  · (try simp (disch := omega) only [up_ne, up_eq] at b); (try simp (disch := omega) only [up_ne, up_eq]); exact v7 t a b
  · (try simp (disch := omega) only [up_ne, up_eq]); exact v8 q a b
  · by_cases e : q = k ∧ p = j
    · obtain ⟨rfl, rfl⟩ := e; simp (disch := omega) only [up_ne, up_eq]; omega
    · simp (disch := omega) only [up_ne, up_eq]; exact v9 q p a b a' b'
  · (try simp (disch := omega) only [up_ne, up_eq]); exact v10 p t a b a' b'
  · (try simp (disch := omega) only [up_ne, up_eq]); exact v11 p a b
  · (try simp (disch := omega) only [up_ne, up_eq]); exact v12 p a b
  · (try simp (disch := omega) only [up_ne, up_eq]) <;> first | exact r1 | omega
  · (try simp (disch := omega) only [up_ne, up_eq]) <;> first | exact r2 | omega
  · (try simp (disch := omega) only [up_ne, up_eq]) <;> first | exact r3 | omega
  · (try simp (disch := omega) only [up_ne, up_eq]) <;> first | exact r4 | omega
  · (try simp (disch := omega) only [up_ne, up_eq]) <;> first | exact r5 | omega
  · (try simp (disch := omega) only [up_ne, up_eq]) <;> first | exact r6 | omega
  · (try simp (disch := omega) only [up_ne, up_eq] at b); (try simp (disch := omega) only [up_ne, up_eq]); exact r7 t a b
  · (try simp (disch := omega) only [up_ne, up_eq]); exact r8 q a b
  · by_cases e : q = k ∧ p = j
    · obtain ⟨rfl, rfl⟩ := e; simp (disch := omega) only [up_ne, up_eq]; unfold de; rw [if_neg (by omega)]
    · simp (disch := omega) only [up_ne, up_eq]; exact r9 q p a b a' b'
  · (try simp (disch := omega) only [up_ne, up_eq]); exact r10 p t a b a' b'
  · (try simp (disch := omega) only [up_ne, up_eq]); exact r11 p a b
  · (try simp (disch := omega) only [up_ne, up_eq]); exact u1
  · (try simp (disch := omega) only [up_ne, up_eq] at z); exact absurd z n6
theorem LV_need {s g : fx_H} {k j v : Int} (k0 : 0 ≤ k) (k1 : k < 5) (j0 : 0 ≤ j) (j1 : j < s 20 0) (h0 : 0 ≤ v) (h1 : v ≤ s 20 3 - sumI 9 (fun t => s (30 + k) t) + s (30 + k) j) (n6 : ¬ s 41 6 = 0)  (h : LV s g) : LV (fx_up s (30 + k) j v) (fx_up g 142 (44 + 9 * k + j) v) := by
  obtain ⟨⟨⟨v1, v1'⟩, ⟨v2, v2'⟩, ⟨v3, v3'⟩, ⟨v4, v4'⟩, ⟨v5, v5'⟩, v6, v7, v8, v9, v10, v11, v12⟩, ⟨r1, r2, r3, r4, r5, r6, r7, r8, r9, r10, r11⟩, u1, u2⟩ := h
  refine ⟨⟨?_, ?_, ?_, ?_, ?_, ?_, fun t a b => ?_, fun q a b => ?_, fun q p a b a' b' => ?_, fun p t a b a' b' => ?_, fun p a b => ?_, fun p a b => ?_⟩, ⟨?_, ?_, ?_, ?_, ?_, ?_, fun t a b => ?_, fun q a b => ?_, fun q p a b a' b' => ?_, fun p t a b a' b' => ?_, fun p a b => ?_⟩, ?_, fun z => ?_⟩
  · (try simp (disch := omega) only [up_ne, up_eq]); omega
  · (try simp (disch := omega) only [up_ne, up_eq]); omega
  · (try simp (disch := omega) only [up_ne, up_eq]); omega
  · (try simp (disch := omega) only [up_ne, up_eq]); omega
  · (try simp (disch := omega) only [up_ne, up_eq]); omega
  · (try simp (disch := omega) only [up_ne, up_eq]); omega
  · (try simp (disch := omega) only [up_ne, up_eq] at b); (try simp (disch := omega) only [up_ne, up_eq]); exact v7 t a b
  · (try simp (disch := omega) only [up_ne, up_eq]); exact v8 q a b
  · (try simp (disch := omega) only [up_ne, up_eq]); exact v9 q p a b a' b'
  · by_cases e : p = k ∧ t = j
    · obtain ⟨rfl, rfl⟩ := e; simp (disch := omega) only [up_ne, up_eq]; omega
    · simp (disch := omega) only [up_ne, up_eq]; exact v10 p t a b a' b'
  · by_cases e : p = k
    · subst e
      rw [sum_upd (f := fun t => s (30 + p) t) (j := j) (v := v) j0 (fun i => by
        by_cases e2 : i = j
        · subst e2; rw [if_pos rfl]; simp (disch := omega) only [up_ne, up_eq]
        · rw [if_neg e2]; simp (disch := omega) only [up_ne, up_eq]) (by omega)]
      simp (disch := omega) only [up_ne, up_eq]
      omega
    · simp (disch := omega) only [up_ne, up_eq]; exact v11 p a b
  · (try simp (disch := omega) only [up_ne, up_eq]); exact v12 p a b
  · (try simp (disch := omega) only [up_ne, up_eq]) <;> first | exact r1 | omega
  · (try simp (disch := omega) only [up_ne, up_eq]) <;> first | exact r2 | omega
  · (try simp (disch := omega) only [up_ne, up_eq]) <;> first | exact r3 | omega
  · (try simp (disch := omega) only [up_ne, up_eq]) <;> first | exact r4 | omega
  · (try simp (disch := omega) only [up_ne, up_eq]) <;> first | exact r5 | omega
  · (try simp (disch := omega) only [up_ne, up_eq]) <;> first | exact r6 | omega
  · (try simp (disch := omega) only [up_ne, up_eq] at b); (try simp (disch := omega) only [up_ne, up_eq]); exact r7 t a b
  · (try simp (disch := omega) only [up_ne, up_eq]); exact r8 q a b
  · (try simp (disch := omega) only [up_ne, up_eq]); exact r9 q p a b a' b'
  · by_cases e : p = k ∧ t = j
    · obtain ⟨rfl, rfl⟩ := e; simp (disch := omega) only [up_ne, up_eq]
    · simp (disch := omega) only [up_ne, up_eq]; exact r10 p t a b a' b'
  · (try simp (disch := omega) only [up_ne, up_eq]); exact r11 p a b
  · (try simp (disch := omega) only [up_ne, up_eq]); exact u1
  · (try simp (disch := omega) only [up_ne, up_eq] at z); exact absurd z n6
theorem LV_thing {s g : fx_H} {v : Int} (h0 : -1 ≤ v) (h1 : v < s 20 0) (h2 : s 20 0 < 9) (h : LV s g) : LV (fx_up (fx_up s 21 (s 20 0) v) 20 0 (s 20 0 + 1)) (fx_up (fx_up g 142 (1 + s 20 0) v) 142 0 (s 20 0 + 1)) := by
  obtain ⟨⟨⟨v1, v1'⟩, ⟨v2, v2'⟩, ⟨v3, v3'⟩, ⟨v4, v4'⟩, ⟨v5, v5'⟩, v6, v7, v8, v9, v10, v11, v12⟩, ⟨r1, r2, r3, r4, r5, r6, r7, r8, r9, r10, r11⟩, u1, u2⟩ := h
  refine ⟨⟨?_, ?_, ?_, ?_, ?_, ?_, fun t a b => ?_, fun q a b => ?_, fun q p a b a' b' => ?_, fun p t a b a' b' => ?_, fun p a b => ?_, fun p a b => ?_⟩, ⟨?_, ?_, ?_, ?_, ?_, ?_, fun t a b => ?_, fun q a b => ?_, fun q p a b a' b' => ?_, fun p t a b a' b' => ?_, fun p a b => ?_⟩, ?_, fun z => ?_⟩
  · (try simp (disch := omega) only [up_ne, up_eq]); omega
  · (try simp (disch := omega) only [up_ne, up_eq]); omega
  · (try simp (disch := omega) only [up_ne, up_eq]); omega
  · (try simp (disch := omega) only [up_ne, up_eq]); omega
  · (try simp (disch := omega) only [up_ne, up_eq]); omega
  · (try simp (disch := omega) only [up_ne, up_eq]); omega
  · simp (disch := omega) only [up_ne, up_eq] at b
    by_cases e : t = s 20 0
    · subst e; simp (disch := omega) only [up_ne, up_eq]; omega
    · simp (disch := omega) only [up_ne, up_eq]; exact v7 t a (by omega)
  · (try simp (disch := omega) only [up_ne, up_eq]); exact v8 q a b
  · simp (disch := omega) only [up_ne, up_eq]
    have := v9 q p a b a' b'
    omega
  · simp (disch := omega) only [up_ne, up_eq]
    have := v10 p t a b a' b'
    omega
  · (try simp (disch := omega) only [up_ne, up_eq]); exact v11 p a b
  · (try simp (disch := omega) only [up_ne, up_eq]); exact v12 p a b
  · (try simp (disch := omega) only [up_ne, up_eq]) <;> first | exact r1 | omega
  · (try simp (disch := omega) only [up_ne, up_eq]) <;> first | exact r2 | omega
  · (try simp (disch := omega) only [up_ne, up_eq]) <;> first | exact r3 | omega
  · (try simp (disch := omega) only [up_ne, up_eq]) <;> first | exact r4 | omega
  · (try simp (disch := omega) only [up_ne, up_eq]) <;> first | exact r5 | omega
  · (try simp (disch := omega) only [up_ne, up_eq]) <;> first | exact r6 | omega
  · simp (disch := omega) only [up_ne, up_eq] at b
    by_cases e : t = s 20 0
    · subst e; simp (disch := omega) only [up_ne, up_eq]
    · simp (disch := omega) only [up_ne, up_eq]; exact r7 t a (by omega)
  · (try simp (disch := omega) only [up_ne, up_eq]); exact r8 q a b
  · (try simp (disch := omega) only [up_ne, up_eq]); exact r9 q p a b a' b'
  · (try simp (disch := omega) only [up_ne, up_eq]); exact r10 p t a b a' b'
  · (try simp (disch := omega) only [up_ne, up_eq]); exact r11 p a b
  · (try simp (disch := omega) only [up_ne, up_eq]); exact u1
  · (try simp (disch := omega) only [up_ne, up_eq] at z)
    obtain ⟨z1, z2, z3⟩ := u2 z
    exact ⟨by (try simp (disch := omega) only [up_ne, up_eq]); exact z1, fun q a b => by (try simp (disch := omega) only [up_ne, up_eq]); exact z2 q a b, fun p t a b a' b' => by (try simp (disch := omega) only [up_ne, up_eq]); exact z3 p t a b a' b'⟩
