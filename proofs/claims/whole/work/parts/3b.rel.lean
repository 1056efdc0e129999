/-! ===== the relation between class and reference ===== -/
def de (v : Int) : Int := if v = 9 then -1 else v
def sumI (n : Nat) (f : Int → Int) : Int := match n with
  | 0 => 0
  | k + 1 => sumI k f + f k
theorem sumI_congr {f g : Int → Int} : ∀ {n : Nat}, (∀ i : Int, 0 ≤ i → i < n → f i = g i) → sumI n f = sumI n g
  | 0, _ => rfl
  | n + 1, h => by
    show sumI n f + f n = sumI n g + g n
    rw [sumI_congr (n := n) (fun i h0 h1 => h i h0 (by omega)), h n (by omega) (by omega)]
/-- a town of the class is as a town is -/
def TV (c : Int) (h : fx_H) : Prop :=
  (0 ≤ h c 0 ∧ h c 0 ≤ 9) ∧ (0 ≤ h c 1 ∧ h c 1 ≤ 4) ∧ (1 ≤ h c 2 ∧ h c 2 ≤ 5) ∧ (1 ≤ h c 3 ∧ h c 3 ≤ 5) ∧ (0 ≤ h c 4 ∧ h c 4 < h c 2) ∧ (0 ≤ h c 5 ∧ h c 5 ≤ 10) ∧
  (∀ t : Int, 0 ≤ t → t < h c 0 → -1 ≤ h (c + 1) t ∧ h (c + 1) t < t) ∧
  (∀ q : Int, 0 ≤ q → q < 5 → 0 ≤ h (c + 2) q ∧ h (c + 2) q ≤ 5 ∧ (h c 3 ≤ q → h (c + 2) q = 0)) ∧
  (∀ q p : Int, 0 ≤ q → q < 5 → 0 ≤ p → p < 5 → 0 ≤ h (c + 4 + q) p ∧ h (c + 4 + q) p ≤ 9 ∧ (h (c + 4 + q) p = 9 ∨ h (c + 4 + q) p < h c 0)) ∧
  (∀ p t : Int, 0 ≤ p → p < 5 → 0 ≤ t → t < 9 → 0 ≤ h (c + 10 + p) t ∧ (h c 0 ≤ t → h (c + 10 + p) t = 0)) ∧
  (∀ p : Int, 0 ≤ p → p < 5 → sumI 9 (fun t => h (c + 10 + p) t) ≤ h c 3) ∧
  (∀ p : Int, 0 ≤ p → p < 5 → 0 ≤ h (c + 15) p ∧ h (c + 15) p ≤ 40) ∧
  (∀ k : Int, 0 ≤ k → k < h c 5 → 0 ≤ h (c + 16) k ∧ h (c + 16) k < h c 2 ∧ 0 ≤ h (c + 17) k ∧ h (c + 17) k < h c 3 ∧ 0 ≤ h (c + 18) k ∧ h (c + 18) k ≤ 9 ∧ (h (c + 18) k = 9 ∨ h (c + 18) k < h c 0))
/-- the row of the reference, from place o of cell a on, tells the town c of the class -/
def TR (c a o : Int) (h : fx_H) : Prop :=
  h a o = h c 0 ∧ h a (o + 12) = h c 1 ∧ h a (o + 10) = h c 2 ∧ h a (o + 11) = h c 3 ∧ h a (o + 13) = h c 4 ∧ h a (o + 94) = h c 5 ∧
  (∀ t : Int, 0 ≤ t → t < h c 0 → h a (o + 1 + t) = h (c + 1) t) ∧
  (∀ q : Int, 0 ≤ q → q < 5 → h a (o + 14 + q) = h (c + 2) q) ∧
  (∀ q p : Int, 0 ≤ q → q < 5 → 0 ≤ p → p < 5 → h a (o + 19 + 5 * p + q) = de (h (c + 4 + q) p)) ∧
  (∀ p t : Int, 0 ≤ p → p < 5 → 0 ≤ t → t < 9 → h a (o + 44 + 9 * p + t) = h (c + 10 + p) t) ∧
  (∀ p : Int, 0 ≤ p → p < 5 → h a (o + 89 + p) = h (c + 15) p) ∧
  (∀ k : Int, 0 ≤ k → k < h c 5 → h a (o + 95 + 3 * k) = h (c + 16) k ∧ h a (o + 95 + 3 * k + 1) = h (c + 17) k ∧ h a (o + 95 + 3 * k + 2) = de (h (c + 18) k))
/-- TV and TR look at their cells alone -/
theorem TV_congr {c : Int} {h h' : fx_H} (e : ∀ a i : Int, c ≤ a → a ≤ c + 18 → h' a i = h a i) (hv : TV c h) : TV c h' := by
  unfold TV at hv ⊢
  obtain ⟨h1, h2, h3, h4, h5, h6, h7, h8, h9, h10, h11, h12, h13⟩ := hv
  have ec : ∀ i, h' c i = h c i := fun i => e c i (by omega) (by omega)
  simp only [ec]
  refine ⟨h1, h2, h3, h4, h5, h6, fun t a b => ?_, fun q a b => ?_, fun q p a b a' b' => ?_, fun p t a b a' b' => ?_, fun p a b => ?_, fun p a b => ?_, fun k a b => ?_⟩
  · rw [e _ _ (by omega) (by omega)]; exact h7 t a b
  · rw [e _ _ (by omega) (by omega)]; exact h8 q a b
  · rw [e _ _ (by omega) (by omega)]; exact h9 q p a b a' b'
  · rw [e _ _ (by omega) (by omega)]; exact h10 p t a b a' b'
  · rw [sumI_congr (g := fun t => h (c + 10 + p) t) (fun t _ _ => e _ _ (by omega) (by omega))]; exact h11 p a b
  · rw [e _ _ (by omega) (by omega)]; exact h12 p a b
  · rw [e _ _ (by omega) (by omega), e (c + 17) _ (by omega) (by omega), e (c + 18) _ (by omega) (by omega)]; exact h13 k a b
theorem TR_congr {c a o : Int} {h h' : fx_H} (e : ∀ b i : Int, c ≤ b → b ≤ c + 18 → h' b i = h b i) (e2 : ∀ i : Int, o ≤ i → i < o + 125 → h' a i = h a i) (hc5 : h c 0 ≤ 9 ∧ h c 5 ≤ 10) (hr : TR c a o h) : TR c a o h' := by
  unfold TR at hr ⊢
  obtain ⟨h1, h2, h3, h4, h5, h6, h7, h8, h9, h10, h11, h12⟩ := hr
  have ec : ∀ i, h' c i = h c i := fun i => e c i (by omega) (by omega)
  simp only [ec]
  refine ⟨?_, ?_, ?_, ?_, ?_, ?_, fun t a' b => ?_, fun q a' b => ?_, fun q p a' b a'' b' => ?_, fun p t a' b a'' b' => ?_, fun p a' b => ?_, fun k a' b => ?_⟩
  · rw [e2 _ (by omega) (by omega)]; exact h1
  · rw [e2 _ (by omega) (by omega)]; exact h2
  · rw [e2 _ (by omega) (by omega)]; exact h3
  · rw [e2 _ (by omega) (by omega)]; exact h4
  · rw [e2 _ (by omega) (by omega)]; exact h5
  · rw [e2 _ (by omega) (by omega)]; exact h6
  · rw [e2 _ (by omega) (by omega), e _ _ (by omega) (by omega)]; exact h7 t a' b
  · rw [e2 _ (by omega) (by omega), e _ _ (by omega) (by omega)]; exact h8 q a' b
  · rw [e2 _ (by omega) (by omega), e _ _ (by omega) (by omega)]; exact h9 q p a' b a'' b'
  · rw [e2 _ (by omega) (by omega), e _ _ (by omega) (by omega)]; exact h10 p t a' b a'' b'
  · rw [e2 _ (by omega) (by omega), e _ _ (by omega) (by omega)]; exact h11 p a' b
  · rw [e2 _ (by omega) (by omega), e2 (o + 95 + 3 * k + 1) (by omega) (by omega), e2 (o + 95 + 3 * k + 2) (by omega) (by omega), e _ _ (by omega) (by omega), e (c + 17) _ (by omega) (by omega), e (c + 18) _ (by omega) (by omega)]; exact h12 k a' b
/-- what looks at the town and at the scratch rows of the class alone -/
def FrC (C : fx_H → Prop) : Prop := ∀ h h' : fx_H, (∀ a i : Int, (1 ≤ a ∧ a ≤ 19) ∨ (48 ≤ a ∧ a ≤ 87) → h' a i = h a i) → C h → C h'
/-- all but the town: images -/
def RI (h : fx_H) : Prop := ∀ i : Int, 0 ≤ i → i < 2 → h 129 i = h 40 i ∧ (h 40 i = 0 ∨ h 40 i = 1) ∧ (h 40 i = 1 → TV (88 + 19 * i) h ∧ TR (88 + 19 * i) 128 (125 * i) h)
/-- refusals, parts, text -/
def RN (h : fx_H) : Prop := (h 0 10 = h 130 0 ∧ h 0 11 = h 130 1 ∧ h 0 12 = h 130 2) ∧ (h 0 1000008 = h 126 1000004 ∧ h 0 1000009 = h 126 1000005)
def RT (h : fx_H) : Prop := (h 126 17 = h 41 1 ∧ 0 ≤ h 41 1 ∧ h 41 1 ≤ 250) ∧ ∀ i : Int, 0 ≤ i → i < h 41 1 → 0 ≤ h 141 i ∧ h 141 i ≤ 255 ∧ h 42 i = fx_b (h 141 i)
/-- what the class's scratch keeps -/
def RS (h : fx_H) : Prop := (∀ p : Int, 0 ≤ p → p < 5 → h 46 p = 9) ∧ ∀ p q : Int, 0 ≤ p → p < 5 → 0 ≤ q → q < 5 → h (79 + p) (q * 10 + 9) = 0
/-- what was searched before -/
def RC (CL CP : fx_H → Prop) (k : Int) (h : fx_H) : Prop := (0 ≤ h 0 13 ∧ h 0 13 ≤ k) ∧ (h 48 5 ≤ h 0 13 ∧ (h 48 5 = h 0 13 → CL h)) ∧ (h 84 4 ≤ h 0 13 ∧ (h 84 4 = h 0 13 → CP h))
def Rel (CL CP : fx_H → Prop) (k : Int) (h : fx_H) : Prop := TV 1 h ∧ TR 1 127 0 h ∧ RI h ∧ RN h ∧ RT h ∧ RS h ∧ RC CL CP k h
