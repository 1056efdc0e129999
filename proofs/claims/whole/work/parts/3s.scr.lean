-- needs: 3r
/-! ===== calls that only look ===== -/
def FrL (C : fx_H → Prop) : Prop := ∀ h h' : fx_H, (∀ a i : Int, (1 ≤ a ∧ a ≤ 19) ∨ (a = 48 ∧ (i = 2 ∨ i = 4)) ∨ (55 ≤ a ∧ a ≤ 60) → h' a i = h a i) → C h → C h'
def FrP (C : fx_H → Prop) : Prop := ∀ h h' : fx_H, (∀ a i : Int, (1 ≤ a ∧ a ≤ 19) ∨ (a = 84 ∧ (i = 0 ∨ i = 5)) ∨ a = 85 → h' a i = h a i) → C h → C h'
theorem FrL_C {C : fx_H → Prop} (h : FrL C) : FrC C := fun a b e c => h a b (fun x i q => e x i (by omega)) c
theorem FrP_C {C : fx_H → Prop} (h : FrP C) : FrC C := fun a b e c => h a b (fun x i q => e x i (by omega)) c
/-- what a call that only looks leaves as it is -/
def KP (a i : Int) : Prop := a = 0 ∨ (1 ≤ a ∧ a ≤ 19) ∨ a = 40 ∨ (a = 41 ∧ i = 1) ∨ a = 42 ∨ (a = 48 ∧ (i = 2 ∨ i = 4 ∨ i = 5)) ∨ (55 ≤ a ∧ a ≤ 60) ∨ (a = 84 ∧ (i = 0 ∨ i = 4 ∨ i = 5)) ∨ a = 85 ∨ (88 ≤ a ∧ a ≤ 125) ∨ (a = 126 ∧ (i = 17 ∨ i = 1000004 ∨ i = 1000005)) ∨ (127 ≤ a ∧ a ≤ 130) ∨ a = 141
theorem Rel_scr {CL CP : fx_H → Prop} {k : Int} {h h' : fx_H} (hL : FrL CL) (hP : FrP CP) (R : Rel CL CP k h) (e : ∀ a i : Int, KP a i → h' a i = h a i) (rs : RS h') : Rel CL CP k h' := by
  obtain ⟨r1, r2, r3, ⟨r4, r4'⟩, r5, r6, ⟨r7, r8⟩, ⟨r9, r10⟩, r11, r12⟩ := R
  have hb := r1
  unfold TV at hb
  have e : ∀ a i : Int, a = 0 ∨ (1 ≤ a ∧ a ≤ 19) ∨ a = 40 ∨ (a = 41 ∧ i = 1) ∨ a = 42 ∨ (a = 48 ∧ (i = 2 ∨ i = 4 ∨ i = 5)) ∨ (55 ≤ a ∧ a ≤ 60) ∨ (a = 84 ∧ (i = 0 ∨ i = 4 ∨ i = 5)) ∨ a = 85 ∨ (88 ≤ a ∧ a ≤ 125) ∨ (a = 126 ∧ (i = 17 ∨ i = 1000004 ∨ i = 1000005)) ∨ (127 ≤ a ∧ a ≤ 130) ∨ a = 141 → h' a i = h a i := e
  have ec : h' 0 13 = h 0 13 := e 0 13 (by omega)
  refine ⟨TV_congr (fun a i _ _ => e a i (by omega)) r1, TR_congr (fun a i _ _ => e a i (by omega)) (fun i _ _ => e 127 i (by omega)) ⟨hb.1.2, hb.2.2.2.2.2.1.2⟩ r2, RI_congr (fun a i q => e a i (by omega)) r3, ?_, ?_, rs, ?_⟩
  · unfold RN
    rw [e 0 10 (by omega), e 0 11 (by omega), e 0 12 (by omega), e 0 1000008 (by omega), e 0 1000009 (by omega), e 130 0 (by omega), e 130 1 (by omega), e 130 2 (by omega), e 126 1000004 (by omega), e 126 1000005 (by omega)]
    exact ⟨r4, r4'⟩
  · unfold RT at r5 ⊢
    rw [e 126 17 (by omega), e 41 1 (by omega)]
    exact ⟨r5.1, fun i a b => by rw [e 141 _ (by omega), e 42 _ (by omega)]; exact r5.2 i a b⟩
  · unfold RC
    rw [ec, e 48 5 (by omega), e 84 4 (by omega)]
    exact ⟨⟨r7, r8⟩, ⟨r9, fun q => hL h h' (fun a i q => e a i (by omega)) (r10 q)⟩, ⟨r11, fun q => hP h h' (fun a i q => e a i (by omega)) (r12 q)⟩⟩
/-- the reference's town in g is the class's town in h -/
def TR2 (h g : fx_H) : Prop := g 127 0 = h 1 0 ∧ g 127 12 = h 1 1 ∧ g 127 10 = h 1 2 ∧ g 127 11 = h 1 3 ∧ g 127 13 = h 1 4 ∧
  (∀ t : Int, 0 ≤ t → t < h 1 0 → g 127 (1 + t) = h 2 t) ∧ (∀ q : Int, 0 ≤ q → q < 5 → g 127 (14 + q) = h 3 q) ∧
  (∀ q p : Int, 0 ≤ q → q < 5 → 0 ≤ p → p < 5 → g 127 (19 + 5 * p + q) = de (h (5 + q) p)) ∧
  (∀ p t : Int, 0 ≤ p → p < 5 → 0 ≤ t → t < 9 → g 127 (44 + 9 * p + t) = h (11 + p) t) ∧
  (∀ p : Int, 0 ≤ p → p < 5 → g 127 (89 + p) = h 16 p)
theorem TR2_of {h g : fx_H} (r : TR 1 127 0 g) (e : ∀ a i : Int, 1 ≤ a → a ≤ 19 → g a i = h a i) : TR2 h g := by
  unfold TR at r
  obtain ⟨r1, r2, r3, r4, r5, r6, r7, r8, r9, r10, r11, r12⟩ := r
  simp only [Int.zero_add] at r1 r2 r3 r4 r5 r7 r8 r9 r10 r11
  have e1 : ∀ i : Int, g 1 i = h 1 i := fun i => e 1 i (by omega) (by omega)
  simp only [e1] at r1 r2 r3 r4 r5 r7
  refine ⟨r1, r2, r3, r4, r5, fun t a b => ?_, fun q a b => ?_, fun q p a b a' b' => ?_, fun p t a b a' b' => ?_, fun p a b => ?_⟩
  · rw [r7 t a b, e _ _ (by omega) (by omega)]; rfl
  · rw [r8 q a b, e _ _ (by omega) (by omega)]; rfl
  · rw [r9 q p a b a' b', e _ _ (by omega) (by omega), show (1 : Int) + 4 + q = 5 + q by omega]
  · rw [r10 p t a b a' b', e _ _ (by omega) (by omega), show (1 : Int) + 10 + p = 11 + p by omega]
  · rw [r11 p a b, e _ _ (by omega) (by omega)]; rfl
theorem TR2_congr {h g g' : fx_H} (e : ∀ i : Int, g' 127 i = g 127 i) (r : TR2 h g) : TR2 h g' := by
  unfold TR2 at r ⊢
  simp only [e]
  exact r
/-- what the town says, in short -/
def smT (h : fx_H) (line fr : Int) : Int → Int := SM (uF (h 2) fr) line
theorem sit_ok {h : fx_H} {line fr : Int} (v : TV 1 h) (rs : RS h) : Ret (f_X0_sit FU La_167 43 1 line fr h) (fun h' => (∀ a i : Int, ¬ (a = 43 ∧ (i = 4 ∨ i = 5)) → a ≠ 44 → a ≠ 45 → h' a i = h a i) ∧ CT (smT h line fr) (h 1 0) (h 1 2) (h 1 4) h') := by
  refine (ev_sit v).mono (fun h' ⟨e1, e2, e3, e4, e5⟩ => ⟨e1, e2, e3, fun q a b => ?_, fun t q => ?_⟩)
  · rw [e1 _ _ (by omega) (by omega) (by omega)]; exact rs.1 q a b
  · unfold TV at v
    obtain ⟨⟨v1, v1'⟩, -⟩ := v
    unfold smT
    rcases q with ⟨a, b⟩ | rfl
    · rw [SM_t (by omega)]; exact e5 t a b
    · rw [SM_9]; exact e4
theorem layLine_ok {h g : fx_H} {line fr : Int} (v : TV 1 h) (r : TR2 h g) (l0 : 0 ≤ line) : Ret (f_X6_layLine FU La_167 126 line fr g) (fun g' => (∀ a i : Int, a ≠ 131 → a ≠ 132 → g' a i = g a i) ∧ SOK (smT h line fr) (h 1 0) g') := by
  unfold TV at v
  obtain ⟨⟨v1, v1'⟩, -, -, -, -, -, v7, -⟩ := v
  obtain ⟨r1, -, -, -, -, r6, -⟩ := r
  refine (ev_layLine (w := h 2) (fr := fr) r1 v1 v1' l0 (fun t a b => ⟨r6 t a b, v7 t a b⟩)).mono (fun g' ⟨e1, e2⟩ => ⟨e1, fun t a b => ?_⟩)
  unfold smT
  rw [SM_t (by omega)]
  exact e2 t a b
theorem layNow_ok {h g : fx_H} (v : TV 1 h) (r : TR2 h g) : Ret (f_X6_layNow FU La_167 126 g) (fun g' => (∀ a i : Int, a ≠ 131 → a ≠ 132 → g' a i = g a i) ∧ SOK (smT h (h 1 1) (-1)) (h 1 0) g') := by
  have l0 : 0 ≤ h 1 1 := by unfold TV at v; exact v.2.1.1
  have r2 := r.2.1
  unfold f_X6_layNow
  rw [lb_tg_126_0, rd127 (by omega) (by omega), Option.bind_some, r2]
  obtain ⟨g', e, p⟩ := layLine_ok (fr := -1) v r l0
  rw [e]
  exact Ret.ok p
theorem SOK_congr {sm : Int → Int} {T : Int} {g g' : fx_H} (e : ∀ i : Int, g' 132 i = g 132 i) (s : SOK sm T g) : SOK sm T g' := fun t a b => by rw [e]; exact s t a b
theorem CT_congr {sm : Int → Int} {T P ri : Int} {h h' : fx_H} (e : ∀ a i : Int, a = 43 ∧ (i = 4 ∨ i = 5) ∨ a = 44 ∨ a = 46 → h' a i = h a i) (c : CT sm T P ri h) : CT sm T P ri h' := by
  obtain ⟨c1, c2, c3, c4⟩ := c
  exact ⟨by rw [e _ _ (by omega)]; exact c1, by rw [e _ _ (by omega)]; exact c2, fun q a b => by rw [e _ _ (by omega)]; exact c3 q a b, fun t q => by rw [e _ _ (by omega)]; exact c4 t q⟩
theorem en_de {v : Int} (h : 0 ≤ v) : en (de v) = v := by
  unfold de en
  by_cases c : v = 9
  · rw [if_pos c, if_pos rfl, c]
  · rw [if_neg c, if_neg (by omega)]
theorem de_b {v T : Int} (h0 : 0 ≤ v) (h9 : v ≤ 9) (hT : v = 9 ∨ v < T) (T0 : 0 ≤ T) : -1 ≤ de v ∧ de v < T := by
  unfold de
  by_cases c : v = 9
  · rw [if_pos c]; omega
  · rw [if_neg c]; omega
/-- the town's own day is well -/
theorem DOK_town {h : fx_H} (v : TV 1 h) : DOK (h 1 0) h 4 := fun hr q a b a' b' => by
  unfold TV at v
  obtain ⟨-, -, -, -, -, -, -, -, v9, -⟩ := v
  exact v9 hr q a b a' b'
theorem DOK_congr {T d : Int} {h h' : fx_H} (e : ∀ a i : Int, d < a → a ≤ d + 5 → h' a i = h a i) (D : DOK T h d) : DOK T h' d := fun hr q a b a' b' => by rw [e _ _ (by omega) (by omega)]; exact D hr q a b a' b'
/-- what is done, in the reference's hand -/
theorem hand_done {h g g' : fx_H} (v : TV 1 h) (r : TR2 h g) (e : ∀ i : Int, 0 ≤ i → i < 25 → g' 133 i = g 127 (19 + i)) : HOK (h 1 0) 5 g' ∧ ∀ hr q : Int, 0 ≤ hr → hr < 5 → 0 ≤ q → q < 5 → hn g' hr q = dF h 4 hr q := by
  have D := DOK_town v
  unfold TV at v
  obtain ⟨⟨v1, -⟩, -⟩ := v
  obtain ⟨-, -, -, -, -, -, -, r8, -⟩ := r
  have k : ∀ hr q : Int, 0 ≤ hr → hr < 5 → 0 ≤ q → q < 5 → g' 133 (5 * q + hr) = de (h (5 + hr) q) := fun hr q a b a' b' => by
    rw [e _ (by omega) (by omega), show (19 : Int) + (5 * q + hr) = 19 + 5 * q + hr by omega]; exact r8 hr q a b a' b'
  refine ⟨fun q hr a b a' b' => ?_, fun hr q a b a' b' => ?_⟩
  · have := D hr q a' b' a b
    rw [show (4 : Int) + 1 + hr = 5 + hr by omega] at this
    rw [k hr q a' b' a b]
    exact de_b this.1 this.2.1 this.2.2 v1
  · have := D hr q a b a' b'
    rw [show (4 : Int) + 1 + hr = 5 + hr by omega] at this
    unfold hn dF
    rw [k hr q a b a' b', en_de this.1]
    rfl
theorem HOK_le {T P P' : Int} {g : fx_H} (h : P' ≤ P) (H : HOK T P g) : HOK T P' g := fun q hr a b c d => H q hr a (by omega) c d
/-- a look: the class answers A and leaves what is kept; so does the reference -/
theorem sm_look {CL CP : fx_H → Prop} {k : Int} {h : fx_H} {x : Option (Int × fx_H)} {y : fx_H → Option (Int × fx_H)} (hL : FrL CL) (hP : FrP CP) (R : Rel CL CP k h) (A : Int)
    (hx : Ret x (fun r => r.1 = A ∧ (∀ a i : Int, KP a i → r.2 a i = h a i) ∧ RS r.2)) (hy : ∀ g : fx_H, TR2 h g → RS g → (∀ a i : Int, KP a i → g a i = h a i) → Ret (y g) (fun q => q.1 = A ∧ ∀ a i : Int, ¬ (131 ≤ a ∧ a ≤ 140) → q.2 a i = g a i)) : Sm CL CP k x y := by
  obtain ⟨⟨v, h1⟩, rfl, e1, e2, e3⟩ := hx
  simp only at e1 e2 e3
  refine Ret.ok ?_
  have R1 := Rel_scr hL hP R e2 e3
  refine (hy h1 (TR2_of R1.2.1 (fun a i a0 a1 => e2 a i (by unfold KP; omega))) e3 e2).mono (fun q ⟨q1, q2⟩ => ⟨by rw [q1, e1], Rel_inc (Rel_scr hL hP R1 (fun a i z => q2 a i (by unfold KP at z; omega)) (RS_congr (fun a i z => q2 a i (by omega)) e3))⟩)
