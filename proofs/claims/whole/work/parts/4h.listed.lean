-- needs: 4g
/-! ===== class and reference take alike ===== -/
/-- prices where nothing is done are 0 -/
def P9 (h : fx_H) : Prop := ∀ p q : Int, 0 ≤ p → p < 5 → 0 ≤ q → q < 5 → h (79 + p) (q * 10 + 9) = 0
theorem prs_of {h h' : fx_H} {sm : Int → Int} {D : Int → Int → Int} {p T P ri n : Int} (T9 : T ≤ 9) (n5 : n ≤ 5) (p0 : 0 ≤ p) (p5 : p < 5) (hp : P9 h) (e1 : ∀ a i : Int, ¬ (a = 79 + p ∧ ∃ r t : Int, 0 ≤ r ∧ r < 5 ∧ 0 ≤ t ∧ t < 9 ∧ i = r * 10 + t) → h' a i = h a i) (e2 : ∀ hr t : Int, 0 ≤ hr → hr < n → 0 ≤ t → t < T → h' (79 + p) (hr * 10 + t) = FI sm (kdF h hr) (D hr) (AH D hr) P ri p t) : PRS sm (kdF h) D T P ri n p h' ∧ P9 h' := by
  have h9 : ∀ q r : Int, 0 ≤ q → q < 5 → 0 ≤ r → r < 5 → h' (79 + q) (r * 10 + 9) = 0 := fun q r a b a' b' => by
    rw [e1 _ _ (fun z => by
      obtain ⟨-, x, y, h1, h2, h3, h4, h5⟩ := z
      omega)]
    exact hp q r a b a' b'
  refine ⟨fun hr t a b c => ?_, h9⟩
  rcases c with ⟨c1, c2⟩ | c
  · exact e2 hr t a b c1 c2
  · rw [c, FI_9, h9 p hr p0 p5 a (by omega)]
/-- what the class's searches of a day leave as it is -/
def CF (h0 h : fx_H) : Prop := ∀ a i : Int, ¬ (50 ≤ a ∧ a ≤ 54) → ¬ ((79 ≤ a ∧ a ≤ 83) ∨ a = 77) → h a i = h0 a i
theorem take_cl {h0 h : fx_H} {sm : Int → Int} {D : Int → Int → Int} {p T P ri n : Int} (v : TV 1 h0) (hT : h0 1 0 = T) (hPp : h0 1 2 = P) (hn : h0 1 3 = n) (hri : h0 1 4 = ri) (hC : CT sm T P ri h0) (hR : RWC h0 h0 n) (hF : CF h0 h) (h9 : P9 h) (hD : CD D h) (hW : DW T D) (p0 : 0 ≤ p) (p1 : p < P) :
    ∃ h1 : fx_H, f_X1_setPrices FU La_167 48 1 43 p h = some h1 ∧ CF h0 h1 ∧ P9 h1 ∧ CD D h1 ∧ f_X1_bestRow FU La_167 48 p n h1 = some (bst sm (kdF h0) (ndF h0) P ri n D p).1 ∧
      f_X1_priceOfRow FU La_167 48 p (bst sm (kdF h0) (ndF h0) P ri n D p).1 n h1 = some (PRr sm (kdF h0) (ndF h0) P ri n D p (bst sm (kdF h0) (ndF h0) P ri n D p).1) ∧ f_X1_priceOfNow FU La_167 48 p n h1 = some (PI sm (kdF h0) D (AH D) P ri p n) ∧
      ∃ h2 : fx_H, f_X1_layRow FU La_167 48 p (bst sm (kdF h0) (ndF h0) P ri n D p).1 n h1 = some h2 ∧ CF h0 h2 ∧ P9 h2 ∧ CD (TK sm (kdF h0) (ndF h0) P ri n D p) h2 ∧ (∀ i : Int, h2 77 i = h 77 i) ∧ ∀ i : Int, h1 77 i = h 77 i := by
  have vv := v
  unfold TV at vv
  obtain ⟨⟨v1, v1'⟩, ⟨v2, v2'⟩, ⟨v3, v3'⟩, ⟨v4, v4'⟩, ⟨v5, v5'⟩, -⟩ := vv
  have hN : NW T P n (ndF h0) := fun q a b => by
    obtain ⟨d1, d2, -⟩ := nd_ok v a (show q < 5 by omega)
    exact ⟨fun t x y => by have := d1 t x y; rw [hT] at this; exact this, by omega⟩
  have f : ∀ a i : Int, ¬ (50 ≤ a ∧ a ≤ 54) → ¬ ((79 ≤ a ∧ a ≤ 83) ∨ a = 77) → h a i = h0 a i := hF
  have vh : TV 1 h := TV_congr (fun a i _ _ => f a i (by omega) (by omega)) v
  obtain ⟨h1, e1, k1, k2⟩ := setPrices_ok (h := h) (sm := sm) (D := D) (p := p) (T := T) (P := P) (ri := ri) (n := n) vh (by rw [f _ _ (by omega) (by omega)]; exact hT) (by rw [f _ _ (by omega) (by omega)]; exact hn) (CT_congr (fun a i z => f a i (by omega) (by omega)) hC) hD hW (by omega) p0 p1 ⟨by omega, by omega⟩
  obtain ⟨p1', p9⟩ := prs_of (by omega) (by omega) p0 (show p < 5 by omega) h9 k1 k2
  have kE : kdF h = kdF h0 := by funext x; unfold kdF; rw [f _ _ (by omega) (by omega)]
  rw [kE] at p1'
  have f1 : ∀ a i : Int, a ≠ 79 + p → h1 a i = h a i := fun a i z => k1 a i (fun q => z q.1)
  have F1 : CF h0 h1 := fun a i x y => by rw [f1 a i (by omega)]; exact f a i x y
  have D1 : CD D h1 := fun a b x y x' y' => by rw [f1 _ _ (by omega)]; exact hD a b x y x' y'
  obtain ⟨c1, c2⟩ := hR p p0 (by omega)
  have c1' : h1 73 p = cnF (ndF h0 p) n := by rw [F1 _ _ (by omega) (by omega)]; exact c1
  have c2' : ∀ i j : Int, 0 ≤ i → i < cnF (ndF h0 p) n → 0 ≤ j → j < n → h1 (68 + p) (5 * i + j) = rwF (ndF h0 p) n i j := fun i j a b a' b' => by rw [F1 _ _ (by omega) (by omega)]; exact c2 i j a b a' b'
  obtain ⟨b0, b1⟩ := bst_b (sm := sm) (kd := kdF h0) (ri := ri) (D := D) hN (show 1 ≤ n by omega) (show n ≤ 5 by omega) p0 p1
  obtain ⟨h2, e2, l1, l2⟩ := layRow_ok (h := h1) (nds := ndF h0) (p := p) (n := n) (r := (bst sm (kdF h0) (ndF h0) P ri n D p).1) (by omega) (by omega) p0 (by omega) b0 b1 (fun j a b => c2' _ j b0 b1 a b)
  refine ⟨h1, e1, F1, p9, D1, bestRow_ok p1' (by omega) (by omega) (by omega) (by omega) p0 p1 (hN p p0 p1).1 c1' c2', priceOfRow_ok p1' (by omega) (by omega) (by omega) (by omega) p0 p1 (hN p p0 p1).1 b0 b1 (fun j a b => c2' _ j b0 b1 a b), priceOfNow_ok p1' D1 hW (by omega) (by omega) (by omega) p0 p1, h2, e2, fun a i x y => by rw [l1 a i (by omega)]; exact F1 a i x y, fun a b x y x' y' => by rw [l1 _ _ (by omega)]; exact p9 a b x y x' y', fun hr q x y x' y' => ?_, fun i => by rw [l1 _ _ (by omega), f1 _ _ (by omega)], fun i => f1 _ _ (by omega)⟩
  unfold TK
  by_cases z : q = p ∧ 0 ≤ hr ∧ hr < n
  · rw [if_pos z, z.1]; exact l2 hr z.2.1 z.2.2
  · rw [if_neg z, l1 _ _ (by omega)]; exact D1 hr q x y x' y'
theorem liftRow_ok {h : fx_H} {p : Int} (p0 : 0 ≤ p) (p5 : p < 5) : Ret (f_X1_liftRow FU La_167 48 p h) (fun h' => (∀ a i : Int, ¬ (50 ≤ a ∧ a ≤ 54 ∧ i = p) → h' a i = h a i) ∧ ∀ j : Int, 0 ≤ j → j < 5 → h' (50 + j) p = 9) := by
  unfold f_X1_liftRow
  refine Ret.bind (Ret.mono (loop_for (fun j s => (∀ a i : Int, ¬ (50 ≤ a ∧ a < 50 + j ∧ i = p) → s a i = h a i) ∧ ∀ x : Int, 0 ≤ x → x < j → s (50 + x) p = 9) 5 (FU_gt (by omega)) (by omega) ⟨fun _ _ _ => rfl, fun _ _ _ => by omega⟩ (fun j s b1 b2 ⟨i1, i2⟩ => ?_) (fun s ⟨i1, i2⟩ => ?_)) (fun r hr => ?_))
  · unfold s_X1_liftRow_1
    simp only [lb_tg_48_0]
    rw [if_pos b2, day_rr b1 (by omega), Option.bind_some, wrl (lb_ln_day b1 (by omega)) p0 p5, Option.bind_some, wid (by omega) (by omega)]
    refine ⟨_, rfl, fun a i z => ?_, fun x a b => ?_⟩
    · rw [up_ne (by omega)]; exact i1 a i (by omega)
    · by_cases e : x = j
      · rw [up_eq (by omega) rfl]
      · rw [up_ne (by omega)]; exact i2 x a (by omega)
  · unfold s_X1_liftRow_1
    simp only
    rw [if_neg (by omega)]
  · exact Ret.ok ⟨fun a i z => hr.2.1 a i (by omega), hr.2.2⟩
theorem clearDay_ok {h : fx_H} : Ret (f_X1_clearDay FU La_167 48 h) (fun h' => (∀ a i : Int, ¬ (50 ≤ a ∧ a ≤ 54) → h' a i = h a i) ∧ CD (fun _ _ => 9) h') := by
  unfold f_X1_clearDay
  refine Ret.bind (Ret.mono (loop_for (fun j s => (∀ a i : Int, ¬ (50 ≤ a ∧ a ≤ 54) → s a i = h a i) ∧ ∀ x q : Int, 0 ≤ x → x < 5 → 0 ≤ q → q < j → s (50 + x) q = 9) 5 (FU_gt (by omega)) (by omega) ⟨fun _ _ _ => rfl, fun _ _ _ _ _ => by omega⟩ (fun j s b1 b2 ⟨i1, i2⟩ => ?_) (fun s ⟨i1, i2⟩ => ?_)) (fun r hr => ?_))
  · unfold s_X1_clearDay_1
    simp only
    obtain ⟨w, e1, k1, k2⟩ := liftRow_ok (h := s) b1 b2
    rw [if_pos b2, e1, Option.bind_some, wid (by omega) (by omega)]
    refine ⟨_, rfl, fun a i z => by rw [k1 a i (by omega)]; exact i1 a i z, fun x q a b a' b' => ?_⟩
    by_cases e : q = j
    · rw [e]; exact k2 x a b
    · rw [k1 _ _ (by omega)]; exact i2 x q a b a' (by omega)
  · unfold s_X1_clearDay_1
    simp only
    rw [if_neg (by omega)]
  · exact Ret.ok hr.2
/-- the reference's hand is D -/
def HD (D : Int → Int → Int) (g : fx_H) : Prop := ∀ hr q : Int, 0 ≤ hr → hr < 5 → 0 ≤ q → q < 5 → g 133 (5 * q + hr) = de (D hr q)
theorem HD_hn {D : Int → Int → Int} {g : fx_H} {T : Int} (hD : HD D g) (hW : DW T D) (T0 : 0 ≤ T) : HOK T 5 g ∧ ∀ hr q : Int, 0 ≤ hr → hr < 5 → 0 ≤ q → q < 5 → hn g hr q = D hr q := by
  refine ⟨fun q hr a b a' b' => ?_, fun hr q a b a' b' => ?_⟩
  · obtain ⟨w1, w2, w3⟩ := hW hr q a' b' a b
    rw [hD hr q a' b' a b]
    exact de_b w1 w2 w3 T0
  · obtain ⟨w1, w2, w3⟩ := hW hr q a b a' b'
    unfold hn
    rw [hD hr q a b a' b', en_de w1]
/-- a row laid into a day -/
def LR (nds : Int → Int → Int) (n : Int) (D : Int → Int → Int) (p r : Int) (hr q : Int) : Int := if q = p ∧ 0 ≤ hr ∧ hr < n then rwF (nds p) n r hr else D hr q
theorem LR_w {nds : Int → Int → Int} {P n T : Int} {D : Int → Int → Int} {p r : Int} (hN : NW T P n nds) (n1 : 1 ≤ n) (n5 : n ≤ 5) (p0 : 0 ≤ p) (p1 : p < P) (r0 : 0 ≤ r) (r1 : r < cnF (nds p) n) (hD : DW T D) : DW T (LR nds n D p r) := fun hr q a b a' b' => by
  unfold LR
  by_cases c : q = p ∧ 0 ≤ hr ∧ hr < n
  · rw [if_pos c]
    have := rw_b (P := P) (hN p p0 p1).1 n1 n5 r0 r1 c.2.1 c.2.2
    omega
  · rw [if_neg c]; exact hD hr q a b a' b'
theorem takeRow_ok {g : fx_H} {nds : Int → Int → Int} {D : Int → Int → Int} {p n r : Int} (n1 : 1 ≤ n) (n5 : n ≤ 5) (p0 : 0 ≤ p) (p5 : p < 5) (r0 : 0 ≤ r) (r1 : r < cnF (nds p) n) (hr : ∀ j : Int, 0 ≤ j → j < n → g 134 (600 * p + 5 * r + j) = de (rwF (nds p) n r j)) (hD : HD D g) : Ret (f_X6_takeRow FU La_167 126 p r n g) (fun g' => (∀ a i : Int, a ≠ 133 → g' a i = g a i) ∧ HD (LR nds n D p r) g') := by
  have cb := cnF_b (nd := nds p) n1 n5
  unfold f_X6_takeRow
  refine Ret.bind (Ret.mono (loop_for (fun j s => (∀ a i : Int, ¬ (a = 133 ∧ 5 * p ≤ i ∧ i < 5 * p + j) → s a i = g a i) ∧ ∀ x : Int, 0 ≤ x → x < j → s 133 (5 * p + x) = de (rwF (nds p) n r x)) n (FU_gt (by omega)) (by omega) ⟨fun _ _ _ => rfl, fun _ _ _ => by omega⟩ (fun j s b1 b2 ⟨i1, i2⟩ => ?_) (fun s ⟨i1, i2⟩ => ?_)) (fun w hw => ?_))
  · unfold s_X6_takeRow_1
    simp only [lb_tg_126_8, lb_tg_126_9]
    rw [if_pos b2, wid (z := 120 * p) (by omega) (by omega), wid (z := 120 * p + r) (by omega) (by omega), wid (z := 5 * (120 * p + r)) (by omega) (by omega), wid (z := 5 * (120 * p + r) + j) (by omega) (by omega), rdl lb_ln_134 (by omega) (by omega), Option.bind_some, i1 _ _ (by omega), show 5 * (120 * p + r) + j = 600 * p + 5 * r + j by omega, hr j b1 b2, wid (z := 5 * p) (by omega) (by omega), wid (z := 5 * p + j) (by omega) (by omega), wrl lb_ln_133 (by omega) (by omega), Option.bind_some, wid (by omega) (by omega)]
    refine ⟨_, rfl, fun a i z => ?_, fun x a b => ?_⟩
    · rw [up_ne (by omega)]; exact i1 a i (by omega)
    · by_cases e : x = j
      · rw [up_eq rfl (by omega), e]
      · rw [up_ne (by omega)]; exact i2 x a (by omega)
  · unfold s_X6_takeRow_1
    simp only
    rw [if_neg (by omega)]
  · obtain ⟨x, w⟩ := w
    obtain ⟨-, i1, i2⟩ := hw
    simp only at i1 i2 ⊢
    refine Ret.ok ⟨fun a i z => i1 a i (by omega), fun hr q a b a' b' => ?_⟩
    unfold LR
    by_cases z : q = p ∧ 0 ≤ hr ∧ hr < n
    · rw [if_pos z, z.1]; exact i2 hr z.2.1 z.2.2
    · rw [if_neg z, i1 _ _ (by omega)]; exact hD hr q a b a' b'
/-- what the reference's searches of a day leave as it is -/
def RF (g0 g : fx_H) : Prop := ∀ a i : Int, a ≠ 133 → a ≠ 139 → a ≠ 140 → g a i = g0 a i
theorem LR_PI {sm kd : Int → Int} {nds : Int → Int → Int} {D : Int → Int → Int} {P ri n p r : Int} (hri : 0 ≤ ri ∧ ri < P) : PI sm kd (LR nds n D p r) (AH (LR nds n D p r)) P ri p n = PRr sm kd nds P ri n D p r := by
  refine sumI_congr (fun hr a b => ?_)
  have e : LR nds n D p r hr p = rwF (nds p) n r hr := by unfold LR; rw [if_pos ⟨rfl, a, by omega⟩]
  rw [e]
  exact FI_day (n := hr + 1) a (by omega) (fun x q _ _ _ _ z => by unfold LR; rw [if_neg (fun y => z y.1)]) hri
/-- the loop of takeBest: the hand is D with some row of p laid into it -/
theorem takeBest_ok {h g0 g : fx_H} {sm : Int → Int} {D : Int → Int → Int} {p : Int} (v : TV 1 h) (r2 : TR2 h g0) (s9 : sm 9 = -1) (hs : SOK sm (h 1 0) g0) (hR : RWR h g0 (h 1 3)) (hF : RF g0 g) (hD : HD D g) (hW : DW (h 1 0) D) (p0 : 0 ≤ p) (p1 : p < h 1 2) : Ret (f_X6_takeBest FU La_167 126 p g) (fun e => e.1 = (bst sm (kdF h) (ndF h) (h 1 2) (h 1 4) (h 1 3) D p).2 ∧ RF g0 e.2 ∧ (∀ i : Int, e.2 139 i = g 139 i) ∧ (∀ i : Int, e.2 140 i = g 140 i) ∧ HD (TK sm (kdF h) (ndF h) (h 1 2) (h 1 4) (h 1 3) D p) e.2) := by
  have vv := v
  unfold TV at vv
  obtain ⟨⟨v1, v1'⟩, ⟨v2, v2'⟩, ⟨v3, v3'⟩, ⟨v4, v4'⟩, ⟨v5, v5'⟩, -⟩ := vv
  have hN : NW (h 1 0) (h 1 2) (h 1 3) (ndF h) := fun q a b => by
    obtain ⟨d1, d2, -⟩ := nd_ok v a (show q < 5 by omega)
    exact ⟨d1, d2⟩
  obtain ⟨c1, c2⟩ := hR p p0 p1
  have cb := cnF_b (nd := ndF h p) v4 v4'
  have cp := cb.2.2.2 (hN p p0 p1).2
  unfold f_X6_takeBest
  refine Ret.bind (Ret.mono (loop_ix (fun s => s.2.2.1) (fun j s => (s.1, s.2.1) = am 0 (PRr sm (kdF h) (ndF h) (h 1 2) (h 1 4) (h 1 3) D p) j.toNat ∧ (∀ a i : Int, a ≠ 133 → s.2.2.2 a i = g a i) ∧ ∃ D' : Int → Int → Int, HD D' s.2.2.2 ∧ DW (h 1 0) D' ∧ ∀ hr q : Int, ¬ (q = p ∧ 0 ≤ hr ∧ hr < h 1 3) → D' hr q = D hr q) (cnF (ndF h p) (h 1 3)) (i := 0) (Q := fun s => (s.1, s.2.1) = am 0 (PRr sm (kdF h) (ndF h) (h 1 2) (h 1 4) (h 1 3) D p) (cnF (ndF h p) (h 1 3)).toNat ∧ (∀ a i : Int, a ≠ 133 → s.2.2.2 a i = g a i) ∧ ∃ D' : Int → Int → Int, HD D' s.2.2.2 ∧ DW (h 1 0) D' ∧ ∀ hr q : Int, ¬ (q = p ∧ 0 ≤ hr ∧ hr < h 1 3) → D' hr q = D hr q) (FU_gt (by omega)) rfl (by omega) ⟨rfl, fun _ _ _ => rfl, D, hD, hW, fun _ _ _ => rfl⟩ (fun j s ej b1 b2 ⟨i1, i2, D', i3, i4, i5⟩ => ?_) (fun s es i => ?_)) (fun w hw => ?_))
  · obtain ⟨b, l, r, s⟩ := s
    simp only at ej i1 i2 i3
    subst ej
    have F : ∀ a i : Int, a ≠ 133 → a ≠ 139 → a ≠ 140 → s a i = g0 a i := fun a i x y z => by rw [i2 a i x]; exact hF a i x y z
    unfold s_X6_takeBest_1
    simp only [lb_tg_126_10]
    obtain ⟨w, e1, k1, k2⟩ := takeRow_ok (g := s) (nds := ndF h) (D := D') (n := h 1 3) v4 v4' p0 (show p < 5 by omega) b1 b2 (fun j a b => by rw [F _ _ (by omega) (by omega) (by omega)]; exact c2 r j b1 b2 a b) i3
    have rw2 : TR2 h w := TR2_congr (fun i => by rw [k1 _ _ (by omega), F _ _ (by omega) (by omega) (by omega)]) r2
    have sw := SOK_congr (g' := w) (fun i => by rw [k1 _ _ (by omega), F _ _ (by omega) (by omega) (by omega)]) hs
    have lw := LR_w (nds := ndF h) (D := D') hN v4 v4' p0 p1 b1 b2 i4
    obtain ⟨w1, w2⟩ := HD_hn k2 lw v1
    rw [rdl lb_ln_135 p0 (by omega), Option.bind_some, F 135 p (by omega) (by omega) (by omega), c1, if_pos b2, ev_hours, Option.bind_some, F 127 11 (by omega) (by omega) (by omega), r2.2.2.2.1, e1, Option.bind_some, ev_hours, Option.bind_some, rw2.2.2.2.1, rf_paysIn v rw2 s9 sw w1 p0 p1 (by omega) v4', Option.bind_some, wid (by omega) (by omega)]
    rw [PI_congr (D' := LR (ndF h) (h 1 3) D p r) p0 p1 (fun hr q a b a' b' => by
      rw [w2 hr q a (by omega) a' (by omega)]
      unfold LR
      by_cases z : q = p ∧ 0 ≤ hr ∧ hr < h 1 3
      · rw [if_pos z, if_pos z]
      · rw [if_neg z, if_neg z]; exact i5 hr q z) ⟨v5, v5'⟩, LR_PI ⟨v5, v5'⟩, am_s 0 _ b1, ← i1]
    simp only
    have D2 : ∃ D' : Int → Int → Int, HD D' w ∧ DW (h 1 0) D' ∧ ∀ hr q : Int, ¬ (q = p ∧ 0 ≤ hr ∧ hr < h 1 3) → D' hr q = D hr q := ⟨_, k2, lw, fun hr q z => by unfold LR; rw [if_neg z]; exact i5 hr q z⟩
    by_cases z : PRr sm (kdF h) (ndF h) (h 1 2) (h 1 4) (h 1 3) D p r < l
    · simp only [if_pos z]
      exact ⟨_, rfl, rfl, rfl, fun a i z => by show w a i = _; rw [k1 a i z]; exact i2 a i z, D2⟩
    · simp only [if_neg z]
      exact ⟨_, rfl, rfl, rfl, fun a i z => by show w a i = _; rw [k1 a i z]; exact i2 a i z, D2⟩
  · obtain ⟨b, l, r, s⟩ := s
    simp only at es
    subst es
    unfold s_X6_takeBest_1
    simp only [lb_tg_126_10]
    have i2 := i.2.1
    simp only at i2
    rw [rdl lb_ln_135 p0 (by omega), Option.bind_some, i2 135 p (by omega), hF 135 p (by omega) (by omega) (by omega), c1, if_neg (by omega)]
    exact ⟨_, rfl, i⟩
  · obtain ⟨b, l, r, s⟩ := w
    obtain ⟨i1, i2, D', i3, i4, i5⟩ := hw
    simp only at i1 i2 i3 ⊢
    have F : ∀ a i : Int, a ≠ 133 → a ≠ 139 → a ≠ 140 → s a i = g0 a i := fun a i x y z => by rw [i2 a i x]; exact hF a i x y z
    have hb : b = (bst sm (kdF h) (ndF h) (h 1 2) (h 1 4) (h 1 3) D p).1 := by unfold bst; rw [← i1]
    have hl : l = (bst sm (kdF h) (ndF h) (h 1 2) (h 1 4) (h 1 3) D p).2 := by unfold bst; rw [← i1]
    obtain ⟨b0, b1⟩ := bst_b (sm := sm) (kd := kdF h) (ri := h 1 4) (D := D) hN v4 v4' p0 p1
    rw [← hb] at b0 b1
    obtain ⟨w, e1, k1, k2⟩ := takeRow_ok (g := s) (nds := ndF h) (D := D') (n := h 1 3) v4 v4' p0 (show p < 5 by omega) b0 b1 (fun j a b' => by rw [F _ _ (by omega) (by omega) (by omega)]; exact c2 _ j b0 b1 a b') i3
    rw [ev_hours, Option.bind_some, F 127 11 (by omega) (by omega) (by omega), r2.2.2.2.1, e1, Option.bind_some]
    refine Ret.ok ⟨hl, fun a i x y z => by show w a i = _; rw [k1 a i x]; exact F a i x y z, fun i => by show w 139 i = _; rw [k1 _ _ (by omega)]; exact i2 _ _ (by omega), fun i => by show w 140 i = _; rw [k1 _ _ (by omega)]; exact i2 _ _ (by omega), fun hr q a b' a' c' => ?_⟩
    show w 133 _ = _
    rw [k2 hr q a b' a' c']
    unfold LR TK
    by_cases z : q = p ∧ 0 ≤ hr ∧ hr < h 1 3
    · rw [if_pos z, if_pos z, hb]
    · rw [if_neg z, if_neg z, i5 hr q z]
