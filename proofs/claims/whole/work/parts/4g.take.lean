-- needs: 4f
/-- the rows stand in the reference -/
def RWR (h g : fx_H) (n : Int) : Prop := ∀ p : Int, 0 ≤ p → p < h 1 2 → g 135 p = cnF (ndF h p) n ∧ ∀ i j : Int, 0 ≤ i → i < cnF (ndF h p) n → 0 ≤ j → j < n → g 134 (600 * p + 5 * i + j) = de (rwF (ndF h p) n i j)
theorem findAllRows_ok {h g : fx_H} {n : Int} (v : TV 1 h) (r : TR2 h g) (n1 : 1 ≤ n) (n5 : n ≤ 5) : Ret (f_X6_findAllRows FU La_167 126 n g) (fun g' => (∀ a i : Int, ¬ (134 ≤ a ∧ a ≤ 137) → g' a i = g a i) ∧ RWR h g' n) := by
  have vv := v
  unfold TV at vv
  obtain ⟨⟨v1, v1'⟩, ⟨v2, v2'⟩, ⟨v3, v3'⟩, ⟨v4, v4'⟩, -⟩ := vv
  have rP : g 127 10 = h 1 2 := r.2.2.1
  have rN := r.2.2.2.2.2.2.2.2.1
  unfold f_X6_findAllRows
  refine Ret.bind (Ret.mono (loop_for (fun j s => (∀ a i : Int, ¬ (134 ≤ a ∧ a ≤ 137) → s a i = g a i) ∧ ∀ p : Int, 0 ≤ p → p < j → s 135 p = cnF (ndF h p) n ∧ ∀ i j : Int, 0 ≤ i → i < cnF (ndF h p) n → 0 ≤ j → j < n → s 134 (600 * p + 5 * i + j) = de (rwF (ndF h p) n i j)) (h 1 2) (FU_gt (by omega)) (by omega) ⟨fun _ _ _ => rfl, fun _ _ _ => by omega⟩ (fun p s b1 b2 ⟨i1, i2⟩ => ?_) (fun s ⟨i1, i2⟩ => ?_)) (fun r hr => ?_))
  · obtain ⟨d1, d2, -⟩ := nd_ok v b1 (show p < 5 by omega)
    unfold s_X6_findAllRows_1
    simp only
    obtain ⟨w, e1, k1, k2, k3⟩ := findRows_ok (g := s) (nd := ndF h p) (n := n) b1 (show p < 5 by omega) n1 n5 (fun t a b => ⟨by rw [i1 _ _ (by omega), rN p t b1 (by omega) a b]; rfl, (d1 t a b).1⟩) (by omega)
    rw [ev_people, Option.bind_some, i1 127 10 (by omega), rP, if_pos b2, e1, Option.bind_some, wid (by omega) (by omega)]
    refine ⟨_, rfl, fun a i z => by rw [k1 a i (by omega) (by omega) (by omega) (by omega)]; exact i1 a i z, fun q a b => ?_⟩
    by_cases e : q = p
    · subst e; exact ⟨k2, k3⟩
    · obtain ⟨z1, z2⟩ := i2 q a (by omega)
      have cb := cnF_b (nd := ndF h q) n1 n5
      exact ⟨by rw [k1 _ _ (by omega) (by omega) (by omega) (by omega)]; exact z1, fun i j x y x' y' => by rw [k1 _ _ (by omega) (by omega) (by omega) (by omega)]; exact z2 i j x y x' y'⟩
  · unfold s_X6_findAllRows_1
    simp only
    rw [ev_people, Option.bind_some, i1 127 10 (by omega), rP, if_neg (by omega)]
  · exact Ret.ok hr.2
/-! ===== what one takes ===== -/
def PRr (sm kd : Int → Int) (nds : Int → Int → Int) (P ri n : Int) (D : Int → Int → Int) (p r : Int) : Int := sumI n.toNat (fun hr => FI sm (kd hr) (D hr) (AH D hr) P ri p (rwF (nds p) n r hr))
def bst (sm kd : Int → Int) (nds : Int → Int → Int) (P ri n : Int) (D : Int → Int → Int) (p : Int) : Int × Int := am 0 (PRr sm kd nds P ri n D p) (cnF (nds p) n).toNat
def TK (sm kd : Int → Int) (nds : Int → Int → Int) (P ri n : Int) (D : Int → Int → Int) (p : Int) (hr q : Int) : Int := if q = p ∧ 0 ≤ hr ∧ hr < n then rwF (nds p) n (bst sm kd nds P ri n D p).1 hr else D hr q
theorem am_b {f : Int → Int} : ∀ {n : Nat}, 1 ≤ n → 0 ≤ (am 0 f n).1 ∧ (am 0 f n).1 < n
  | 0, h => by omega
  | 1, _ => by
    show 0 ≤ (if f 0 < 1000000 then ((0 : Int), f 0) else (0, 1000000)).1 ∧ (if f 0 < 1000000 then ((0 : Int), f 0) else (0, 1000000)).1 < 1
    split <;> exact ⟨Int.le_refl 0, (by decide : (0 : Int) < 1)⟩
  | n + 2, _ => by
    obtain ⟨a, b⟩ := am_b (f := f) (n := n + 1) (by omega)
    show 0 ≤ (if f ((n + 1 : Nat) : Int) < (am 0 f (n + 1)).2 then (((n + 1 : Nat) : Int), f ((n + 1 : Nat) : Int)) else am 0 f (n + 1)).1 ∧ (if f ((n + 1 : Nat) : Int) < (am 0 f (n + 1)).2 then (((n + 1 : Nat) : Int), f ((n + 1 : Nat) : Int)) else am 0 f (n + 1)).1 < ((n + 2 : Nat) : Int)
    split
    · exact ⟨by show (0 : Int) ≤ ((n + 1 : Nat) : Int); omega, by show ((n + 1 : Nat) : Int) < ((n + 2 : Nat) : Int); omega⟩
    · exact ⟨a, by omega⟩
theorem am_2 {f : Int → Int} {b0 : Int} : ∀ {n : Nat}, (∀ i : Int, 0 ≤ i → i < n → f i < 1000000) → 1 ≤ n → (am b0 f n).2 = f (am b0 f n).1 ∧ (am b0 f n).2 < 1000000
  | 0, _, h => by omega
  | n + 1, h, _ => by
    have hf := h n (by omega) (by omega)
    by_cases c : f n < (am b0 f n).2
    · have e : am b0 f (n + 1) = ((n : Int), f n) := by show (if f n < (am b0 f n).2 then ((n : Int), f n) else am b0 f n) = _; rw [if_pos c]
      rw [e]; exact ⟨rfl, hf⟩
    · have e : am b0 f (n + 1) = am b0 f n := by show (if f n < (am b0 f n).2 then ((n : Int), f n) else am b0 f n) = _; rw [if_neg c]
      rw [e]
      cases n with
      | zero => exact absurd (show f ((0 : Nat) : Int) < (am b0 f 0).2 from hf) c
      | succ n => exact am_2 (fun i a b => h i a (by omega)) (by omega)
/-- a pure day is well -/
def DW (T : Int) (D : Int → Int → Int) : Prop := ∀ hr q : Int, 0 ≤ hr → hr < 5 → 0 ≤ q → q < 5 → 0 ≤ D hr q ∧ D hr q ≤ 9 ∧ (D hr q = 9 ∨ D hr q < T)
/-- needs are as needs are -/
def NW (T P n : Int) (nds : Int → Int → Int) : Prop := ∀ p : Int, 0 ≤ p → p < P → (∀ t : Int, 0 ≤ t → t < 9 → 0 ≤ nds p t ∧ (T ≤ t → nds p t = 0)) ∧ sumI 9 (nds p) ≤ n
theorem rw_b {nds : Int → Int → Int} {T P n p i j : Int} (hN : ∀ t : Int, 0 ≤ t → t < 9 → 0 ≤ nds p t ∧ (T ≤ t → nds p t = 0)) (n1 : 1 ≤ n) (n5 : n ≤ 5) (i0 : 0 ≤ i) (i1 : i < cnF (nds p) n) (j0 : 0 ≤ j) (j1 : j < n) : (0 ≤ rwF (nds p) n i j ∧ rwF (nds p) n i j < T ∨ rwF (nds p) n i j = 9) ∧ 0 ≤ rwF (nds p) n i j ∧ rwF (nds p) n i j ≤ 9 := by
  rcases rwF_v (fun t a b => (hN t a b).1) n1 n5 i0 i1 j0 j1 with ⟨a, b, c⟩ | c
  · refine ⟨Or.inl ⟨a, ?_⟩, a, by omega⟩
    by_cases z : T ≤ rwF (nds p) n i j
    · have := (hN _ a b).2 z; omega
    · omega
  · exact ⟨Or.inr c, by omega, by omega⟩
theorem bst_b {sm kd : Int → Int} {nds : Int → Int → Int} {P ri n T : Int} {D : Int → Int → Int} {p : Int} (hN : NW T P n nds) (n1 : 1 ≤ n) (n5 : n ≤ 5) (p0 : 0 ≤ p) (p1 : p < P) : 0 ≤ (bst sm kd nds P ri n D p).1 ∧ (bst sm kd nds P ri n D p).1 < cnF (nds p) n := by
  have c := (cnF_b (nd := nds p) n1 n5).2.2.2 (hN p p0 p1).2
  have := am_b (f := PRr sm kd nds P ri n D p) (n := (cnF (nds p) n).toNat) (by omega)
  unfold bst
  omega
theorem TK_w {sm kd : Int → Int} {nds : Int → Int → Int} {P ri n T : Int} {D : Int → Int → Int} {p : Int} (hN : NW T P n nds) (n1 : 1 ≤ n) (n5 : n ≤ 5) (p0 : 0 ≤ p) (p1 : p < P) (hD : DW T D) : DW T (TK sm kd nds P ri n D p) := fun hr q a b a' b' => by
  unfold TK
  by_cases c : q = p ∧ 0 ≤ hr ∧ hr < n
  · rw [if_pos c]
    obtain ⟨x, y⟩ := bst_b (sm := sm) (kd := kd) (ri := ri) (D := D) hN n1 n5 p0 p1
    have := rw_b (P := P) (hN p p0 p1).1 n1 n5 x y c.2.1 c.2.2
    omega
  · rw [if_neg c]; exact hD hr q a b a' b'
theorem PRr_b {sm kd : Int → Int} {nds : Int → Int → Int} {P ri n : Int} {D : Int → Int → Int} {p r : Int} (p0 : 0 ≤ p) (p1 : p < P) (P5 : P ≤ 5) (n0 : 0 ≤ n) (n5 : n ≤ 5) : 0 ≤ PRr sm kd nds P ri n D p r ∧ PRr sm kd nds P ri n D p r ≤ 100 := by
  refine ⟨sumI_nn (fun i _ _ => (FI_b p0 p1 P5).1), ?_⟩
  have := sumI_le (n := n.toNat) (f := fun hr => FI sm (kd hr) (D hr) (AH D hr) P ri p (rwF (nds p) n r hr)) (c := 20) (fun i _ _ => (FI_b p0 p1 P5).2)
  unfold PRr
  omega
/-- the class's day is D -/
def CD (D : Int → Int → Int) (h : fx_H) : Prop := ∀ hr q : Int, 0 ≤ hr → hr < 5 → 0 ≤ q → q < 5 → h (50 + hr) q = D hr q
theorem fineD {h : fx_H} {sm : Int → Int} {D : Int → Int → Int} {hr k p t T P ri : Int} (hC : CT sm T P ri h) (hD : CD D h) (hW : DW T D) (P1 : 0 ≤ P) (P5 : P ≤ 5) (T9 : T ≤ 9) (hr0 : 0 ≤ hr) (hr5 : hr < 5) (ht : 0 ≤ t ∧ t < T ∨ t = 9) (hri : 0 ≤ ri ∧ ri < P) : f_X0_fine FU La_167 43 k (50 + hr) (ahc 49 hr) p t h = some (FI sm k (D hr) (AH D hr) P ri p t) := by
  have e := ev_fineA (k := k) (p := p) (t := t) dc_49 hC (fun r q a b a' b' => by rw [show (49 : Int) + 1 + r = 50 + r by omega, hD r q a b a' b']; exact hW r q a b a' b') P1 P5 T9 hr0 hr5 ht hri
  rw [show (49 : Int) + 1 + hr = 50 + hr by omega] at e
  rw [e]
  exact congrArg some (FI_day (n := 5) hr0 hr5 (fun r q a b a' b' _ => by unfold dF; rw [show (49 : Int) + 1 + r = 50 + r by omega]; exact hD r q a b a' (by omega)) hri)
theorem day_rr {i : Int} (h0 : 0 ≤ i) (h5 : i < 5) : fx_rr La_167 49 i = some (50 + i) := by rw [dc_rr dc_49 h0 h5]; congr 1
theorem pr_rr {p : Int} (p0 : 0 ≤ p) (p5 : p < 5) : fx_rr La_167 78 p = some (79 + p) := by rw [rr_ok p0 (by rw [lb_ln_78]; exact p5), lb_pr p0 p5]
theorem setPrices_ok {h : fx_H} {sm : Int → Int} {D : Int → Int → Int} {p T P ri n : Int} (v : TV 1 h) (hT : h 1 0 = T) (hn : h 1 3 = n) (hC : CT sm T P ri h) (hD : CD D h) (hW : DW T D) (P5 : P ≤ 5) (p0 : 0 ≤ p) (p1 : p < P) (hri : 0 ≤ ri ∧ ri < P) : Ret (f_X1_setPrices FU La_167 48 1 43 p h) (fun h' => (∀ a i : Int, ¬ (a = 79 + p ∧ ∃ r t : Int, 0 ≤ r ∧ r < 5 ∧ 0 ≤ t ∧ t < 9 ∧ i = r * 10 + t) → h' a i = h a i) ∧ ∀ hr t : Int, 0 ≤ hr → hr < n → 0 ≤ t → t < T → h' (79 + p) (hr * 10 + t) = FI sm (kdF h hr) (D hr) (AH D hr) P ri p t) := by
  have vv := v
  unfold TV at vv
  obtain ⟨⟨v1, v1'⟩, ⟨v2, v2'⟩, ⟨v3, v3'⟩, ⟨v4, v4'⟩, -⟩ := vv
  unfold f_X1_setPrices
  refine Ret.bind (Ret.mono (loop_for (fun j s => (∀ a i : Int, ¬ (a = 79 + p ∧ ∃ r t : Int, 0 ≤ r ∧ r < 5 ∧ 0 ≤ t ∧ t < 9 ∧ i = r * 10 + t) → s a i = h a i) ∧ ∀ hr t : Int, 0 ≤ hr → hr < j → 0 ≤ t → t < T → s (79 + p) (hr * 10 + t) = FI sm (kdF h hr) (D hr) (AH D hr) P ri p t) n (FU_gt (by omega)) (by omega) ⟨fun _ _ _ => rfl, fun _ _ _ _ => by omega⟩ (fun r s b1 b2 ⟨i1, i2⟩ => ?_) (fun s ⟨i1, i2⟩ => ?_)) (fun r hr => ?_))
  · have f1 : ∀ a i : Int, a ≠ 79 + p → s a i = h a i := fun a i z => i1 a i (fun q => z q.1)
    have vs : TV 1 s := TV_congr (fun a i _ _ => f1 a i (by omega)) v
    have kE : kdF s r = kdF h r := by unfold kdF; rw [f1 _ _ (by omega)]
    unfold s_X1_setPrices_1
    simp only [lb_tg_48_0]
    rw [f1 1 3 (by omega), hn, if_pos b2, ev_kindOf vs, Option.bind_some, ev_aheadOf dc_49, Option.bind_some, kE]
    have key : Ret (fx_loop (s_X1_setPrices_2 FU La_167 48 1 43 p r (kdF h r) (ahc 49 r)) FU (0, s)) (fun e => (∀ a i : Int, ¬ (a = 79 + p ∧ r * 10 ≤ i ∧ i < r * 10 + T) → e.2 a i = s a i) ∧ ∀ t : Int, 0 ≤ t → t < T → e.2 (79 + p) (r * 10 + t) = FI sm (kdF h r) (D r) (AH D r) P ri p t) := by
      refine Ret.mono (loop_for (fun j w => (∀ a i : Int, ¬ (a = 79 + p ∧ r * 10 ≤ i ∧ i < r * 10 + j) → w a i = s a i) ∧ ∀ t : Int, 0 ≤ t → t < j → w (79 + p) (r * 10 + t) = FI sm (kdF h r) (D r) (AH D r) P ri p t) T (FU_gt (by omega)) (by omega) ⟨fun _ _ _ => rfl, fun _ _ _ => by omega⟩ (fun t w c1 c2 ⟨j1, j2⟩ => ?_) (fun w ⟨j1, j2⟩ => ?_)) (fun e he => he.2)
      · have g1 : ∀ a i : Int, a ≠ 79 + p → w a i = h a i := fun a i z => by rw [j1 a i (fun q => z q.1)]; exact f1 a i z
        unfold s_X1_setPrices_2
        simp only [lb_tg_48_0, lb_tg_48_12]
        rw [g1 1 0 (by omega), hT, if_pos c2, pr_rr p0 (by omega), Option.bind_some, day_rr b1 (by omega), Option.bind_some, fineD (CT_congr (fun a i z => g1 a i (by omega)) hC) (fun x y a b a' b' => by rw [g1 _ _ (by omega)]; exact hD x y a b a' b') hW (by omega) P5 (by omega) b1 (by omega) (Or.inl ⟨c1, c2⟩) hri, Option.bind_some, wid (z := r * 10) (by omega) (by omega), wid (z := r * 10 + t) (by omega) (by omega), wrl (lb_ln_pr p0 (by omega)) (by omega) (by omega), Option.bind_some, wid (by omega) (by omega)]
        refine ⟨_, rfl, fun a i z => ?_, fun x a b => ?_⟩
        · rw [up_ne (by omega)]; exact j1 a i (by omega)
        · by_cases e : x = t
          · rw [up_eq rfl (by omega), e]
          · rw [up_ne (by omega)]; exact j2 x a (by omega)
      · unfold s_X1_setPrices_2
        simp only
        rw [j1 1 0 (by omega), f1 1 0 (by omega), hT, if_neg (by omega)]
    obtain ⟨⟨x, w⟩, e1, k1, k2⟩ := key
    simp only at k1 k2
    rw [e1, Option.bind_some]
    simp only
    rw [wid (by omega) (by omega)]
    refine ⟨_, rfl, fun a i z => ?_, fun x t a b a' b' => ?_⟩
    · rw [k1 a i (fun q => z ⟨q.1, r, i - r * 10, b1, by omega, by omega, by omega, by omega⟩)]; exact i1 a i z
    · by_cases e : x = r
      · subst e; exact k2 t a' b'
      · rw [k1 _ _ (by omega)]; exact i2 x t a (by omega) a' b'
  · unfold s_X1_setPrices_1
    simp only
    rw [i1 1 3 (by omega), hn, if_neg (by omega)]
  · exact Ret.ok hr.2
/-- the prices of a person stand -/
def PRS (sm kd : Int → Int) (D : Int → Int → Int) (T P ri n p : Int) (h : fx_H) : Prop := ∀ hr t : Int, 0 ≤ hr → hr < n → 0 ≤ t ∧ t < T ∨ t = 9 → h (79 + p) (hr * 10 + t) = FI sm (kd hr) (D hr) (AH D hr) P ri p t
theorem FI_9 {sm : Int → Int} {k : Int} {nw ah : Int → Int} {P ri p : Int} : FI sm k nw ah P ri p 9 = 0 := by unfold FI; rw [if_pos (by omega)]
theorem priceOfRow_ok {h : fx_H} {sm kd : Int → Int} {nds : Int → Int → Int} {D : Int → Int → Int} {p r T P ri n : Int} (hP : PRS sm kd D T P ri n p h) (T9 : T ≤ 9) (P5 : P ≤ 5) (n1 : 1 ≤ n) (n5 : n ≤ 5) (p0 : 0 ≤ p) (p1 : p < P) (hN : ∀ t : Int, 0 ≤ t → t < 9 → 0 ≤ nds p t ∧ (T ≤ t → nds p t = 0)) (r0 : 0 ≤ r) (r1 : r < cnF (nds p) n) (hr : ∀ j : Int, 0 ≤ j → j < n → h (68 + p) (5 * r + j) = rwF (nds p) n r j) : f_X1_priceOfRow FU La_167 48 p r n h = some (PRr sm kd nds P ri n D p r) := by
  have cb := cnF_b (nd := nds p) n1 n5
  unfold f_X1_priceOfRow
  rw [sloop (f := fun j => FI sm (kd j) (D j) (AH D j) P ri p (rwF (nds p) n r j)) (n := n) (by omega) (by omega) (fun i _ _ => ⟨(FI_b p0 p1 P5).1, by have := (FI_b (sm := sm) (k := kd i) (nw := D i) (ah := AH D i) (ri := ri) (t := rwF (nds p) n r i) p0 p1 P5).2; omega⟩) (fun z i z0 z1 i0 i1 => by
    have fb := FI_b (sm := sm) (k := kd i) (nw := D i) (ah := AH D i) (ri := ri) (t := rwF (nds p) n r i) p0 p1 P5
    have rb := rw_b (P := P) hN n1 n5 r0 r1 i0 i1
    unfold s_X1_priceOfRow_1
    simp only [lb_tg_48_6, lb_tg_48_12]
    rw [if_pos i1, pr_rr p0 (by omega), Option.bind_some, rw_rr p0 (by omega), Option.bind_some, wid (z := r * 5) (by omega) (by omega), wid (z := r * 5 + i) (by omega) (by omega), rdl (lb_ln_rw p0 (by omega)) (by omega) (by omega), Option.bind_some, show r * 5 + i = 5 * r + i by omega, hr i i0 i1, wid (z := i * 10) (by omega) (by omega), wid (z := i * 10 + rwF (nds p) n r i) (by omega) (by omega), rdl (lb_ln_pr p0 (by omega)) (by omega) (by omega), Option.bind_some, hP i _ i0 i1 rb.1, wid (by omega) (by omega), wid (by omega) (by omega)]) (fun z => by
    unfold s_X1_priceOfRow_1
    simp only
    rw [if_neg (by omega)])]
  rfl
theorem priceOfNow_ok {h : fx_H} {sm kd : Int → Int} {D : Int → Int → Int} {p T P ri n : Int} (hP : PRS sm kd D T P ri n p h) (hD : CD D h) (hW : DW T D) (P5 : P ≤ 5) (n1 : 1 ≤ n) (n5 : n ≤ 5) (p0 : 0 ≤ p) (p1 : p < P) : f_X1_priceOfNow FU La_167 48 p n h = some (PI sm kd D (AH D) P ri p n) := by
  unfold f_X1_priceOfNow
  rw [sloop (f := fun j => FI sm (kd j) (D j) (AH D j) P ri p (D j p)) (n := n) (by omega) (by omega) (fun i _ _ => ⟨(FI_b p0 p1 P5).1, by have := (FI_b (sm := sm) (k := kd i) (nw := D i) (ah := AH D i) (ri := ri) (t := D i p) p0 p1 P5).2; omega⟩) (fun z i z0 z1 i0 i1 => by
    have fb := FI_b (sm := sm) (k := kd i) (nw := D i) (ah := AH D i) (ri := ri) (t := D i p) p0 p1 P5
    have wb := hW i p i0 (by omega) p0 (by omega)
    unfold s_X1_priceOfNow_1
    simp only [lb_tg_48_0, lb_tg_48_12]
    rw [if_pos i1, pr_rr p0 (by omega), Option.bind_some, day_rr i0 (by omega), Option.bind_some, rdl (lb_ln_day i0 (by omega)) p0 (by omega), Option.bind_some, hD i p i0 (by omega) p0 (by omega), wid (z := i * 10) (by omega) (by omega), wid (z := i * 10 + D i p) (by omega) (by omega), rdl (lb_ln_pr p0 (by omega)) (by omega) (by omega), Option.bind_some, hP i _ i0 i1 (by omega), wid (by omega) (by omega), wid (by omega) (by omega)]) (fun z => by
    unfold s_X1_priceOfNow_1
    simp only
    rw [if_neg (by omega)])]
  rfl
theorem bestRow_ok {h : fx_H} {sm kd : Int → Int} {nds : Int → Int → Int} {D : Int → Int → Int} {p T P ri n : Int} (hP : PRS sm kd D T P ri n p h) (T9 : T ≤ 9) (P5 : P ≤ 5) (n1 : 1 ≤ n) (n5 : n ≤ 5) (p0 : 0 ≤ p) (p1 : p < P) (hN : ∀ t : Int, 0 ≤ t → t < 9 → 0 ≤ nds p t ∧ (T ≤ t → nds p t = 0)) (hc : h 73 p = cnF (nds p) n) (hr : ∀ r j : Int, 0 ≤ r → r < cnF (nds p) n → 0 ≤ j → j < n → h (68 + p) (5 * r + j) = rwF (nds p) n r j) : f_X1_bestRow FU La_167 48 p n h = some (bst sm kd nds P ri n D p).1 := by
  have cb := cnF_b (nd := nds p) n1 n5
  unfold f_X1_bestRow
  have key : Ret (fx_loop (s_X1_bestRow_1 FU La_167 48 p n h) FU (0, 1000000, 0)) (fun e => e.1 = (bst sm kd nds P ri n D p).1) := by
    refine loop_ix (fun s => s.2.2) (fun j s => (s.1, s.2.1) = am 0 (PRr sm kd nds P ri n D p) j.toNat) (cnF (nds p) n) (i := 0) (FU_gt (by omega)) rfl (by omega) rfl (fun j s ej b1 b2 i1 => ?_) (fun s es i1 => ?_)
    · obtain ⟨b, l, r⟩ := s
      simp only at ej i1
      subst ej
      unfold s_X1_bestRow_1
      simp only [lb_tg_48_7]
      rw [rdl lb_ln_73 p0 (by omega), Option.bind_some, hc, if_pos b2, priceOfRow_ok (D := D) hP T9 P5 n1 n5 p0 p1 hN b1 b2 (fun j a b => hr r j b1 b2 a b), Option.bind_some, wid (by omega) (by omega), am_s 0 _ b1, ← i1]
      simp only
      by_cases z : PRr sm kd nds P ri n D p r < l
      · rw [if_pos z, if_pos z]; exact ⟨_, rfl, rfl, rfl⟩
      · rw [if_neg z, if_neg z]; exact ⟨_, rfl, rfl, rfl⟩
    · obtain ⟨b, l, r⟩ := s
      simp only at es i1
      subst es
      unfold s_X1_bestRow_1
      simp only [lb_tg_48_7]
      rw [rdl lb_ln_73 p0 (by omega), Option.bind_some, hc, if_neg (by omega)]
      exact ⟨_, rfl, by unfold bst; rw [← i1]⟩
  obtain ⟨⟨b, l, r⟩, e1, e2⟩ := key
  simp only at e2
  rw [e1, Option.bind_some, e2]
theorem layRow_ok {h : fx_H} {nds : Int → Int → Int} {p n r : Int} (n1 : 1 ≤ n) (n5 : n ≤ 5) (p0 : 0 ≤ p) (p5 : p < 5) (r0 : 0 ≤ r) (r1 : r < cnF (nds p) n) (hr : ∀ j : Int, 0 ≤ j → j < n → h (68 + p) (5 * r + j) = rwF (nds p) n r j) : Ret (f_X1_layRow FU La_167 48 p r n h) (fun h' => (∀ a i : Int, ¬ (50 ≤ a ∧ a < 50 + n ∧ i = p) → h' a i = h a i) ∧ ∀ j : Int, 0 ≤ j → j < n → h' (50 + j) p = rwF (nds p) n r j) := by
  have cb := cnF_b (nd := nds p) n1 n5
  unfold f_X1_layRow
  refine Ret.bind (Ret.mono (loop_for (fun j s => (∀ a i : Int, ¬ (50 ≤ a ∧ a < 50 + j ∧ i = p) → s a i = h a i) ∧ ∀ x : Int, 0 ≤ x → x < j → s (50 + x) p = rwF (nds p) n r x) n (FU_gt (by omega)) (by omega) ⟨fun _ _ _ => rfl, fun _ _ _ => by omega⟩ (fun j s b1 b2 ⟨i1, i2⟩ => ?_) (fun s ⟨i1, i2⟩ => ?_)) (fun r hr => ?_))
  · unfold s_X1_layRow_1
    simp only [lb_tg_48_0, lb_tg_48_6]
    rw [if_pos b2, day_rr b1 (by omega), Option.bind_some, rw_rr p0 p5, Option.bind_some, wid (z := r * 5) (by omega) (by omega), wid (z := r * 5 + j) (by omega) (by omega), rdl (lb_ln_rw p0 p5) (by omega) (by omega), Option.bind_some, i1 _ _ (by omega), show r * 5 + j = 5 * r + j by omega, hr j b1 b2, wrl (lb_ln_day b1 (by omega)) p0 p5, Option.bind_some, wid (by omega) (by omega)]
    refine ⟨_, rfl, fun a i z => ?_, fun x a b => ?_⟩
    · rw [up_ne (by omega)]; exact i1 a i (by omega)
    · by_cases e : x = j
      · rw [up_eq (by omega) rfl, e]
      · rw [up_ne (by omega)]; exact i2 x a (by omega)
  · unfold s_X1_layRow_1
    simp only
    rw [if_neg (by omega)]
  · exact Ret.ok hr.2
