-- needs: 3q
/-! ===== a day's fines, on both sides ===== -/
def AH (D : Int → Int → Int) (hr q : Int) : Int := if 0 < hr then D (hr - 1) q else 9
theorem ha_eq (g : fx_H) : ha g = AH (hn g) := rfl
def kdF (h : fx_H) (hr : Int) : Int := if 0 ≤ hr ∧ hr < 5 then h 3 hr else 0
def dF (h : fx_H) (d hr q : Int) : Int := h (d + 1 + hr) q
def SM (u : Int → Int) (line t : Int) : Int := if t = 9 then -1 else SA u line t
theorem SM_9 (u : Int → Int) (line : Int) : SM u line 9 = -1 := rfl
theorem SM_t {u : Int → Int} {line t : Int} (h : t < 9) : SM u line t = SA u line t := by unfold SM; rw [if_neg (by omega)]
theorem ev_kindOf {h : fx_H} {hr : Int} (v : TV 1 h) : f_X4_kindOf FU La_167 1 hr h = some (kdF h hr) := by
  unfold TV at v
  obtain ⟨⟨v1, v1'⟩, ⟨v2, v2'⟩, ⟨v3, v3'⟩, ⟨v4, v4'⟩, ⟨v5, v5'⟩, ⟨v6, v6'⟩, v7, v8, -⟩ := v
  unfold f_X4_kindOf kdF
  rw [tc_tg_7 TC_1, show (1 : Int) + 2 = 3 from rfl]
  by_cases c : 0 ≤ hr ∧ hr < h 1 3
  · rw [if_pos c, rdl lb_ln_3 c.1 (by omega), if_pos (by omega)]; rfl
  · rw [if_neg c]
    by_cases c2 : 0 ≤ hr ∧ hr < 5
    · rw [if_pos c2, show h 3 hr = 0 from (v8 hr c2.1 c2.2).2.2 (by omega)]; rfl
    · rw [if_neg c2]; rfl
theorem kdF_b {h : fx_H} {hr : Int} (v : TV 1 h) : 0 ≤ kdF h hr ∧ kdF h hr ≤ 5 := by
  unfold TV at v
  obtain ⟨-, -, -, -, -, -, -, v8, -⟩ := v
  unfold kdF
  by_cases c : 0 ≤ hr ∧ hr < 5
  · rw [if_pos c]; have := v8 hr c.1 c.2; rw [show (1 : Int) + 2 = 3 from rfl] at this; omega
  · rw [if_neg c]; omega
def DC (d : Int) : Prop := d = 4 ∨ d = 49
theorem dc_rr {d i : Int} (hd : DC d) (h0 : 0 ≤ i) (h5 : i < 5) : fx_rr La_167 d i = some (d + 1 + i) := by
  rcases hd with rfl | rfl
  · rw [rr_ok h0 (by rw [lb_ln_4]; exact h5), show (4 : Int) = 1 + 3 from rfl, tc_doing TC_1 h0 h5]; congr 1
  · rw [rr_ok h0 (by rw [lb_ln_49]; exact h5), lb_day h0 h5]; congr 1
theorem dc_ln {d i : Int} (hd : DC d) (h0 : 0 ≤ i) (h5 : i < 5) : fx_ln La_167 (d + 1 + i) = 5 := by
  rcases hd with rfl | rfl
  · exact tc_lnD TC_1 h0 h5
  · exact lb_ln_day h0 h5
theorem dc_4 : DC 4 := Or.inl rfl
theorem dc_49 : DC 49 := Or.inr rfl
/-- the cell of the hour ahead -/
def ahc (d hr : Int) : Int := if 1 ≤ hr ∧ hr ≤ 4 then d + hr else 46
theorem ev_aheadOf {h : fx_H} {d hr : Int} (hd : DC d) : f_X0_aheadOf FU La_167 43 d hr h = some (ahc d hr) := by
  unfold f_X0_aheadOf ahc
  rw [ev_within, Option.bind_some, lb_tg_43_2]
  by_cases c : 1 ≤ hr ∧ hr ≤ 4
  · rw [if_pos c, if_pos c, if_pos (by decide), wid (by omega) (by omega), dc_rr hd (by omega) (by omega), show d + 1 + (hr - 1) = d + hr by omega]; rfl
  · rw [if_neg c, if_neg c, if_neg (by decide)]; rfl
/-- the court sits: sm is what is the same -/
def CT (sm : Int → Int) (T P ri : Int) (h : fx_H) : Prop := h 43 4 = P ∧ h 43 5 = ri ∧ (∀ q : Int, 0 ≤ q → q < 5 → h 46 q = 9) ∧ (∀ t : Int, 0 ≤ t ∧ t < T ∨ t = 9 → h 44 t = sm t)
/-- a day of the class is well -/
def DOK (T : Int) (h : fx_H) (d : Int) : Prop := ∀ hr q : Int, 0 ≤ hr → hr < 5 → 0 ≤ q → q < 5 → 0 ≤ h (d + 1 + hr) q ∧ h (d + 1 + hr) q ≤ 9 ∧ (h (d + 1 + hr) q = 9 ∨ h (d + 1 + hr) q < T)
theorem ahc_ln {d hr : Int} (hd : DC d) : fx_ln La_167 (ahc d hr) = 5 := by
  unfold ahc
  by_cases c : 1 ≤ hr ∧ hr ≤ 4
  · rw [if_pos c, show d + hr = d + 1 + (hr - 1) by omega]; exact dc_ln hd (by omega) (by omega)
  · rw [if_neg c]; exact lb_ln_46
theorem ahc_v {h : fx_H} {d hr q T : Int} (hD : DOK T h d) (hN : ∀ q : Int, 0 ≤ q → q < 5 → h 46 q = 9) (r0 : 0 ≤ hr) (r5 : hr < 5) (q0 : 0 ≤ q) (q5 : q < 5) : h (ahc d hr) q = AH (dF h d) hr q ∧ 0 ≤ AH (dF h d) hr q ∧ AH (dF h d) hr q ≤ 9 ∧ (AH (dF h d) hr q = 9 ∨ AH (dF h d) hr q < T) := by
  unfold ahc AH dF
  by_cases c : 1 ≤ hr ∧ hr ≤ 4
  · rw [if_pos c, if_pos (by omega), show d + hr = d + 1 + (hr - 1) by omega]; exact ⟨rfl, hD (hr - 1) q (by omega) (by omega) q0 q5⟩
  · rw [if_neg c, if_neg (by omega), hN q q0 q5]; omega
theorem ev_fineA {h : fx_H} {sm : Int → Int} {d hr k p t T P ri : Int} (hd : DC d) (hC : CT sm T P ri h) (hD : DOK T h d) (P1 : 0 ≤ P) (P5 : P ≤ 5) (T9 : T ≤ 9) (hr0 : 0 ≤ hr) (hr5 : hr < 5) (ht : 0 ≤ t ∧ t < T ∨ t = 9) (hri : 0 ≤ ri ∧ ri < P) : f_X0_fine FU La_167 43 k (d + 1 + hr) (ahc d hr) p t h = some (FI sm k (dF h d hr) (AH (dF h d) hr) P ri p t) := by
  obtain ⟨c1, c2, c3, c4⟩ := hC
  rw [ev_fine c1 c2 P1 P5 (dc_ln hd hr0 hr5) (ahc_ln hd) (fun q a b => by have := hD hr q hr0 hr5 a (by omega); omega) (fun q a b => by have := ahc_v hD c3 hr0 hr5 a (show q < 5 by omega); omega) (by omega) hri]
  refine congrArg some (FI_congr (c4 t ht) (fun q a b _ => ⟨rfl, c4 _ (by have := hD hr q hr0 hr5 a (by omega); omega)⟩) (fun q a b _ => ?_) hri)
  have := ahc_v hD c3 hr0 hr5 a (show q < 5 by omega)
  rw [this.1]
  exact c4 _ (by omega)
theorem ev_fineIn {h : fx_H} {sm : Int → Int} {hr p t T P ri : Int} (v : TV 1 h) (hC : CT sm T P ri h) (hD : DOK T h 4) (P1 : 0 ≤ P) (P5 : P ≤ 5) (T9 : T ≤ 9) (hr0 : 0 ≤ hr) (hr5 : hr < 5) (ht : 0 ≤ t ∧ t < T ∨ t = 9) (hri : 0 ≤ ri ∧ ri < P) : f_X0_fineIn FU La_167 43 1 hr p t h = some (FI sm (kdF h hr) (dF h 4 hr) (AH (dF h 4) hr) P ri p t) := by
  unfold f_X0_fineIn
  rw [ev_kindOf v, Option.bind_some, tc_tg_8 TC_1, show (1 : Int) + 3 = 4 from rfl, dc_rr dc_4 hr0 hr5, Option.bind_some, ev_aheadOf dc_4, Option.bind_some, ev_fineA dc_4 hC hD P1 P5 T9 hr0 hr5 ht hri]; rfl
theorem ev_finesOfHour {h : fx_H} {a b k P ri : Int} (hP : h 43 4 = P) (hR : h 43 5 = ri) (P1 : 0 ≤ P) (P5 : P ≤ 5) (la : fx_ln La_167 a = 5) (lb : fx_ln La_167 b = 5) (va : ∀ q : Int, 0 ≤ q → q < P → 0 ≤ h a q ∧ h a q ≤ 9) (vb : ∀ q : Int, 0 ≤ q → q < P → 0 ≤ h b q ∧ h b q ≤ 9) (hr : 0 ≤ ri ∧ ri < P) : f_X0_finesOfHour FU La_167 43 k a b h = some (sumI P.toNat (fun p => FI (h 44) k (h a) (h b) P ri p (h a p))) := by
  unfold f_X0_finesOfHour
  rw [sloop (f := fun p => FI (h 44) k (h a) (h b) P ri p (h a p)) (n := P) P1 (by omega) (fun i x y => ⟨(FI_b x y P5).1, by have := (FI_b (sm := h 44) (k := k) (nw := h a) (ah := h b) (ri := ri) (t := h a i) x y P5).2; omega⟩) (fun z i z0 z1 i0 i1 => by
    have := FI_b (sm := h 44) (k := k) (nw := h a) (ah := h b) (ri := ri) (t := h a i) i0 i1 P5
    unfold s_X0_finesOfHour_1
    simp only
    rw [hP, if_pos i1, rdl la i0 (by omega), Option.bind_some, ev_fine hP hR P1 P5 la lb va vb (va i i0 i1) hr, Option.bind_some, wid (by omega) (by omega), wid (by omega) (by omega)]) (fun z => by
    unfold s_X0_finesOfHour_1
    simp only
    rw [hP, if_neg (by omega)])]
  rfl
theorem FS_b {sm : Int → Int} {k : Int} {D A : Int → Int} {P ri : Int} (h1 : 0 ≤ P) (h5 : P ≤ 5) : 0 ≤ sumI P.toNat (fun p => FI sm k D A P ri p (D p)) ∧ sumI P.toNat (fun p => FI sm k D A P ri p (D p)) ≤ 100 := by
  refine ⟨sumI_nn (fun i _ _ => (FI_b (by omega) (by omega) h5).1), ?_⟩
  have := sumI_le (n := P.toNat) (f := fun p => FI sm k D A P ri p (D p)) (c := 20) (fun i _ _ => (FI_b (by omega) (by omega) h5).2)
  omega
theorem ev_finesOf {h : fx_H} {sm : Int → Int} {d n T P ri : Int} (v : TV 1 h) (hd : DC d) (hC : CT sm T P ri h) (hD : DOK T h d) (P1 : 0 ≤ P) (P5 : P ≤ 5) (T9 : T ≤ 9) (n0 : 0 ≤ n) (n5 : n ≤ 5) (hri : 0 ≤ ri ∧ ri < P) : f_X0_finesOf FU La_167 43 1 d n h = some (AI sm (kdF h) (dF h d) (AH (dF h d)) P ri n) := by
  unfold f_X0_finesOf
  rw [sloop (f := fun hr => sumI P.toNat (fun p => FI sm (kdF h hr) (dF h d hr) (AH (dF h d) hr) P ri p (dF h d hr p))) (n := n) n0 (by omega) (fun i x y => ⟨(FS_b P1 P5).1, by have := (FS_b (sm := sm) (k := kdF h i) (D := dF h d i) (A := AH (dF h d) i) (ri := ri) P1 P5).2; omega⟩) (fun z i z0 z1 i0 i1 => by
    have fb := FS_b (sm := sm) (k := kdF h i) (D := dF h d i) (A := AH (dF h d) i) (ri := ri) P1 P5
    obtain ⟨c1, c2, c3, c4⟩ := id hC
    unfold s_X0_finesOf_1
    simp only
    rw [if_pos i1, ev_kindOf v, Option.bind_some, dc_rr hd i0 (by omega), Option.bind_some, ev_aheadOf hd, Option.bind_some, ev_finesOfHour c1 c2 P1 P5 (dc_ln hd i0 (by omega)) (ahc_ln hd) (fun q a b => by have := hD i q i0 (by omega) a (by omega); omega) (fun q a b => by have := ahc_v hD c3 i0 (show i < 5 by omega) a (show q < 5 by omega); omega) hri, Option.bind_some]
    rw [sumI_congr (f := fun p => FI (h 44) (kdF h i) (h (d + 1 + i)) (h (ahc d i)) P ri p (h (d + 1 + i) p)) (g := fun p => FI sm (kdF h i) (dF h d i) (AH (dF h d) i) P ri p (dF h d i p)) (fun p p0 p1 => FI_congr (c4 _ (by have := hD i p i0 (by omega) p0 (by omega); omega)) (fun q a b _ => ⟨rfl, c4 _ (by have := hD i q i0 (by omega) a (by omega); omega)⟩) (fun q a b _ => by
      have := ahc_v hD c3 i0 (show i < 5 by omega) a (show q < 5 by omega)
      rw [this.1]
      exact c4 _ (by omega)) hri)]
    rw [wid (by omega) (by omega), wid (by omega) (by omega)]) (fun z => by
    unfold s_X0_finesOf_1
    simp only
    rw [if_neg (by omega)])]
  rw [sumI_swap (fun hr p => FI sm (kdF h hr) (dF h d hr) (AH (dF h d) hr) P ri p (dF h d hr p))]
  rfl
theorem PI_congr {sm kd : Int → Int} {D D' : Int → Int → Int} {P ri p n : Int} (p0 : 0 ≤ p) (p1 : p < P) (e : ∀ hr q : Int, 0 ≤ hr → hr < n → 0 ≤ q → q < P → D hr q = D' hr q) (hri : 0 ≤ ri ∧ ri < P) : PI sm kd D (AH D) P ri p n = PI sm kd D' (AH D') P ri p n := by
  refine sumI_congr (fun hr a b => ?_)
  rw [e hr p a (by omega) p0 p1]
  refine FI_congr rfl (fun q x y _ => by rw [e hr q a (by omega) x y]; exact ⟨rfl, rfl⟩) (fun q x y _ => ?_) hri
  unfold AH
  by_cases c : 0 < hr
  · rw [if_pos c, if_pos c, e (hr - 1) q (by omega) (by omega) x y]
  · rw [if_neg c, if_neg c]
theorem AI_congr {sm kd : Int → Int} {D D' : Int → Int → Int} {P ri n : Int} (e : ∀ hr q : Int, 0 ≤ hr → hr < n → 0 ≤ q → q < P → D hr q = D' hr q) (hri : 0 ≤ ri ∧ ri < P) : AI sm kd D (AH D) P ri n = AI sm kd D' (AH D') P ri n :=
  sumI_congr (fun p a b => PI_congr a (by omega) e hri)
/-- the reference takes what is done, or nothing -/
theorem takeDone_ok {g : fx_H} : Ret (f_X6_takeDone FU La_167 126 g) (fun g' => (∀ a i : Int, a ≠ 133 → g' a i = g a i) ∧ ∀ i : Int, 0 ≤ i → i < 25 → g' 133 i = g 127 (19 + i)) := by
  unfold f_X6_takeDone
  refine Ret.bind (Ret.mono (loop_for (fun j s => (∀ a i : Int, a ≠ 133 → s a i = g a i) ∧ ∀ i : Int, 0 ≤ i → i < j → s 133 i = g 127 (19 + i)) 25 (FU_gt (by omega)) (by omega) ⟨fun _ _ _ => rfl, fun t _ _ => by omega⟩ (fun j s b1 b2 ⟨i1, i2⟩ => ?_) (fun s _ => ?_)) (fun r hr => ?_))
  · unfold s_X6_takeDone_1
    simp only [lb_tg_126_0, lb_tg_126_8]
    rw [if_pos b2, wid (z := 19 + j) (by omega) (by omega), rd127 (by omega) (by omega), Option.bind_some, wrl lb_ln_133 b1 b2, Option.bind_some, wid (by omega) (by omega)]
    refine ⟨_, rfl, fun a i b => ?_, fun i b b' => ?_⟩
    · rw [up_ne (by omega)]; exact i1 a i b
    · by_cases e : i = j
      · subst e; rw [up_eq rfl rfl]; exact i1 _ _ (by omega)
      · simp (disch := omega) only [up_ne, up_eq]; exact i2 i b (by omega)
  · unfold s_X6_takeDone_1
    simp only
    rw [if_neg (by omega)]
  · exact Ret.ok hr.2
theorem takeNothing_ok {g : fx_H} : Ret (f_X6_takeNothing FU La_167 126 g) (fun g' => (∀ a i : Int, a ≠ 133 → g' a i = g a i) ∧ ∀ i : Int, 0 ≤ i → i < 25 → g' 133 i = -1) := by
  unfold f_X6_takeNothing
  refine Ret.bind (Ret.mono (loop_for (fun j s => (∀ a i : Int, a ≠ 133 → s a i = g a i) ∧ ∀ i : Int, 0 ≤ i → i < j → s 133 i = -1) 25 (FU_gt (by omega)) (by omega) ⟨fun _ _ _ => rfl, fun t _ _ => by omega⟩ (fun j s b1 b2 ⟨i1, i2⟩ => ?_) (fun s _ => ?_)) (fun r hr => ?_))
  · unfold s_X6_takeNothing_1
    simp only [lb_tg_126_8]
    rw [if_pos b2, wrl lb_ln_133 b1 b2, Option.bind_some, wid (by omega) (by omega)]
    refine ⟨_, rfl, fun a i b => ?_, fun i b b' => ?_⟩
    · rw [up_ne (by omega)]; exact i1 a i b
    · by_cases e : i = j
      · subst e; simp (disch := omega) only [up_ne, up_eq]
      · simp (disch := omega) only [up_ne, up_eq]; exact i2 i b (by omega)
  · unfold s_X6_takeNothing_1
    simp only
    rw [if_neg (by omega)]
  · exact Ret.ok hr.2
