-- needs: 4h
theorem copyDay_ok {h : fx_H} {src dst a b : Int} (ha : ∀ i : Int, 0 ≤ i → i < 5 → fx_rr La_167 src i = some (a + i) ∧ fx_ln La_167 (a + i) = 5) (hb : ∀ i : Int, 0 ≤ i → i < 5 → fx_rr La_167 dst i = some (b + i) ∧ fx_ln La_167 (b + i) = 5) (hab : a + 5 ≤ b ∨ b + 5 ≤ a) : Ret (f_X1_copyDay FU La_167 src dst h) (fun h' => (∀ x i : Int, ¬ (b ≤ x ∧ x < b + 5 ∧ 0 ≤ i ∧ i < 5) → h' x i = h x i) ∧ ∀ hr q : Int, 0 ≤ hr → hr < 5 → 0 ≤ q → q < 5 → h' (b + hr) q = h (a + hr) q) := by
  unfold f_X1_copyDay
  refine Ret.bind (Ret.mono (loop_for (fun j s => (∀ x i : Int, ¬ (b ≤ x ∧ x < b + j ∧ 0 ≤ i ∧ i < 5) → s x i = h x i) ∧ ∀ hr q : Int, 0 ≤ hr → hr < j → 0 ≤ q → q < 5 → s (b + hr) q = h (a + hr) q) 5 (FU_gt (by omega)) (by omega) ⟨fun _ _ _ => rfl, fun _ _ _ _ => by omega⟩ (fun j s b1 b2 ⟨i1, i2⟩ => ?_) (fun s ⟨i1, i2⟩ => ?_)) (fun r hr => ?_))
  · obtain ⟨a1, a2⟩ := ha j b1 b2
    obtain ⟨d1, d2⟩ := hb j b1 b2
    unfold s_X1_copyDay_1
    simp only
    rw [if_pos b2, a1, Option.bind_some, d1, Option.bind_some, cp_ok (by omega) (by omega) (by omega) (by rw [a2]; omega) (by rw [d2]; omega), Option.bind_some, wid (by omega) (by omega)]
    refine ⟨_, rfl, fun x i z => ?_, fun hr q x y x' y' => ?_⟩
    · rw [cpy_out (by omega)]; exact i1 x i (by omega)
    · by_cases e : hr = j
      · rw [e, cpy_in rfl (by omega) (by omega), show 0 + (q - 0) = q by omega, i1 _ _ (by omega)]
      · rw [cpy_out (by omega)]; exact i2 hr q x (by omega) x' y'
  · unfold s_X1_copyDay_1
    simp only
    rw [if_neg (by omega)]
  · exact Ret.ok hr.2
theorem cd_town : ∀ i : Int, 0 ≤ i → i < 5 → fx_rr La_167 4 i = some (5 + i) ∧ fx_ln La_167 (5 + i) = 5 := fun i a b => ⟨by rw [dc_rr dc_4 a b]; congr 1, dc_ln dc_4 a b⟩
theorem cd_day : ∀ i : Int, 0 ≤ i → i < 5 → fx_rr La_167 49 i = some (50 + i) ∧ fx_ln La_167 (50 + i) = 5 := fun i a b => ⟨day_rr a b, lb_ln_day a b⟩
theorem cd_ld : ∀ i : Int, 0 ≤ i → i < 5 → fx_rr La_167 55 i = some (56 + i) ∧ fx_ln La_167 (56 + i) = 5 := fun i a b => ⟨by rw [rr_ok a (by rw [lb_ln_55]; exact b), lb_ld a b], lb_ln_ld a b⟩
theorem cd_bd : ∀ i : Int, 0 ≤ i → i < 5 → fx_rr La_167 61 i = some (62 + i) ∧ fx_ln La_167 (62 + i) = 5 := fun i a b => ⟨by rw [rr_ok a (by rw [lb_ln_61]; exact b), lb_bd a b], lb_ln_bd a b⟩
/-- the class has sat and written its rows for n hours -/
theorem prep_cl {h : fx_H} (v : TV 1 h) (rs : RS h) {n : Int} (n1 : 1 ≤ n) (n5 : n ≤ 5) : ∃ h1 h2 : fx_H, f_X0_sit FU La_167 43 1 (h 1 1) (-1) h = some h1 ∧ h1 1 3 = h 1 3 ∧ f_X1_writeRows FU La_167 48 1 n h1 = some h2 ∧ (∀ a i : Int, ¬ (43 ≤ a ∧ a ≤ 45) → ¬ (68 ≤ a ∧ a ≤ 74) → h2 a i = h a i) ∧ CT (smT h (h 1 1) (-1)) (h 1 0) (h 1 2) (h 1 4) h2 ∧ RWC h h2 n := by
  obtain ⟨h1, e1, e2, cc⟩ := sit_ok (line := h 1 1) (fr := -1) v rs
  obtain ⟨h2, e3, e4, e5⟩ := writeRows_ok (TVsit e2 v) n1 n5
  refine ⟨h1, h2, e1, e2 1 3 (by omega) (by omega) (by omega), e3, fun a i x y => by rw [e4 a i (by omega) (by omega) (by omega), e2 a i (by omega) (by omega) (by omega)], CT_congr (fun a i z => e4 a i (by omega) (by omega) (by omega)) cc, fun p a b => ?_⟩
  have := e5 p a (by rw [e2 1 2 (by omega) (by omega) (by omega)]; exact b)
  have P5 : h 1 2 ≤ 5 := by unfold TV at v; exact v.2.2.1.2
  have dE : ndF h1 p = ndF h p := ndF_congr (fun i => e2 _ _ (by omega) (by omega) (by omega))
  rw [dE] at this
  exact this
theorem prep_rf {h g : fx_H} (v : TV 1 h) (r : TR2 h g) {n : Int} (n1 : 1 ≤ n) (n5 : n ≤ 5) : ∃ g1 g2 : fx_H, f_X6_layNow FU La_167 126 g = some g1 ∧ g1 127 11 = h 1 3 ∧ f_X6_findAllRows FU La_167 126 n g1 = some g2 ∧ (∀ a i : Int, ¬ (131 ≤ a ∧ a ≤ 132) → ¬ (134 ≤ a ∧ a ≤ 137) → g2 a i = g a i) ∧ TR2 h g2 ∧ SOK (smT h (h 1 1) (-1)) (h 1 0) g2 ∧ RWR h g2 n := by
  obtain ⟨g1, e1, e2, e3⟩ := layNow_ok v r
  have r1 : TR2 h g1 := TR2_congr (fun i => e2 _ _ (by omega) (by omega)) r
  obtain ⟨g2, e4, e5, e6⟩ := findAllRows_ok v r1 n1 n5
  exact ⟨g1, g2, e1, r1.2.2.2.1, e4, fun a i x y => by rw [e5 a i (by omega), e2 a i (by omega) (by omega)], TR2_congr (fun i => e5 _ _ (by omega)) r1, SOK_congr (fun i => e5 _ _ (by omega)) e3, e6⟩
/-! ===== rests ===== -/
def rnd (sm kd : Int → Int) (nds : Int → Int → Int) (P ri n : Int) (D : Int → Int → Int) : Nat → (Int → Int → Int) × Int
  | 0 => (D, 0)
  | k + 1 => if PRr sm kd nds P ri n (rnd sm kd nds P ri n D k).1 k (bst sm kd nds P ri n (rnd sm kd nds P ri n D k).1 k).1 < PI sm kd (rnd sm kd nds P ri n D k).1 (AH (rnd sm kd nds P ri n D k).1) P ri k n then (TK sm kd nds P ri n (rnd sm kd nds P ri n D k).1 k, 1) else rnd sm kd nds P ri n D k
theorem rnd_s {sm kd : Int → Int} {nds : Int → Int → Int} {P ri n : Int} {D : Int → Int → Int} {k : Int} (h : 0 ≤ k) : rnd sm kd nds P ri n D (k + 1).toNat = if PRr sm kd nds P ri n (rnd sm kd nds P ri n D k.toNat).1 k (bst sm kd nds P ri n (rnd sm kd nds P ri n D k.toNat).1 k).1 < PI sm kd (rnd sm kd nds P ri n D k.toNat).1 (AH (rnd sm kd nds P ri n D k.toNat).1) P ri k n then (TK sm kd nds P ri n (rnd sm kd nds P ri n D k.toNat).1 k, 1) else rnd sm kd nds P ri n D k.toNat := by
  rw [show (k + 1).toNat = k.toNat + 1 by omega]
  show (if PRr sm kd nds P ri n (rnd sm kd nds P ri n D k.toNat).1 ((k.toNat : Nat) : Int) (bst sm kd nds P ri n (rnd sm kd nds P ri n D k.toNat).1 ((k.toNat : Nat) : Int)).1 < PI sm kd (rnd sm kd nds P ri n D k.toNat).1 (AH (rnd sm kd nds P ri n D k.toNat).1) P ri ((k.toNat : Nat) : Int) n then (TK sm kd nds P ri n (rnd sm kd nds P ri n D k.toNat).1 ((k.toNat : Nat) : Int), (1 : Int)) else rnd sm kd nds P ri n D k.toNat) = _
  rw [show ((k.toNat : Nat) : Int) = k by omega]
theorem rnd_w {sm kd : Int → Int} {nds : Int → Int → Int} {P ri n T : Int} {D : Int → Int → Int} (hN : NW T P n nds) (n1 : 1 ≤ n) (n5 : n ≤ 5) (hD : DW T D) : ∀ k : Nat, k ≤ P → DW T (rnd sm kd nds P ri n D k).1 ∧ ((rnd sm kd nds P ri n D k).2 = 0 ∨ (rnd sm kd nds P ri n D k).2 = 1)
  | 0, _ => ⟨hD, Or.inl rfl⟩
  | k + 1, h => by
    obtain ⟨a, b⟩ := rnd_w hN n1 n5 hD k (by omega)
    show DW T (if PRr sm kd nds P ri n (rnd sm kd nds P ri n D k).1 k (bst sm kd nds P ri n (rnd sm kd nds P ri n D k).1 k).1 < PI sm kd (rnd sm kd nds P ri n D k).1 (AH (rnd sm kd nds P ri n D k).1) P ri k n then (TK sm kd nds P ri n (rnd sm kd nds P ri n D k).1 k, (1 : Int)) else rnd sm kd nds P ri n D k).1 ∧ ((if PRr sm kd nds P ri n (rnd sm kd nds P ri n D k).1 k (bst sm kd nds P ri n (rnd sm kd nds P ri n D k).1 k).1 < PI sm kd (rnd sm kd nds P ri n D k).1 (AH (rnd sm kd nds P ri n D k).1) P ri k n then (TK sm kd nds P ri n (rnd sm kd nds P ri n D k).1 k, (1 : Int)) else rnd sm kd nds P ri n D k).2 = 0 ∨ (if PRr sm kd nds P ri n (rnd sm kd nds P ri n D k).1 k (bst sm kd nds P ri n (rnd sm kd nds P ri n D k).1 k).1 < PI sm kd (rnd sm kd nds P ri n D k).1 (AH (rnd sm kd nds P ri n D k).1) P ri k n then (TK sm kd nds P ri n (rnd sm kd nds P ri n D k).1 k, (1 : Int)) else rnd sm kd nds P ri n D k).2 = 1)
    split
    · exact ⟨TK_w hN n1 n5 (by omega) (by omega) a, Or.inr rfl⟩
    · exact ⟨a, b⟩
def RNd (sm kd : Int → Int) (nds : Int → Int → Int) (P ri n : Int) (D : Int → Int → Int) : Nat → Int → Int → Int
  | 0 => D
  | r + 1 => (rnd sm kd nds P ri n (RNd sm kd nds P ri n D r) P.toNat).1
theorem RNd_w {sm kd : Int → Int} {nds : Int → Int → Int} {P ri n T : Int} {D : Int → Int → Int} (P0 : 0 ≤ P) (hN : NW T P n nds) (n1 : 1 ≤ n) (n5 : n ≤ 5) (hD : DW T D) : ∀ k : Nat, DW T (RNd sm kd nds P ri n D k)
  | 0 => hD
  | k + 1 => (rnd_w hN n1 n5 (RNd_w P0 hN n1 n5 hD k) P.toNat (by omega)).1
/-- the first place where fl is 0, from r on -/
def fst0 (fl : Nat → Int) : Nat → Nat → Int
  | 0, _ => -1
  | f + 1, r => if fl r = 0 then (r : Int) else fst0 fl f (r + 1)
theorem round_cl {h0 h : fx_H} {sm : Int → Int} {D : Int → Int → Int} {T P ri n : Int} (v : TV 1 h0) (hT : h0 1 0 = T) (hPp : h0 1 2 = P) (hn : h0 1 3 = n) (hri : h0 1 4 = ri) (hC : CT sm T P ri h0) (hR : RWC h0 h0 n) (hF : CF h0 h) (h9 : P9 h) (hD : CD D h) (hW : DW T D) : Ret (f_X1_anyoneChanges FU La_167 48 1 43 h) (fun e => e.1 = (rnd sm (kdF h0) (ndF h0) P ri n D P.toNat).2 ∧ CF h0 e.2 ∧ P9 e.2 ∧ CD (rnd sm (kdF h0) (ndF h0) P ri n D P.toNat).1 e.2) := by
  have vv := v
  unfold TV at vv
  obtain ⟨⟨v1, v1'⟩, ⟨v2, v2'⟩, ⟨v3, v3'⟩, ⟨v4, v4'⟩, ⟨v5, v5'⟩, -⟩ := vv
  have hN : NW T P n (ndF h0) := fun q a b => by
    obtain ⟨d1, d2, -⟩ := nd_ok v a (show q < 5 by omega)
    exact ⟨fun t x y => by have := d1 t x y; rw [hT] at this; exact this, by omega⟩
  unfold f_X1_anyoneChanges
  refine Ret.bind (Ret.mono (loop_ix (fun s => s.2.1) (fun k s => s.1 = (rnd sm (kdF h0) (ndF h0) P ri n D k.toNat).2 ∧ CF h0 s.2.2 ∧ P9 s.2.2 ∧ CD (rnd sm (kdF h0) (ndF h0) P ri n D k.toNat).1 s.2.2) P (i := 0) (Q := fun s => s.1 = (rnd sm (kdF h0) (ndF h0) P ri n D P.toNat).2 ∧ CF h0 s.2.2 ∧ P9 s.2.2 ∧ CD (rnd sm (kdF h0) (ndF h0) P ri n D P.toNat).1 s.2.2) (FU_gt (by omega)) rfl (by omega) (by exact ⟨rfl, hF, h9, hD⟩) (fun j s ej b1 b2 ⟨i1, i2, i3, i4⟩ => ?_) (fun s es i => ?_)) (fun w hw => ?_))
  · obtain ⟨c, p, s⟩ := s
    simp only at ej i1 i2 i3 i4
    subst ej
    unfold s_X1_anyoneChanges_1
    simp only
    have wE := (rnd_w (sm := sm) (kd := kdF h0) (ri := ri) hN (by omega) (by omega) hW p.toNat (by omega)).1
    have rs := rnd_s (sm := sm) (kd := kdF h0) (nds := ndF h0) (P := P) (ri := ri) (n := n) (D := D) b1
    generalize hE : rnd sm (kdF h0) (ndF h0) P ri n D p.toNat = E at *
    obtain ⟨h1, e1, a1, a2, a3, a4, a5, a6, h2, e2, c1, c2, c3, -, -⟩ := take_cl v hT hPp hn hri hC hR i2 i3 i4 wE b1 b2
    rw [i2 1 2 (by omega) (by omega), hPp, if_pos b2, e1, Option.bind_some, a1 1 3 (by omega) (by omega), hn, a4, Option.bind_some, a5, Option.bind_some, a6, Option.bind_some, e2, Option.bind_some, wid (by omega) (by omega)]
    rw [rs]
    by_cases z : PRr sm (kdF h0) (ndF h0) P ri n E.1 p (bst sm (kdF h0) (ndF h0) P ri n E.1 p).1 < PI sm (kdF h0) E.1 (AH E.1) P ri p n
    · simp only [if_pos z]
      exact ⟨_, rfl, rfl, rfl, c1, c2, c3⟩
    · simp only [if_neg z]
      exact ⟨_, rfl, rfl, i1, a1, a2, a3⟩
  · obtain ⟨c, p, s⟩ := s
    simp only at es
    subst es
    unfold s_X1_anyoneChanges_1
    simp only
    have i2 : CF h0 s := i.2.1
    rw [i2 1 2 (by omega) (by omega), hPp, if_neg (by omega)]
    exact ⟨_, rfl, i⟩
  · obtain ⟨c, p, s⟩ := w
    obtain ⟨i1, i2, i3, i4⟩ := hw
    simp only at i1 i2 i3 i4 ⊢
    have := (rnd_w (sm := sm) (kd := kdF h0) (ri := ri) hN (by omega) (by omega) hW P.toNat (by omega)).2
    rw [zb_ok (by omega), Option.bind_some]
    exact Ret.ok ⟨i1, i2, i3, i4⟩
theorem changes_ok {h g0 g : fx_H} {sm : Int → Int} {D : Int → Int → Int} {p : Int} (v : TV 1 h) (r2 : TR2 h g0) (s9 : sm 9 = -1) (hs : SOK sm (h 1 0) g0) (hR : RWR h g0 (h 1 3)) (hF : RF g0 g) (hD : HD D g) (hW : DW (h 1 0) D) (p0 : 0 ≤ p) (p1 : p < h 1 2) : Ret (f_X6_changes FU La_167 126 p g) (fun e => RF g0 e.2 ∧ if PRr sm (kdF h) (ndF h) (h 1 2) (h 1 4) (h 1 3) D p (bst sm (kdF h) (ndF h) (h 1 2) (h 1 4) (h 1 3) D p).1 < PI sm (kdF h) D (AH D) (h 1 2) (h 1 4) p (h 1 3) then e.1 = 1 ∧ HD (TK sm (kdF h) (ndF h) (h 1 2) (h 1 4) (h 1 3) D p) e.2 else e.1 = 0 ∧ HD D e.2) := by
  have vv := v
  unfold TV at vv
  obtain ⟨⟨v1, v1'⟩, ⟨v2, v2'⟩, ⟨v3, v3'⟩, ⟨v4, v4'⟩, ⟨v5, v5'⟩, -⟩ := vv
  have hN : NW (h 1 0) (h 1 2) (h 1 3) (ndF h) := fun q a b => by
    obtain ⟨d1, d2, -⟩ := nd_ok v a (show q < 5 by omega)
    exact ⟨d1, d2⟩
  have rg : TR2 h g := TR2_congr (fun i => hF _ _ (by omega) (by omega) (by omega)) r2
  obtain ⟨w1, w2⟩ := HD_hn hD hW v1
  unfold f_X6_changes
  rw [ev_hours, Option.bind_some, rg.2.2.2.1, rf_paysIn v rg s9 (SOK_congr (fun i => hF _ _ (by omega) (by omega) (by omega)) hs) w1 p0 p1 (by omega) v4', Option.bind_some, PI_congr (D' := D) p0 p1 (fun hr q a b a' b' => w2 hr q a (by omega) a' (by omega)) ⟨v5, v5'⟩]
  refine Ret.bind (Ret.mono (loop_for (fun j s => (∀ a i : Int, a ≠ 140 → s a i = g a i) ∧ ∀ x : Int, 0 ≤ x → x < j → s 140 x = de (D x p)) 5 (FU_gt (by omega)) (by omega) ⟨fun _ _ _ => rfl, fun _ _ _ => by omega⟩ (fun j s b1 b2 ⟨i1, i2⟩ => ?_) (fun s ⟨i1, i2⟩ => ?_)) (fun r hr => ?_))
  · unfold s_X6_changes_1
    simp only [lb_tg_126_8, lb_tg_126_15]
    rw [if_pos b2, wid (z := 5 * p) (by omega) (by omega), wid (z := 5 * p + j) (by omega) (by omega), rd133 (by omega) (by omega), Option.bind_some, i1 _ _ (by omega), hD j p b1 b2 p0 (by omega), wrl lb_ln_140 b1 b2, Option.bind_some, wid (by omega) (by omega)]
    refine ⟨_, rfl, fun a i z => by rw [up_ne (by omega)]; exact i1 a i z, fun x a b => ?_⟩
    by_cases e : x = j
    · rw [up_eq rfl e, e]
    · rw [up_ne (by omega)]; exact i2 x a (by omega)
  · unfold s_X6_changes_1
    simp only
    rw [if_neg (by omega)]
  · obtain ⟨x, s⟩ := r
    obtain ⟨-, i1, i2⟩ := hr
    simp only at i1 i2 ⊢
    obtain ⟨⟨l, w⟩, e1, k1, k2, k3, k4, k5⟩ := takeBest_ok v r2 s9 hs hR (g := s) (D := D) (fun a i x y z => by rw [i1 a i z]; exact hF a i x y z) (fun hr q a b a' b' => by rw [i1 _ _ (by omega)]; exact hD hr q a b a' b') hW p0 p1
    simp only at k1 k2 k3 k4 k5
    have l2 : l = PRr sm (kdF h) (ndF h) (h 1 2) (h 1 4) (h 1 3) D p (bst sm (kdF h) (ndF h) (h 1 2) (h 1 4) (h 1 3) D p).1 := by
      rw [k1]
      have c := (cnF_b (nd := ndF h p) v4 v4').2.2.2 (hN p p0 p1).2
      exact (am_2 (f := PRr sm (kdF h) (ndF h) (h 1 2) (h 1 4) (h 1 3) D p) (b0 := 0) (fun i _ _ => by have := (PRr_b (sm := sm) (kd := kdF h) (nds := ndF h) (ri := h 1 4) (D := D) (r := i) p0 p1 v3' (show 0 ≤ h 1 3 by omega) v4').2; omega) (by omega)).1
    rw [e1, Option.bind_some]
    simp only
    rw [l2]
    by_cases z : PRr sm (kdF h) (ndF h) (h 1 2) (h 1 4) (h 1 3) D p (bst sm (kdF h) (ndF h) (h 1 2) (h 1 4) (h 1 3) D p).1 < PI sm (kdF h) D (AH D) (h 1 2) (h 1 4) p (h 1 3)
    · rw [if_pos z]
      refine Ret.ok ⟨k2, ?_⟩
      rw [if_pos z]; exact ⟨rfl, k5⟩
    · rw [if_neg z]
      refine Ret.bind (Ret.mono (loop_for (fun j s => (∀ a i : Int, ¬ (a = 133 ∧ 5 * p ≤ i ∧ i < 5 * p + j) → s a i = w a i) ∧ ∀ x : Int, 0 ≤ x → x < j → s 133 (5 * p + x) = de (D x p)) 5 (FU_gt (by omega)) (by omega) ⟨fun _ _ _ => rfl, fun _ _ _ => by omega⟩ (fun j s' b1 b2 ⟨j1, j2⟩ => ?_) (fun s' _ => ?_)) (fun r hr => ?_))
      · unfold s_X6_changes_2
        simp only [lb_tg_126_8, lb_tg_126_15]
        rw [if_pos b2, rdl lb_ln_140 b1 b2, Option.bind_some, j1 140 j (by omega), k4 j, i2 j b1 b2, wid (z := 5 * p) (by omega) (by omega), wid (z := 5 * p + j) (by omega) (by omega), wrl lb_ln_133 (by omega) (by omega), Option.bind_some, wid (by omega) (by omega)]
        refine ⟨_, rfl, fun a i z => by rw [up_ne (by omega)]; exact j1 a i (by omega), fun x a b => ?_⟩
        by_cases e : x = j
        · rw [up_eq rfl (by omega), e]
        · rw [up_ne (by omega)]; exact j2 x a (by omega)
      · unfold s_X6_changes_2
        simp only
        rw [if_neg (by omega)]
      · obtain ⟨y, s'⟩ := r
        obtain ⟨-, j1, j2⟩ := hr
        simp only at j1 j2 ⊢
        refine Ret.ok ⟨fun a i x y z => by show s' a i = _; rw [j1 a i (by omega)]; exact k2 a i x y z, ?_⟩
        rw [if_neg z]
        refine ⟨rfl, fun hr q a b a' b' => ?_⟩
        show s' 133 _ = _
        by_cases e : q = p
        · rw [e]; exact j2 hr a b
        · rw [j1 _ _ (by omega), k5 hr q a b a' b']
          unfold TK
          rw [if_neg (fun y => e y.1)]
theorem round_rf {h g0 g : fx_H} {sm : Int → Int} {D : Int → Int → Int} (v : TV 1 h) (r2 : TR2 h g0) (s9 : sm 9 = -1) (hs : SOK sm (h 1 0) g0) (hR : RWR h g0 (h 1 3)) (hF : RF g0 g) (hD : HD D g) (hW : DW (h 1 0) D) : Ret (fx_loop (s_X6_rests_2 FU La_167 126) FU (0, 0, g)) (fun e => e.1 = (rnd sm (kdF h) (ndF h) (h 1 2) (h 1 4) (h 1 3) D (h 1 2).toNat).2 ∧ RF g0 e.2.2 ∧ HD (rnd sm (kdF h) (ndF h) (h 1 2) (h 1 4) (h 1 3) D (h 1 2).toNat).1 e.2.2) := by
  have vv := v
  unfold TV at vv
  obtain ⟨⟨v1, v1'⟩, ⟨v2, v2'⟩, ⟨v3, v3'⟩, ⟨v4, v4'⟩, ⟨v5, v5'⟩, -⟩ := vv
  have hN : NW (h 1 0) (h 1 2) (h 1 3) (ndF h) := fun q a b => by
    obtain ⟨d1, d2, -⟩ := nd_ok v a (show q < 5 by omega)
    exact ⟨d1, d2⟩
  refine loop_ix (fun s => s.2.1) (fun k s => s.1 = (rnd sm (kdF h) (ndF h) (h 1 2) (h 1 4) (h 1 3) D k.toNat).2 ∧ RF g0 s.2.2 ∧ HD (rnd sm (kdF h) (ndF h) (h 1 2) (h 1 4) (h 1 3) D k.toNat).1 s.2.2) (h 1 2) (i := 0) (FU_gt (by omega)) rfl (by omega) (by exact ⟨rfl, hF, hD⟩) (fun j s ej b1 b2 ⟨i1, i2, i3⟩ => ?_) (fun s es i => ?_)
  · obtain ⟨c, p, s⟩ := s
    simp only at ej i1 i2 i3
    subst ej
    unfold s_X6_rests_2
    simp only
    obtain ⟨wE, wF⟩ := rnd_w (sm := sm) (kd := kdF h) (ri := h 1 4) hN v4 v4' hW p.toNat (by omega)
    have rs := rnd_s (sm := sm) (kd := kdF h) (nds := ndF h) (P := h 1 2) (ri := h 1 4) (n := h 1 3) (D := D) b1
    generalize hE : rnd sm (kdF h) (ndF h) (h 1 2) (h 1 4) (h 1 3) D p.toNat = E at *
    obtain ⟨⟨x, w⟩, e1, k1, k2⟩ := changes_ok v r2 s9 hs hR i2 i3 wE b1 b2
    simp only at k1 k2
    rw [ev_people, Option.bind_some, i2 127 10 (by omega) (by omega) (by omega), r2.2.2.1, if_pos b2, e1, Option.bind_some]
    simp only
    rw [wid (by omega) (by omega), rs]
    by_cases z : PRr sm (kdF h) (ndF h) (h 1 2) (h 1 4) (h 1 3) E.1 p (bst sm (kdF h) (ndF h) (h 1 2) (h 1 4) (h 1 3) E.1 p).1 < PI sm (kdF h) E.1 (AH E.1) (h 1 2) (h 1 4) p (h 1 3)
    · rw [if_pos z] at k2
      rw [if_pos (Or.inr (by omega)), if_pos z]
      exact ⟨_, rfl, rfl, rfl, k1, k2.2⟩
    · rw [if_neg z] at k2
      rw [if_neg z]
      by_cases y : c = 0
      · rw [if_neg (by omega)]
        exact ⟨_, rfl, rfl, by show 0 = _; omega, k1, k2.2⟩
      · rw [if_pos (Or.inl y)]
        exact ⟨_, rfl, rfl, by show 1 = _; omega, k1, k2.2⟩
  · obtain ⟨c, p, s⟩ := s
    simp only at es
    subst es
    unfold s_X6_rests_2
    simp only
    have i2 : RF g0 s := i.2.1
    rw [ev_people, Option.bind_some, i2 127 10 (by omega) (by omega) (by omega), r2.2.2.1, if_neg (by omega)]
    exact ⟨_, rfl, i⟩
