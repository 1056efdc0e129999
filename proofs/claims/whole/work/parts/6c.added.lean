-- needs: 6b
theorem ev_othersWith {h : fx_H} {a k p t P : Int} (hP : h 43 4 = P) (P1 : 0 ≤ P) (P5 : P ≤ 5) (la : fx_ln La_167 a = 5) (va : ∀ q : Int, 0 ≤ q → q < P → 0 ≤ h a q ∧ h a q ≤ 9) (ht : 0 ≤ t ∧ t ≤ 9) : f_X0_othersWith FU La_167 43 k a p t h = some (if fnd k t then oth (h 44) k (h a) P p t else 0) := by
  unfold f_X0_othersWith
  by_cases hf : fnd k t
  · rw [if_pos hf, sloop (f := gr (h 44) k (h a) p t) (n := P) P1 (by omega) (fun i _ _ => by have := gr_01 (h 44) k (h a) p t i; omega) (fun z i z0 z1 i0 i1 => by
      obtain ⟨v0, v9⟩ := va i i0 i1
      unfold s_X0_othersWith_1
      simp only [lb_tg_43_0]
      rw [hP, if_pos i1, ev_isFined, if_pos hf, Option.bind_some, if_pos (show ¬ (1 : Int) = 0 by decide), Option.bind_some, if_pos rfl, wid (z := i + 1) (by omega) (by omega)]
      by_cases e : i = p
      · rw [if_neg (not_not_intro e), Option.bind_some, if_neg (by decide)]
        have : gr (h 44) k (h a) p t i = 0 := by unfold gr; rw [if_neg (fun z => z.1 e)]
        rw [this, Int.add_zero]
      · rw [if_pos e, rdl la i0 (by omega), Option.bind_some, rd44 v0 v9, Option.bind_some, rd44 ht.1 ht.2, Option.bind_some]
        by_cases e2 : h 44 (h a i) = h 44 t
        · rw [if_pos e2, Option.bind_some, ev_isFined, Option.bind_some]
          by_cases e3 : fnd k (h a i)
          · rw [if_pos e3, if_pos (show ¬ (1 : Int) = 0 by decide), Option.bind_some, if_pos rfl, wid (by omega) (by omega)]
            have : gr (h 44) k (h a) p t i = 1 := by unfold gr; rw [if_pos ⟨e, e2, e3⟩]
            rw [this]
          · rw [if_neg e3, if_neg (show ¬ ¬ (0 : Int) = 0 by decide), Option.bind_some, if_neg (by decide)]
            have : gr (h 44) k (h a) p t i = 0 := by unfold gr; rw [if_neg (fun z => e3 z.2.2)]
            rw [this, Int.add_zero]
        · rw [if_neg e2, Option.bind_some, if_neg (by decide)]
          have : gr (h 44) k (h a) p t i = 0 := by unfold gr; rw [if_neg (fun z => e2 z.2.1)]
          rw [this, Int.add_zero]) (fun z => by
      unfold s_X0_othersWith_1
      simp only
      rw [hP, if_neg (Int.lt_irrefl P), Option.bind_some, if_neg (by decide)])]
    rfl
  · rw [if_neg hf]
    have : fx_loop (s_X0_othersWith_1 FU La_167 43 k a p t h) FU (0, 0) = some (0, 0) := by
      refine loop_seq (fun _ => ((0 : Int), (0 : Int))) 0 (fun j hj => by omega) ?_ (FU_gt (by omega))
      unfold s_X0_othersWith_1
      simp only
      rw [ev_isFined, if_neg hf, Option.bind_some, if_neg (show ¬ ¬ (0 : Int) = 0 by decide)]
      split <;> rfl
    rw [this]; rfl
theorem ev_addedToCopies {h : fx_H} {a b p t P : Int} (hP : h 43 4 = P) (P1 : 0 ≤ P) (P5 : P ≤ 5) (la : fx_ln La_167 a = 5) (lb : fx_ln La_167 b = 5) (va : ∀ q : Int, 0 ≤ q → q < P → 0 ≤ h a q ∧ h a q ≤ 9) (vb : ∀ q : Int, 0 ≤ q → q < P → 0 ≤ h b q ∧ h b q ≤ 9) (ht : 0 ≤ t ∧ t ≤ 9) : f_X0_addedToCopies FU La_167 43 a b p t h = some (2 * atc (h 44) (h a) (h b) P p t) := by
  unfold f_X0_addedToCopies
  rw [sloop (f := fun q => 2 * (if ¬ q = p ∧ h 44 (h b q) = h 44 t ∧ ¬ 0 < wdn (h 44) (h a) P q t then 1 else 0)) (n := P) P1 (by omega) (fun i _ _ => by split <;> omega) (fun z i z0 z1 i0 i1 => by
    obtain ⟨v0, v9⟩ := vb i i0 i1
    unfold s_X0_addedToCopies_1
    simp only [lb_tg_43_0]
    rw [hP, if_pos i1, wid (z := i + 1) (by omega) (by omega)]
    by_cases e : i = p
    · rw [if_neg (not_not_intro e), Option.bind_some, if_neg (by decide), if_neg (fun z => z.1 e), Int.mul_zero, Int.add_zero]
    · rw [if_pos e, rdl lb i0 (by omega), Option.bind_some, rd44 v0 v9, Option.bind_some, rd44 ht.1 ht.2, Option.bind_some]
      by_cases e2 : h 44 (h b i) = h 44 t
      · rw [if_pos e2, ev_wasDone hP P1 P5 la va ht, Option.bind_some]
        by_cases e3 : 0 < wdn (h 44) (h a) P i t
        · rw [if_pos e3, if_neg (show ¬ (1 : Int) = 0 by decide), Option.bind_some, if_neg (by decide), if_neg (fun z => z.2.2 e3), Int.mul_zero, Int.add_zero]
        · rw [if_neg e3, if_pos rfl, Option.bind_some, if_pos rfl, if_pos ⟨e, e2, e3⟩, wid (by omega) (by omega)]; rfl
      · rw [if_neg e2, Option.bind_some, if_neg (by decide), if_neg (fun z => e2 z.2.1), Int.mul_zero, Int.add_zero]) (fun z => by
    unfold s_X0_addedToCopies_1
    simp only
    rw [hP, if_neg (Int.lt_irrefl P)]), sumI_mul]
  rfl
theorem oth_cg {sm sm' : Int → Int} {k : Int} {nw nw' : Int → Int} {P p t : Int} (e0 : sm t = sm' t) (e1 : ∀ q : Int, 0 ≤ q → q < P → nw q = nw' q ∧ sm (nw q) = sm' (nw' q)) : oth sm k nw P p t = oth sm' k nw' P p t := sumI_congr (fun q a b => by
  obtain ⟨x, y⟩ := e1 q a (by omega)
  unfold gr
  rw [e0, y, x])
theorem wdn_cg {sm sm' : Int → Int} {nw nw' : Int → Int} {P p t : Int} (e0 : sm t = sm' t) (e1 : ∀ q : Int, 0 ≤ q → q < P → sm (nw q) = sm' (nw' q)) : wdn sm nw P p t = wdn sm' nw' P p t := sumI_congr (fun q a b => by
  unfold wd1
  rw [e0, e1 q a (by omega)])
theorem atc_cg {sm sm' : Int → Int} {nw nw' nx nx' : Int → Int} {P p t : Int} (e0 : sm t = sm' t) (e1 : ∀ q : Int, 0 ≤ q → q < P → sm (nw q) = sm' (nw' q)) (e2 : ∀ q : Int, 0 ≤ q → q < P → sm (nx q) = sm' (nx' q)) : atc sm nw nx P p t = atc sm' nw' nx' P p t := sumI_congr (fun q a b => by
  rw [wdn_cg e0 e1, e0, e2 q a (by omega)])
theorem ev_added {h : fx_H} {sm : Int → Int} {D : Int → Int → Int} {hr p t T P ri : Int} (v : TV 1 h) (hC : CT sm T P ri h) (hD : CD D h) (hW : DW T D) (P1 : 0 ≤ P) (P5 : P ≤ 5) (T9 : T ≤ 9) (r0 : 0 ≤ hr) (r5 : hr < 5) (t0 : 0 ≤ t) (t1 : t < T) : f_X0_added FU La_167 43 1 49 hr p t h = some (adI sm (kdF h) D P p hr t) := by
  obtain ⟨c1, c2, c3, c4⟩ := hC
  have kb := kdF_b (hr := hr) v
  have pc := PRA_c kb.1 kb.2
  have dv : ∀ x q : Int, 0 ≤ x → x < 5 → 0 ≤ q → q < P → h (50 + x) q = D x q ∧ 0 ≤ h (50 + x) q ∧ h (50 + x) q ≤ 9 ∧ h 44 (h (50 + x) q) = sm (D x q) := fun x q a b a' b' => by
    have w := hW x q a b a' (by omega)
    rw [hD x q a b a' (by omega)]
    exact ⟨rfl, w.1, w.2.1, c4 _ (by omega)⟩
  have D5 : DOK T h 49 := fun x q a b a' b' => by rw [show (49 : Int) + 1 + x = 50 + x by omega, hD x q a b a' b']; exact hW x q a b a' b'
  have av : ∀ q : Int, 0 ≤ q → q < P → 0 ≤ h (ahc 49 hr) q ∧ h (ahc 49 hr) q ≤ 9 ∧ h 44 (h (ahc 49 hr) q) = sm (AH D hr q) := fun q a b => by
    have := ahc_v D5 c3 r0 r5 a (show q < 5 by omega)
    have e : AH (dF h 49) hr q = AH D hr q := by
      unfold AH dF
      by_cases c : 0 < hr
      · rw [if_pos c, if_pos c, show (49 : Int) + 1 + (hr - 1) = 50 + (hr - 1) by omega, hD _ q (by omega) (by omega) a (by omega)]
      · rw [if_neg c, if_neg c]
    rw [e] at this
    rw [this.1]
    exact ⟨this.2.1, this.2.2.1, c4 _ (by omega)⟩
  have ob := oth_b (sm := sm) (k := kdF h hr) (nw := D hr) (p := p) (t := t) P1
  have x : 0 ≤ (if fnd (kdF h hr) t then oth sm (kdF h hr) (D hr) P p t else 0) ∧ (if fnd (kdF h hr) t then oth sm (kdF h hr) (D hr) P p t else 0) ≤ 5 := by split <;> omega
  have y : 0 ≤ PRA (kdF h hr) * (if fnd (kdF h hr) t then oth sm (kdF h hr) (D hr) P p t else 0) ∧ PRA (kdF h hr) * (if fnd (kdF h hr) t then oth sm (kdF h hr) (D hr) P p t else 0) ≤ 4 * 5 := ⟨Int.mul_nonneg (by omega) x.1, Int.mul_le_mul (by omega) x.2 x.1 (by omega)⟩
  unfold f_X0_added
  rw [ev_kindOf v, Option.bind_some, PRA_v kb.1 kb.2, Option.bind_some, day_rr r0 r5, Option.bind_some, ev_othersWith c1 P1 P5 (lb_ln_day r0 r5) (fun q a b => by have := dv hr q r0 r5 a b; omega) (by omega), Option.bind_some, oth_cg (sm' := sm) (nw' := D hr) (c4 t (Or.inl ⟨t0, t1⟩)) (fun q a b => ⟨(dv hr q r0 r5 a b).1, (dv hr q r0 r5 a b).2.2.2⟩), ev_aheadOf dc_49, Option.bind_some, ev_wasDone c1 P1 P5 (ahc_ln dc_49) (fun q a b => ⟨(av q a b).1, (av q a b).2.1⟩) (by omega), Option.bind_some, wdn_cg (sm' := sm) (nw' := AH D hr) (c4 t (Or.inl ⟨t0, t1⟩)) (fun q a b => (av q a b).2.2)]
  unfold adI
  rw [if_neg (show ¬ t = 9 by omega)]
  generalize PRA (kdF h hr) * (if fnd (kdF h hr) t then oth sm (kdF h hr) (D hr) P p t else 0) = z at y
  have e1 : ((if kdF h hr = 5 then (if ¬ (if 0 < wdn sm (AH D hr) P p t then (1 : Int) else 0) = 0 then some true else some false) else some false).bind fun b12 => if b12 = true then some (fx_w (fx_w z + 2)) else some (fx_w z)) = some (z + (if kdF h hr = 5 ∧ 0 < wdn sm (AH D hr) P p t then 2 else 0)) := by
    rw [wid (z := z) (by omega) (by omega), wid (z := z + 2) (by omega) (by omega)]
    by_cases k5 : kdF h hr = 5
    · rw [if_pos k5]
      by_cases w : 0 < wdn sm (AH D hr) P p t
      · rw [if_pos w, if_pos (by decide), Option.bind_some, if_pos rfl, if_pos ⟨k5, w⟩]
      · rw [if_neg w, if_neg (by decide), Option.bind_some, if_neg (by decide), if_neg (fun z => w z.2), Int.add_zero]
    · rw [if_neg k5, Option.bind_some, if_neg (by decide), if_neg (fun z => k5 z.1), Int.add_zero]
  rw [e1, Option.bind_some, wid (z := hr + 1) (by omega) (by omega), ev_kindOf v, Option.bind_some, Option.bind_some]
  by_cases k5 : kdF h (hr + 1) = 5
  · have h4 : hr + 1 < 5 := by
      by_cases c : hr + 1 < 5
      · exact c
      · unfold kdF at k5
        rw [if_neg (by omega)] at k5
        omega
    have ab := atc_b (sm := sm) (nw := D hr) (nxt := D (hr + 1)) (p := p) (t := t) P1
    rw [if_pos k5, if_pos k5, day_rr (by omega) h4, Option.bind_some, ev_addedToCopies c1 P1 P5 (lb_ln_day r0 r5) (lb_ln_day (by omega) h4) (fun q a b => by have := dv hr q r0 r5 a b; omega) (fun q a b => by have := dv (hr + 1) q (by omega) h4 a b; omega) (by omega), Option.bind_some, atc_cg (sm' := sm) (nw' := D hr) (nx' := D (hr + 1)) (c4 t (Or.inl ⟨t0, t1⟩)) (fun q a b => (dv hr q r0 r5 a b).2.2.2) (fun q a b => (dv (hr + 1) q (by omega) h4 a b).2.2.2)]
    have : (0 : Int) ≤ (if kdF h hr = 5 ∧ 0 < wdn sm (AH D hr) P p t then 2 else 0) ∧ (if kdF h hr = 5 ∧ 0 < wdn sm (AH D hr) P p t then (2 : Int) else 0) ≤ 2 := by split <;> omega
    rw [wid (by omega) (by omega)]; rfl
  · rw [if_neg k5, if_neg k5, Int.add_zero]; rfl
theorem nd_rd {s : fx_H} {p t : Int} (p0 : 0 ≤ p) (p5 : p < 5) (t0 : 0 ≤ t) (t9 : t < 9) : ((fx_rr La_167 (fx_tg La_167 1 9) p).bind fun v19 => fx_rd La_167 s v19 t) = some (s (11 + p) t) := by
  rw [tc_tg_9 TC_1, show (1 : Int) + 9 = 10 from rfl, rr_ok p0 (by rw [lb_ln_10]; exact p5), Option.bind_some, show fx_tg La_167 10 p = 11 + p by rw [show (10 : Int) = 1 + 9 from rfl, tc_needs TC_1 p0 p5]; omega, rdl (show fx_ln La_167 (11 + p) = 9 by have := tc_lnN TC_1 p0 p5; rw [show (1 : Int) + 10 + p = 11 + p by omega] at this; exact this) t0 t9]
theorem pricesAll_ok {h : fx_H} {sm : Int → Int} {D : Int → Int → Int} {p T P ri n : Int} (v : TV 1 h) (hT : h 1 0 = T) (hC : CT sm T P ri h) (hD : CD D h) (hW : DW T D) (P5 : P ≤ 5) (p0 : 0 ≤ p) (p1 : p < P) (n0 : 0 ≤ n) (n5 : n ≤ 5) : Ret (fx_loop (s_X1_startPerson_1 FU La_167 48 1 43 p n) FU (0, h)) (fun h' => (∀ a i : Int, ¬ (a = 79 + p ∧ ∃ r t : Int, 0 ≤ r ∧ r < 5 ∧ 0 ≤ t ∧ t < 9 ∧ i = r * 10 + t) → h'.2 a i = h a i) ∧ ∀ hr t : Int, 0 ≤ hr → hr < n → 0 ≤ t → t < T → 0 < h (11 + p) t → h'.2 (79 + p) (hr * 10 + t) = adI sm (kdF h) D P p hr t) := by
  have T9 : T ≤ 9 := by rw [← hT]; unfold TV at v; exact v.1.2
  have T0 : 0 ≤ T := by rw [← hT]; unfold TV at v; exact v.1.1
  refine Ret.mono (loop_for (fun j s => (∀ a i : Int, ¬ (a = 79 + p ∧ ∃ r t : Int, 0 ≤ r ∧ r < 5 ∧ 0 ≤ t ∧ t < 9 ∧ i = r * 10 + t) → s a i = h a i) ∧ ∀ hr t : Int, 0 ≤ hr → hr < j → 0 ≤ t → t < T → 0 < h (11 + p) t → s (79 + p) (hr * 10 + t) = adI sm (kdF h) D P p hr t) n (FU_gt (by omega)) (by omega) ⟨fun _ _ _ => rfl, fun _ _ _ _ => by omega⟩ (fun r s b1 b2 ⟨i1, i2⟩ => ?_) (fun s ⟨i1, i2⟩ => ?_)) (fun r hr => hr.2)
  · have f1 : ∀ a i : Int, a ≠ 79 + p → s a i = h a i := fun a i z => i1 a i (fun q => z q.1)
    unfold s_X1_startPerson_1
    simp only
    rw [if_pos b2]
    have key : Ret (fx_loop (s_X1_startPerson_2 FU La_167 48 1 43 p r) FU (0, s)) (fun e => (∀ a i : Int, ¬ (a = 79 + p ∧ r * 10 ≤ i ∧ i < r * 10 + T) → e.2 a i = s a i) ∧ ∀ t : Int, 0 ≤ t → t < T → 0 < h (11 + p) t → e.2 (79 + p) (r * 10 + t) = adI sm (kdF h) D P p r t) := by
      refine Ret.mono (loop_for (fun j w => (∀ a i : Int, ¬ (a = 79 + p ∧ r * 10 ≤ i ∧ i < r * 10 + j) → w a i = s a i) ∧ ∀ t : Int, 0 ≤ t → t < j → 0 < h (11 + p) t → w (79 + p) (r * 10 + t) = adI sm (kdF h) D P p r t) T (FU_gt (by omega)) (by omega) ⟨fun _ _ _ => rfl, fun _ _ _ => by omega⟩ (fun t w c1 c2 ⟨j1, j2⟩ => ?_) (fun w ⟨j1, j2⟩ => ?_)) (fun e he => he.2)
      · have g1 : ∀ a i : Int, a ≠ 79 + p → w a i = h a i := fun a i z => by rw [j1 a i (fun q => z q.1)]; exact f1 a i z
        have vw : TV 1 w := TV_congr (fun a i _ _ => g1 a i (by omega)) v
        have kE : kdF w = kdF h := by funext x; unfold kdF; rw [g1 _ _ (by omega)]
        have nr := nd_rd (s := w) p0 (show p < 5 by omega) c1 (show t < 9 by omega)
        obtain ⟨x1, x2, x3⟩ := Option.bind_eq_some_iff.mp nr
        unfold s_X1_startPerson_2
        simp only [lb_tg_48_0, lb_tg_48_12]
        rw [g1 1 0 (by omega), hT, if_pos c2, x2, Option.bind_some, x3, Option.bind_some, g1 (11 + p) t (by omega), wid (z := t + 1) (by omega) (by omega)]
        by_cases z : 0 < h (11 + p) t
        · rw [if_pos z, pr_rr p0 (by omega), Option.bind_some, ev_added vw (CT_congr (fun a i z => g1 a i (by omega)) hC) (fun x y a b a' b' => by rw [g1 _ _ (by omega)]; exact hD x y a b a' b') hW (by omega) P5 T9 b1 (by omega) c1 c2, Option.bind_some, wid (z := r * 10) (by omega) (by omega), wid (z := r * 10 + t) (by omega) (by omega), wrl (lb_ln_pr p0 (by omega)) (by omega) (by omega), Option.bind_some, kE]
          refine ⟨_, rfl, fun a i z => ?_, fun x a b d => ?_⟩
          · rw [up_ne (by omega)]; exact j1 a i (by omega)
          · by_cases e : x = t
            · rw [up_eq rfl (by omega), e]
            · rw [up_ne (by omega)]; exact j2 x a (by omega) d
        · rw [if_neg z]
          refine ⟨_, rfl, fun a i z => j1 a i (by omega), fun x a b d => ?_⟩
          by_cases e : x = t
          · rw [e] at d; exact absurd d z
          · exact j2 x a (by omega) d
      · unfold s_X1_startPerson_2
        simp only
        rw [j1 1 0 (by omega), f1 1 0 (by omega), hT, if_neg (by omega)]
    obtain ⟨⟨x, w⟩, e1, k1, k2⟩ := key
    simp only at k1 k2
    rw [e1, Option.bind_some]
    simp only
    rw [wid (by omega) (by omega)]
    refine ⟨_, rfl, fun a i z => ?_, fun x t a b a' b' d => ?_⟩
    · rw [k1 a i (fun q => z ⟨q.1, r, i - r * 10, b1, by omega, by omega, by omega, by omega⟩)]; exact i1 a i z
    · by_cases e : x = r
      · subst e; exact k2 t a' b' d
      · rw [k1 _ _ (by omega)]; exact i2 x t a (by omega) a' b' d
  · unfold s_X1_startPerson_1
    simp only
    rw [if_neg (by omega)]
theorem priceOfRow_g {h : fx_H} {nd : Int → Int} {f : Int → Int} {p r n : Int} (n1 : 1 ≤ n) (n5 : n ≤ 5) (p0 : 0 ≤ p) (p5 : p < 5) (r0 : 0 ≤ r) (r1 : r < 120) (hr : ∀ j : Int, 0 ≤ j → j < n → h (68 + p) (5 * r + j) = rwF nd n r j ∧ 0 ≤ rwF nd n r j ∧ rwF nd n r j ≤ 9) (hf : ∀ j : Int, 0 ≤ j → j < n → h (79 + p) (j * 10 + rwF nd n r j) = f j ∧ 0 ≤ f j ∧ f j ≤ 1000) : f_X1_priceOfRow FU La_167 48 p r n h = some (sumI n.toNat f) := by
  unfold f_X1_priceOfRow
  rw [sloop (f := f) (n := n) (by omega) (by omega) (fun i a b => (hf i a b).2) (fun z i z0 z1 i0 i1 => by
    obtain ⟨x1, x2, x3⟩ := hr i i0 i1
    obtain ⟨y1, y2, y3⟩ := hf i i0 i1
    unfold s_X1_priceOfRow_1
    simp only [lb_tg_48_6, lb_tg_48_12]
    rw [if_pos i1, pr_rr p0 p5, Option.bind_some, rw_rr p0 p5, Option.bind_some, wid (z := r * 5) (by omega) (by omega), wid (z := r * 5 + i) (by omega) (by omega), rdl (lb_ln_rw p0 p5) (by omega) (by omega), Option.bind_some, show r * 5 + i = 5 * r + i by omega, x1, wid (z := i * 10) (by omega) (by omega), wid (z := i * 10 + rwF nd n r i) (by omega) (by omega), rdl (lb_ln_pr p0 p5) (by omega) (by omega), Option.bind_some, y1, wid (by omega) (by omega), wid (by omega) (by omega)]) (fun z => by
    unfold s_X1_priceOfRow_1
    simp only
    rw [if_neg (by omega)])]
  rfl
