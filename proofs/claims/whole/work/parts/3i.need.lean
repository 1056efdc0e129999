-- needs: 3a 3b 3c 3d 3e 3f
section SIM
variable {CL CP : fx_H → Prop} {k : Int} {h : fx_H}
theorem sim_undo (hL : FrC CL) (hP : FrC CP) (R : Rel CL CP k h) (hk : k ≤ 1000) : Sm CL CP k (f_X5_undo FU La_167 0 h) (f_X6_undo FU La_167 126) := by
  obtain ⟨RV, RR, R3, R4, R5, R6, R7⟩ := id R
  have RV' := RV
  have RR' := RR
  unfold TV at RV'
  unfold TR at RR'
  obtain ⟨⟨v1, v1'⟩, ⟨v2, v2'⟩, ⟨v3, v3'⟩, ⟨v4, v4'⟩, ⟨v5, v5'⟩, ⟨v6, v6'⟩, v7, v8, v9, v10, v11, v12, v13⟩ := RV'
  obtain ⟨r1, r2, r3, r4, r5, r6, r7, r8, r9, r10, r11, r12⟩ := RR'
  simp only [Int.zero_add] at r1 r2 r3 r4 r5 r6 r7 r8 r9 r10 r11 r12
  obtain ⟨⟨k1, k2⟩, -⟩ := id R7
  by_cases c0 : h 1 5 < 1
  · refine sm_no hL hP R ?_ (fun g hg => ?_)
    · unfold f_X5_undo
      simp only [lb_tg_0_0, f_X5_refuseNo, c0, if_true, Option.bind_some]
    · have g6 : g 127 94 = 0 := by rw [hg _ _ (by omega)]; omega
      unfold f_X6_undo
      rw [lb_tg_126_0, rd127 (by omega) (by omega), Option.bind_some]
      simp only [g6, if_true, ev_no, Option.bind_some]
  · obtain ⟨w1, w2, w3, w4, w5⟩ := v13 (h 1 5 - 1) (by omega) (by omega)
    obtain ⟨x1, x2, x3⟩ := r12 (h 1 5 - 1) (by omega) (by omega)
    simp only [show (1 : Int) + 16 = 17 from rfl, show (1 : Int) + 17 = 18 from rfl, show (1 : Int) + 18 = 19 from rfl] at w1 w2 w3 w4 w5 x1 x2 x3
    generalize hp : h 17 (h 1 5 - 1) = p at w1 w2 x1
    generalize hq : h 18 (h 1 5 - 1) = q at w3 w4 x2
    generalize ht : h 19 (h 1 5 - 1) = t at w5 x3
    have hx : f_X5_undo FU La_167 0 h = some (1, fx_up (fx_up (fx_up h 0 13 (h 0 13 + 1)) 1 5 (h 1 5 - 1)) (5 + q) p t) := by
      unfold f_X5_undo f_X4_undoLast
      simp (disch := omega) only [lb_tg_0_0, wid, up_ne, up_eq, tc_tg_8 TC_1, tc_tg_11 TC_1, tc_tg_12 TC_1, tc_tg_13 TC_1]
      rw [if_neg c0, if_pos (by omega)]
      simp only [show (1 : Int) + 16 = 17 from rfl, show (1 : Int) + 17 = 18 from rfl, show (1 : Int) + 18 = 19 from rfl]
      rw [rd_ok (by omega) (by rw [lb_ln_18]; omega), Option.bind_some, up_ne (by omega), up_ne (by omega), hq, rr_ok (by omega) (by rw [show (1 : Int) + 3 = 4 from rfl, lb_ln_4]; omega), Option.bind_some, tc_doing TC_1 (by omega) (by omega), rd_ok (by omega) (by rw [lb_ln_17]; omega), Option.bind_some, up_ne (by omega), up_ne (by omega), hp, rd_ok (by omega) (by rw [lb_ln_19]; omega), Option.bind_some, up_ne (by omega), up_ne (by omega), ht, wr_ok (by omega) (by rw [tc_lnD TC_1 (by omega) (by omega)]; omega), Option.bind_some, Option.bind_some, show (1 : Int) + 4 + q = 5 + q by omega]
    have F : ∀ i : Int, (fx_up (fx_up (fx_up h 0 13 (h 0 13 + 1)) 1 5 (h 1 5 - 1)) (5 + q) p t) 127 i = h 127 i := fun i => by simp (disch := omega) only [up_ne, up_eq]
    have hy : f_X6_undo FU La_167 126 (fx_up (fx_up (fx_up h 0 13 (h 0 13 + 1)) 1 5 (h 1 5 - 1)) (5 + q) p t) = some (1, fx_up (fx_up (fx_up (fx_up (fx_up h 0 13 (h 0 13 + 1)) 1 5 (h 1 5 - 1)) (5 + q) p t) 127 94 (h 1 5 - 1)) 127 (19 + 5 * p + q) (de t)) := by
      unfold f_X6_undo
      generalize hg : fx_up (fx_up (fx_up h 0 13 (h 0 13 + 1)) 1 5 (h 1 5 - 1)) (5 + q) p t = g
      rw [hg] at F
      rw [lb_tg_126_0, rd127 (by omega) (by omega), Option.bind_some, F, r6, if_neg (by omega), Option.bind_some, wid (by omega) (by omega), wr127 (by omega) (by omega), Option.bind_some, rd127 (by omega) (by omega), Option.bind_some, up_eq rfl rfl]
      simp (disch := omega) only [wid]
      rw [rd127 (by omega) (by omega), Option.bind_some, rd127 (by omega) (by omega), Option.bind_some, rd127 (by omega) (by omega), Option.bind_some]
      simp (disch := omega) only [up_ne, F, x1, x2, x3, wid]
      rw [wr127 (by omega) (by omega), Option.bind_some]
    refine sm_town R hx (y' := fun g => fx_up (fx_up g 127 94 (h 1 5 - 1)) 127 (19 + 5 * p + q) (de t)) hy (fun a i b1 b2 b3 => ?_) ?_ ?_ ?_
    · simp (disch := omega) only [up_ne, up_eq]
    · simp (disch := omega) only [up_ne, up_eq]
    · unfold TV
      refine ⟨?_, ?_, ?_, ?_, ?_, ?_, fun t a b => ?_, fun q a b => ?_, fun q_1 p_1 a b a' b' => ?_, fun p t a b a' b' => ?_, fun p a b => ?_, fun p a b => ?_, fun j a b => ?_⟩
      · simp (disch := omega) only [up_ne, up_eq]; omega
      · simp (disch := omega) only [up_ne, up_eq]; omega
      · simp (disch := omega) only [up_ne, up_eq]; omega
      · simp (disch := omega) only [up_ne, up_eq]; omega
      · simp (disch := omega) only [up_ne, up_eq]; omega
      · simp (disch := omega) only [up_ne, up_eq]; omega
      · (try simp (disch := omega) only [up_ne, up_eq] at b); (try simp (disch := omega) only [up_ne, up_eq]); exact v7 t a b
      · simp (disch := omega) only [up_ne, up_eq]; exact v8 q a b
      · by_cases e : q_1 = q ∧ p_1 = p
        · obtain ⟨rfl, rfl⟩ := e; simp (disch := omega) only [up_ne, up_eq]; exact w5
        · simp (disch := omega) only [up_ne, up_eq]; exact v9 q_1 p_1 a b a' b'
      · simp (disch := omega) only [up_ne, up_eq]; exact v10 p t a b a' b'
      · simp (disch := omega) only [up_ne, up_eq]; exact v11 p a b
      · simp (disch := omega) only [up_ne, up_eq]; exact v12 p a b
      · (try simp (disch := omega) only [up_ne, up_eq] at b); (try simp (disch := omega) only [up_ne, up_eq]); exact v13 j a (by omega)
    · unfold TR
      simp only [Int.zero_add]
      refine ⟨?_, ?_, ?_, ?_, ?_, ?_, fun t a b => ?_, fun q a b => ?_, fun q_1 p_1 a b a' b' => ?_, fun p t a b a' b' => ?_, fun p a b => ?_, fun j a b => ?_⟩
      · simp (disch := omega) only [up_ne, up_eq]; exact r1
      · simp (disch := omega) only [up_ne, up_eq]; exact r2
      · simp (disch := omega) only [up_ne, up_eq]; exact r3
      · simp (disch := omega) only [up_ne, up_eq]; exact r4
      · simp (disch := omega) only [up_ne, up_eq]; exact r5
      · simp (disch := omega) only [up_ne, up_eq]
      · (try simp (disch := omega) only [up_ne, up_eq] at b); (try simp (disch := omega) only [up_ne, up_eq]); exact r7 t a b
      · simp (disch := omega) only [up_ne, up_eq]; exact r8 q a b
      · by_cases e : q_1 = q ∧ p_1 = p
        · obtain ⟨rfl, rfl⟩ := e; simp (disch := omega) only [up_ne, up_eq]
        · simp (disch := omega) only [up_ne, up_eq]; exact r9 q_1 p_1 a b a' b'
      · simp (disch := omega) only [up_ne, up_eq]; exact r10 p t a b a' b'
      · simp (disch := omega) only [up_ne, up_eq]; exact r11 p a b
      · (try simp (disch := omega) only [up_ne, up_eq] at b); (try simp (disch := omega) only [up_ne, up_eq]); exact r12 j a (by omega)
end SIM
theorem sum_ext {f : Int → Int} {n : Nat} : ∀ {m : Nat}, n ≤ m → (∀ i : Int, n ≤ i → i < m → f i = 0) → sumI m f = sumI n f
  | 0, h, _ => by
    have : n = 0 := by omega
    subst this; rfl
  | m + 1, h, hz => by
    by_cases e : n = m + 1
    · subst e; rfl
    · show sumI m f + f m = _
      rw [hz m (by omega) (by omega), sum_ext (n := n) (m := m) (by omega) (fun i h0 h1 => hz i h0 (by omega))]; omega
theorem sum_nonneg {f : Int → Int} : ∀ {m : Nat}, (∀ i : Int, 0 ≤ i → i < m → 0 ≤ f i) → 0 ≤ sumI m f
  | 0, _ => Int.le_refl 0
  | m + 1, h => by
    have h1 := sum_nonneg (m := m) (f := f) (fun i a b => h i a (by omega))
    have h2 := h m (by omega) (by omega)
    show 0 ≤ sumI m f + f m
    omega
theorem sum_ge {f : Int → Int} {j : Int} (j0 : 0 ≤ j) : ∀ {m : Nat}, j < m → (∀ i : Int, 0 ≤ i → i < m → 0 ≤ f i) → f j ≤ sumI m f
  | 0, hj, _ => by omega
  | m + 1, hj, h => by
    show f j ≤ sumI m f + f m
    by_cases e : j = m
    · have := sum_nonneg (m := m) (f := f) (fun i a b => h i a (by omega))
      subst e; omega
    · have h1 := sum_ge (f := f) j0 (m := m) (by omega) (fun i a b => h i a (by omega))
      have h2 := h m (by omega) (by omega)
      omega
theorem sum_le {f : Int → Int} {n : Nat} : ∀ {m : Nat}, n ≤ m → (∀ i : Int, 0 ≤ i → i < m → 0 ≤ f i) → sumI n f ≤ sumI m f
  | 0, h, _ => by
    have : n = 0 := by omega
    subst this; exact Int.le_refl _
  | m + 1, h, hz => by
    by_cases e : n = m + 1
    · subst e; exact Int.le_refl _
    · show _ ≤ sumI m f + f m
      have := sum_le (f := f) (n := n) (m := m) (by omega) (fun i a b => hz i a (by omega))
      have h2 := hz m (by omega) (by omega)
      omega
theorem sum_upd {f g : Int → Int} {j v : Int} (j0 : 0 ≤ j) (hg : ∀ i : Int, g i = if i = j then v else f i) : ∀ {m : Nat}, j < m → sumI m g = sumI m f - f j + v
  | 0, hj => by omega
  | m + 1, hj => by
    show sumI m g + g m = sumI m f + f m - f j + v
    by_cases e : j = m
    · rw [sumI_congr (f := g) (g := f) (fun i a b => by rw [hg, if_neg (by omega)]), hg, if_pos e.symm, e]; omega
    · rw [sum_upd (f := f) (g := g) j0 hg (m := m) (by omega), hg m, if_neg (fun q => e q.symm)]; omega
/-- the sum of what one needs, as the class has it -/
theorem needed_ok {c p : Int} {h : fx_H} (hc : TC c) (hv : TV c h) (p0 : 0 ≤ p) (p1 : p < 5) : f_X4_needed FU La_167 c p h = some (sumI 9 (fun t => h (c + 10 + p) t)) := by
  unfold TV at hv
  obtain ⟨⟨v1, v1'⟩, -, -, ⟨v4, v4'⟩, -, -, -, -, -, v10, v11, -⟩ := hv
  have w11 := v11 p p0 p1
  have hn : ∀ i : Int, 0 ≤ i → i < (9 : Nat) → 0 ≤ (fun t => h (c + 10 + p) t) i := fun i a b => (v10 p i p0 p1 a (by omega)).1
  have es : sumI 9 (fun t => h (c + 10 + p) t) = sumI (h c 0).toNat (fun t => h (c + 10 + p) t) := sum_ext (by omega) (fun i a b => (v10 p i p0 p1 (by omega) (by omega)).2 (by omega))
  unfold f_X4_needed
  have L := loop_ret (step := s_X4_needed_1 FU La_167 c p h) (fun s => ∃ j : Nat, (j : Int) ≤ h c 0 ∧ s = (sumI j (fun t => h (c + 10 + p) t), (j : Int))) (fun s => (h c 0 - s.2).toNat) (Q := fun s => s.1 = sumI 9 (fun t => h (c + 10 + p) t)) (fun s hs => by
    obtain ⟨j, hj, rfl⟩ := hs
    unfold s_X4_needed_1
    simp only
    by_cases e : (j : Int) < h c 0
    · have b1 := v10 p j p0 p1 (by omega) (by omega)
      have b2 := sum_le (f := fun t => h (c + 10 + p) t) (n := j + 1) (m := 9) (by omega) hn
      have b3 := sum_nonneg (f := fun t => h (c + 10 + p) t) (m := j) (fun i a b => hn i a (by omega))
      have b4 : sumI (j + 1) (fun t => h (c + 10 + p) t) = sumI j (fun t => h (c + 10 + p) t) + h (c + 10 + p) j := rfl
      refine Or.inl ⟨(sumI (j + 1) (fun t => h (c + 10 + p) t), ((j + 1 : Nat) : Int)), ?_, ⟨j + 1, by omega, rfl⟩, by show (h c 0 - ((j + 1 : Nat) : Int)).toNat < (h c 0 - (j : Int)).toNat; omega⟩
      rw [if_pos e, tc_tg_9 hc, rr_ok p0 (by rw [tc_ln_9 hc]; exact p1), Option.bind_some, tc_needs hc p0 p1, rd_ok (by omega) (by rw [tc_lnN hc p0 p1]; omega), Option.bind_some, wid (by omega) (by omega), wid (by omega) (by omega)]
      rfl
    · refine Or.inr ⟨_, by rw [if_neg e], ?_⟩
      have : (h c 0).toNat = j := by omega
      show sumI j _ = _
      rw [es, this]) FU (0, 0) ⟨0, by omega, rfl⟩ (FU_gt (by show (h c 0 - 0).toNat < _; omega))
  obtain ⟨⟨z, w⟩, e, hz⟩ := L
  rw [e]
  show some z = _
  rw [show z = _ from hz]
theorem needsOf_ok {a p : Int} {g : fx_H} {f : Int → Int} (hl : 95 ≤ fx_ln La_167 a) (p0 : 0 ≤ p) (p1 : p < 5) (hf : ∀ t : Int, 0 ≤ t → t < 9 → g a (44 + 9 * p + t) = f t) (hn : ∀ t : Int, 0 ≤ t → t < 9 → 0 ≤ f t) (hb : sumI 9 f ≤ 1000) : f_X6_needsOf FU La_167 a p g = some (sumI 9 f) := by
  unfold f_X6_needsOf
  have hn' : ∀ i : Int, 0 ≤ i → i < (9 : Nat) → 0 ≤ f i := fun i a b => hn i a (by omega)
  have L := loop_ret (step := s_X6_needsOf_1 FU La_167 a p g) (fun s => ∃ j : Nat, j ≤ 9 ∧ s = (sumI j f, (j : Int))) (fun s => (9 - s.2).toNat) (Q := fun s => s.1 = sumI 9 f) (fun s hs => by
    obtain ⟨j, hj, rfl⟩ := hs
    unfold s_X6_needsOf_1
    simp only
    by_cases e : (j : Int) < 9
    · have b1 := hn j (by omega) e
      have b2 := sum_le (f := f) (n := j + 1) (m := 9) (by omega) hn'
      have b3 := sum_nonneg (f := f) (m := j) (fun i a b => hn' i a (by omega))
      have b4 : sumI (j + 1) f = sumI j f + f j := rfl
      refine Or.inl ⟨(sumI (j + 1) f, ((j + 1 : Nat) : Int)), ?_, ⟨j + 1, by omega, rfl⟩, by show (9 - ((j + 1 : Nat) : Int)).toNat < (9 - (j : Int)).toNat; omega⟩
      simp (disch := omega) only [wid]
      rw [if_pos e, rd_ok (by omega) (by omega), Option.bind_some, hf j (by omega) e, wid (by omega) (by omega)]
      rfl
    · refine Or.inr ⟨_, by rw [if_neg e], ?_⟩
      have : j = 9 := by omega
      subst this; rfl) FU (0, 0) ⟨0, by omega, rfl⟩ (FU_gt (by show (9 - (0 : Int)).toNat < _; omega))
  obtain ⟨⟨z, w⟩, e, hz⟩ := L
  rw [e]
  show some z = _
  rw [show z = _ from hz]
theorem mostNeeded_ok {c p t : Int} {h : fx_H} (hc : TC c) (hv : TV c h) (p0 : 0 ≤ p) (p1 : p < 5) (t0 : 0 ≤ t) (t1 : t < 9) : f_X4_mostNeeded FU La_167 c p t h = some (h c 3 - sumI 9 (fun t => h (c + 10 + p) t) + h (c + 10 + p) t) ∧ h c 3 - sumI 9 (fun t => h (c + 10 + p) t) + h (c + 10 + p) t ≤ 5 ∧ 0 ≤ h c 3 - sumI 9 (fun t => h (c + 10 + p) t) + h (c + 10 + p) t := by
  have e1 := needed_ok hc hv p0 p1
  unfold TV at hv
  obtain ⟨⟨v1, v1'⟩, -, -, ⟨v4, v4'⟩, -, -, -, -, -, v10, v11, -⟩ := hv
  have w11 := v11 p p0 p1
  have w10 := (v10 p t p0 p1 t0 t1).1
  have b := sum_ge (f := fun t => h (c + 10 + p) t) t0 (m := 9) (by omega) (fun i a b => (v10 p i p0 p1 a (by omega)).1)
  refine ⟨?_, by omega, by omega⟩
  unfold f_X4_mostNeeded
  rw [e1, Option.bind_some, tc_tg_9 hc, rr_ok p0 (by rw [tc_ln_9 hc]; exact p1), Option.bind_some, tc_needs hc p0 p1, rd_ok t0 (by rw [tc_lnN hc p0 p1]; omega), Option.bind_some, wid (z := h c 3 - _) (by omega) (by omega), wid (by omega) (by omega)]
  congr 1
  omega
section SIM
variable {CL CP : fx_H → Prop} {k : Int} {h : fx_H}
theorem sim_need (hL : FrC CL) (hP : FrC CP) (R : Rel CL CP k h) (hk : k ≤ 1000) (p t n : Int) : Sm CL CP k (f_X5_need FU La_167 0 p t n h) (f_X6_need FU La_167 126 p t n) := by
  obtain ⟨RV, RR, R3, R4, R5, R6, R7⟩ := id R
  have RV' := RV
  have RR' := RR
  unfold TV at RV'
  unfold TR at RR'
  obtain ⟨⟨v1, v1'⟩, ⟨v2, v2'⟩, ⟨v3, v3'⟩, ⟨v4, v4'⟩, ⟨v5, v5'⟩, ⟨v6, v6'⟩, v7, v8, v9, v10, v11, v12, v13⟩ := RV'
  obtain ⟨r1, r2, r3, r4, r5, r6, r7, r8, r9, r10, r11, r12⟩ := RR'
  simp only [Int.zero_add] at r1 r2 r3 r4 r5 r6 r7 r8 r9 r10 r11 r12
  obtain ⟨⟨k1, k2⟩, -⟩ := id R7
  by_cases c0 : (0 ≤ p ∧ p < h 1 2) ∧ (0 ≤ t ∧ t < h 1 0)
  · obtain ⟨cp, ct⟩ := c0
    obtain ⟨e1, e2, e3⟩ := mostNeeded_ok (t := t) TC_1 RV cp.1 (by omega) ct.1 (by omega)
    rw [show (1 : Int) + 10 + p = 11 + p by omega] at e1 e2 e3
    have w11 := v11 p cp.1 (by omega)
    rw [show (1 : Int) + 10 + p = 11 + p by omega] at w11
    have wr := r10 p t cp.1 (by omega) ct.1 (by omega)
    rw [show (1 : Int) + 10 + p = 11 + p by omega] at wr
    have wv := (v10 p t cp.1 (by omega) ct.1 (by omega)).1
    rw [show (1 : Int) + 10 + p = 11 + p by omega] at wv
    have sn := sum_nonneg (f := fun t => h (11 + p) t) (m := 9) (fun i a b => by have := (v10 p i cp.1 (by omega) a (by omega)).1; rw [show (1 : Int) + 10 + p = 11 + p by omega] at this; exact this)
    have en : ∀ g : fx_H, (∀ i : Int, g 127 i = h 127 i) → f_X6_needsOf FU La_167 127 p g = some (sumI 9 (fun t => h (11 + p) t)) := fun g hg => needsOf_ok (by rw [lb_ln_127]; omega) cp.1 (by omega) (fun i a b => by rw [hg, r10 p i cp.1 (by omega) a b, show (1 : Int) + 10 + p = 11 + p by omega]) (fun i a b => by have := (v10 p i cp.1 (by omega) a b).1; rw [show (1 : Int) + 10 + p = 11 + p by omega] at this; exact this) (by omega)
    generalize hS : sumI 9 (fun t => h (11 + p) t) = S at e1 e2 e3 w11 sn en
    by_cases c1 : 0 ≤ n ∧ n ≤ h 1 3 - S + h (11 + p) t
    · have hx : f_X5_need FU La_167 0 p t n h = some (h (11 + p) t, fx_up (fx_up h 0 13 (h 0 13 + 1)) (11 + p) t n) := by
        unfold f_X5_need
        have a1 : (if ¬ (0 ≤ p ∧ p < h 1 2) then some true else if ¬ (0 ≤ t ∧ t < h 1 0) then some true else if ¬ (0 ≤ n ∧ n ≤ h 1 3 - S + h (11 + p) t) then some true else some false) = some false := by simp [cp, ct, c1]
        simp (disch := omega) only [lb_tg_0_0, ev_hasThing, ev_hasPerson, Option.bind_some, ite10, e1, ev_within, wid, a1, Bool.false_eq_true, if_false, tc_tg_9 TC_1]
        rw [rr_ok cp.1 (by rw [show (1 : Int) + 9 = 10 from rfl, lb_ln_10]; omega), Option.bind_some, tc_needs TC_1 cp.1 (by omega), rd_ok ct.1 (by rw [tc_lnN TC_1 cp.1 (by omega)]; omega), Option.bind_some, Option.bind_some, wr_ok ct.1 (by rw [tc_lnN TC_1 cp.1 (by omega)]; omega), Option.bind_some, up_ne (by omega), show (1 : Int) + 10 + p = 11 + p by omega]
      have F : ∀ i : Int, fx_up (fx_up h 0 13 (h 0 13 + 1)) (11 + p) t n 127 i = h 127 i := fun i => by simp (disch := omega) only [up_ne, up_eq]
      have hy : f_X6_need FU La_167 126 p t n (fx_up (fx_up h 0 13 (h 0 13 + 1)) (11 + p) t n) = some (h (11 + p) t, fx_up (fx_up (fx_up h 0 13 (h 0 13 + 1)) (11 + p) t n) 127 (44 + 9 * p + t) n) := by
        unfold f_X6_need
        generalize hg : fx_up (fx_up h 0 13 (h 0 13 + 1)) (11 + p) t n = g
        rw [hg] at F
        have F0 := F 0
        have F1 := F 10
        have F2 := F 11
        rw [r1] at F0
        rw [r3] at F1
        rw [r4] at F2
        have a1 : ((if ¬ ¬ (0 ≤ p ∧ p < h 1 2) then if ¬ ¬ (0 ≤ t ∧ t < h 1 0) then if ¬ ¬ (0 ≤ n ∧ n ≤ 5) then some true else some false else some false else some false).bind fun b4 => if b4 = true then some (1 : Int) else some 0) = some 1 := by
          have : 0 ≤ n ∧ n ≤ 5 := by omega
          simp [cp, ct, this]
        simp (disch := omega) only [ev_isOne, ev_isThing, ev_in, Option.bind_some, ite10, F0, F1, F2, a1, lb_tg_126_0, en g F, wid, ev_hours]
        rw [rd127 (by omega) (by omega), Option.bind_some, F, wr]
        simp (disch := omega) only [wid]
        rw [if_neg (by omega), if_neg (by omega), Option.bind_some, if_neg (by decide), Option.bind_some, wr127 (by omega) (by omega), Option.bind_some]
      refine sm_town R hx (y' := fun g => fx_up g 127 (44 + 9 * p + t) n) hy (fun a i b1 b2 b3 => ?_) ?_ ?_ ?_
      · simp (disch := omega) only [up_ne, up_eq]
      · simp (disch := omega) only [up_ne, up_eq]
      · unfold TV
        refine ⟨?_, ?_, ?_, ?_, ?_, ?_, fun t a b => ?_, fun q a b => ?_, fun q p a b a' b' => ?_, fun p_1 t_1 a b a' b' => ?_, fun p_1 a b => ?_, fun p a b => ?_, fun j a b => ?_⟩
        · simp (disch := omega) only [up_ne, up_eq]; omega
        · simp (disch := omega) only [up_ne, up_eq]; omega
        · simp (disch := omega) only [up_ne, up_eq]; omega
        · simp (disch := omega) only [up_ne, up_eq]; omega
        · simp (disch := omega) only [up_ne, up_eq]; omega
        · simp (disch := omega) only [up_ne, up_eq]; omega
        · (try simp (disch := omega) only [up_ne, up_eq] at b); (try simp (disch := omega) only [up_ne, up_eq]); exact v7 t a b
        · simp (disch := omega) only [up_ne, up_eq]; exact v8 q a b
        · simp (disch := omega) only [up_ne, up_eq]; exact v9 q p a b a' b'
        · by_cases e : p_1 = p ∧ t_1 = t
          · obtain ⟨rfl, rfl⟩ := e; simp (disch := omega) only [up_ne, up_eq]; omega
          · simp (disch := omega) only [up_ne, up_eq]; exact v10 p_1 t_1 a b a' b'
        · by_cases e : p_1 = p
          · subst e
            rw [sum_upd (f := fun t => h (11 + p_1) t) (j := t) (v := n) ct.1 (fun i => by
              by_cases e2 : i = t
              · subst e2; rw [if_pos rfl]; simp (disch := omega) only [up_ne, up_eq]
              · rw [if_neg e2]; simp (disch := omega) only [up_ne, up_eq]; rw [show (1 : Int) + 10 + p_1 = 11 + p_1 by omega]) (by omega), hS]
            simp (disch := omega) only [up_ne, up_eq]
            omega
          · simp (disch := omega) only [up_ne, up_eq]; exact v11 p_1 a b
        · simp (disch := omega) only [up_ne, up_eq]; exact v12 p a b
        · (try simp (disch := omega) only [up_ne, up_eq] at b); (try simp (disch := omega) only [up_ne, up_eq]); exact v13 j a b
      · unfold TR
        simp only [Int.zero_add]
        refine ⟨?_, ?_, ?_, ?_, ?_, ?_, fun t a b => ?_, fun q a b => ?_, fun q p a b a' b' => ?_, fun p_1 t_1 a b a' b' => ?_, fun p a b => ?_, fun j a b => ?_⟩
        · simp (disch := omega) only [up_ne, up_eq]; exact r1
        · simp (disch := omega) only [up_ne, up_eq]; exact r2
        · simp (disch := omega) only [up_ne, up_eq]; exact r3
        · simp (disch := omega) only [up_ne, up_eq]; exact r4
        · simp (disch := omega) only [up_ne, up_eq]; exact r5
        · simp (disch := omega) only [up_ne, up_eq]; exact r6
        · (try simp (disch := omega) only [up_ne, up_eq] at b); (try simp (disch := omega) only [up_ne, up_eq]); exact r7 t a b
        · simp (disch := omega) only [up_ne, up_eq]; exact r8 q a b
        · simp (disch := omega) only [up_ne, up_eq]; exact r9 q p a b a' b'
        · by_cases e : p_1 = p ∧ t_1 = t
          · obtain ⟨rfl, rfl⟩ := e; simp (disch := omega) only [up_ne, up_eq]
          · simp (disch := omega) only [up_ne, up_eq]; exact r10 p_1 t_1 a b a' b'
        · simp (disch := omega) only [up_ne, up_eq]; exact r11 p a b
        · (try simp (disch := omega) only [up_ne, up_eq] at b); (try simp (disch := omega) only [up_ne, up_eq]); exact r12 j a b
    · refine sm_bad hL hP R (z := -2) ?_ (fun g hg => ?_)
      · unfold f_X5_need
        have a1 : (if ¬ (0 ≤ p ∧ p < h 1 2) then some true else if ¬ (0 ≤ t ∧ t < h 1 0) then some true else if ¬ (0 ≤ n ∧ n ≤ h 1 3 - S + h (11 + p) t) then some true else some false) = some true := by simp [cp, ct, c1]
        simp (disch := omega) only [lb_tg_0_0, ev_hasThing, ev_hasPerson, Option.bind_some, ite10, e1, ev_within, a1, if_true, f_X5_refuseBad]
      · unfold f_X6_need
        have F : ∀ i : Int, g 127 i = h 127 i := fun i => hg 127 i (by omega)
        have F0 := F 0
        have F1 := F 10
        have F2 := F 11
        rw [r1] at F0
        rw [r3] at F1
        rw [r4] at F2
        simp (disch := omega) only [ev_isOne, ev_isThing, ev_in, Option.bind_some, ite10, F0, F1, F2, lb_tg_126_0, en g F, wid, ev_hours, ev_bad]
        by_cases d : 0 ≤ n ∧ n ≤ 5
        · have a1 : ((if ¬ ¬ (0 ≤ p ∧ p < h 1 2) then if ¬ ¬ (0 ≤ t ∧ t < h 1 0) then if ¬ ¬ (0 ≤ n ∧ n ≤ 5) then some true else some false else some false else some false).bind fun b4 => if b4 = true then some (1 : Int) else some 0) = some 1 := by simp [cp, ct, d]
          rw [a1, Option.bind_some, if_neg (by decide), rd127 (by omega) (by omega), Option.bind_some, F, wr]
          simp (disch := omega) only [wid]
          rw [if_pos (by omega), Option.bind_some, if_pos rfl]
        · have a1 : ((if ¬ ¬ (0 ≤ p ∧ p < h 1 2) then if ¬ ¬ (0 ≤ t ∧ t < h 1 0) then if ¬ ¬ (0 ≤ n ∧ n ≤ 5) then some true else some false else some false else some false).bind fun b4 => if b4 = true then some (1 : Int) else some 0) = some 0 := by simp [cp, ct, d]
          rw [a1, Option.bind_some, if_pos rfl, Option.bind_some, if_pos rfl]
  · refine sm_bad hL hP R (z := -2) ?_ (fun g hg => ?_)
    · unfold f_X5_need
      simp (disch := omega) only [lb_tg_0_0, ev_hasThing, ev_hasPerson, Option.bind_some, ite10, f_X5_refuseBad]
      by_cases d : 0 ≤ p ∧ p < h 1 2
      · have d2 : ¬ (0 ≤ t ∧ t < h 1 0) := fun q => c0 ⟨d, q⟩
        simp [d, d2]
      · simp [d]
    · have g0 : g 127 0 = h 1 0 := by rw [hg _ _ (by omega)]; exact r1
      have g1 : g 127 10 = h 1 2 := by rw [hg _ _ (by omega)]; exact r3
      unfold f_X6_need
      simp (disch := omega) only [ev_isOne, ev_isThing, ev_in, Option.bind_some, ite10, ev_bad, g0, g1]
      by_cases d : 0 ≤ p ∧ p < h 1 2
      · have d2 : ¬ (0 ≤ t ∧ t < h 1 0) := fun q => c0 ⟨d, q⟩
        simp [d, d2]
      · simp [d]
end SIM
