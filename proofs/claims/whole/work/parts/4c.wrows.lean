-- needs: 4b
/-! ===== the class writes its rows ===== -/
theorem tn_congr {r r' : Int → Int} {n : Int} (n1 : 1 ≤ n) (e : ∀ j : Int, 0 ≤ j → j < n → r j = r' j) : tn r n = tn r' n := by
  have : ∀ m : Nat, m < n → tnF r m = tnF r' m := by
    intro m
    induction m with
    | zero => intro _; rfl
    | succ m ih =>
      intro hm
      show (if r ((m : Int) + 1) ≤ r m then tnF r m else (m : Int)) = (if r' ((m : Int) + 1) ≤ r' m then tnF r' m else (m : Int))
      rw [e _ (by omega) (by omega), e _ (by omega) (by omega), ih (by omega)]
  exact this _ (by omega)
theorem gt_congr {r r' : Int → Int} {n x : Int} (x0 : 0 ≤ x) (x1 : x ≤ n - 2) (e : ∀ j : Int, 0 ≤ j → j < n → r j = r' j) : gt r n x = gt r' n x := by
  have : ∀ m : Nat, x + 1 + m < n → gtF r x m = gtF r' x m := by
    intro m
    induction m with
    | zero => intro _; rfl
    | succ m ih =>
      intro hm
      show (if r (x + 1 + ((m : Int) + 1)) ≤ r x then gtF r x m else x + 1 + ((m : Int) + 1)) = (if r' (x + 1 + ((m : Int) + 1)) ≤ r' x then gtF r' x m else x + 1 + ((m : Int) + 1))
      rw [e _ (by omega) (by omega), e _ (by omega) (by omega), ih (by omega)]
  exact this _ (by omega)
theorem nx_congr {r r' : Int → Int} {n j : Int} (n1 : 1 ≤ n) (e : ∀ j : Int, 0 ≤ j → j < n → r j = r' j) (j0 : 0 ≤ j) (j1 : j < n) : nx r n j = nx r' n j := by
  obtain ⟨t1, t2, t3, t4⟩ := tn_ok r n1
  have te := tn_congr n1 e
  unfold nx
  rw [← te]
  by_cases c : tn r n < 0 ∨ j < tn r n ∨ n ≤ j
  · rw [if_pos c, if_pos c]; exact e j j0 j1
  · rw [if_neg c, if_neg c]
    obtain ⟨g1, g2, g3, g4⟩ := gt_ok r (t3 (by omega)) t2
    rw [← gt_congr (by omega) t2 e]
    by_cases c2 : j = tn r n
    · rw [if_pos c2, if_pos c2]; exact e _ (by omega) (by omega)
    · rw [if_neg c2, if_neg c2, e (tn r n) (by omega) (by omega), e (n + tn r n - j) (by omega) (by omega)]
def ndF (h : fx_H) (p t : Int) : Int := h (11 + p) t
/-- how many rows -/
def cnF (nd : Int → Int) (n : Int) : Int := if sumI 9 nd ≤ n then (rc n (fr0 nd) : Int) else 0
def rwF (nd : Int → Int) (n : Int) (i j : Int) : Int := Rq n (fr0 nd) i.toNat j
theorem nd_ok {h : fx_H} {p : Int} (v : TV 1 h) (p0 : 0 ≤ p) (p5 : p < 5) : (∀ t : Int, 0 ≤ t → t < 9 → 0 ≤ ndF h p t ∧ (h 1 0 ≤ t → ndF h p t = 0)) ∧ sumI 9 (ndF h p) ≤ h 1 3 ∧ f_X4_needed FU La_167 1 p h = some (sumI 9 (ndF h p)) := by
  have e := needed_ok TC_1 v p0 p5
  unfold TV at v
  obtain ⟨-, -, -, -, -, -, -, -, -, v10, v11, -⟩ := v
  exact ⟨fun t a b => v10 p t p0 p5 a b, v11 p p0 p5, e⟩
theorem cnF_b {nd : Int → Int} {n : Int} (n1 : 1 ≤ n) (n5 : n ≤ 5) : 0 ≤ cnF nd n ∧ cnF nd n ≤ 120 ∧ (n ≤ 4 → cnF nd n ≤ 24) ∧ (sumI 9 nd ≤ n → 1 ≤ cnF nd n) := by
  obtain ⟨a, b, c, -⟩ := rc_ok n1 n5 (fr0 nd)
  unfold cnF
  by_cases z : sumI 9 nd ≤ n
  · rw [if_pos z]; exact ⟨by omega, by omega, fun q => by have := c q; omega, fun _ => by omega⟩
  · rw [if_neg z]; exact ⟨by omega, by omega, fun _ => by omega, fun q => absurd q z⟩
/-- what stands in a row: nothing, or what is needed -/
theorem rwF_v {nd : Int → Int} {n i j : Int} (h : ∀ t : Int, 0 ≤ t → t < 9 → 0 ≤ nd t) (n1 : 1 ≤ n) (n5 : n ≤ 5) (i0 : 0 ≤ i) (i1 : i < cnF nd n) (j0 : 0 ≤ j) (j1 : j < n) : (0 ≤ rwF nd n i j ∧ rwF nd n i j < 9 ∧ 0 < nd (rwF nd n i j)) ∨ rwF nd n i j = 9 := by
  unfold cnF at i1
  by_cases z : sumI 9 nd ≤ n
  · rw [if_pos z] at i1
    have hi : i.toNat < rc n (fr0 nd) := by omega
    have key : ∀ v : Int, ¬ (0 ≤ v ∧ v ≤ 9 ∧ (v = 9 ∨ 0 < nd v)) → rs5 (fun k => if Rq n (fr0 nd) i.toNat k = v then 1 else 0) 0 n = 0 := fun v hv => by
      have e := Rq_all (r := fr0 nd) (fun w => if w = v then 1 else 0) n1 n5 i.toNat hi
      have e : rs5 (fun k => if Rq n (fr0 nd) i.toNat k = v then 1 else 0) 0 n = rs5 (fun k => if fr0 nd k = v then 1 else 0) 0 n := e
      rw [e]
      by_cases c : 0 ≤ v ∧ v ≤ 9
      · rw [fr0_cnt h n5 z c.1 c.2, if_neg (by omega)]
        have := h v c.1 (by omega)
        omega
      · refine sum_zero (fun k a b => ?_)
        have := fr0_b nd k
        simp only
        rw [if_neg (show ¬ fr0 nd k = v by omega)]
        split <;> rfl
    by_cases q : 0 ≤ rwF nd n i j ∧ rwF nd n i j ≤ 9 ∧ (rwF nd n i j = 9 ∨ 0 < nd (rwF nd n i j))
    · omega
    · exfalso
      have k := key _ q
      unfold rwF at k
      have : rs5 (fun k => if k = j then 1 else 0) 0 n ≤ rs5 (fun k => if Rq n (fr0 nd) i.toNat k = Rq n (fr0 nd) i.toNat j then 1 else 0) 0 n := rs5_mono (fun k _ _ _ => by
        by_cases c : k = j
        · rw [if_pos c, if_pos (by rw [c])]; exact Int.le_refl 1
        · rw [if_neg c]; split <;> omega)
      have e2 : rs5 (fun k => if k = j then 1 else 0) 0 n = rs5 (fun _ => 0) 0 n - 0 + 1 := rs5_set (f := fun _ => 0) j0 j0 j1 n5
      have e3 : rs5 (fun _ => 0) 0 n = 0 := sum_zero (fun k _ _ => by split <;> rfl)
      omega
  · rw [if_neg z] at i1; omega
theorem rw_rr {p : Int} (p0 : 0 ≤ p) (p5 : p < 5) : fx_rr La_167 67 p = some (68 + p) := by rw [rr_ok p0 (by rw [lb_ln_67]; exact p5), lb_rw p0 p5]
theorem firstRow_ok {h : fx_H} {p n : Int} (v : TV 1 h) (p0 : 0 ≤ p) (p5 : p < 5) (n5 : n ≤ 5) (hn : sumI 9 (ndF h p) ≤ n) : Ret (f_X1_writeFirstRow FU La_167 48 1 p n h) (fun h' => (∀ a i : Int, a ≠ 74 → h' a i = h a i) ∧ ∀ j : Int, 0 ≤ j → j < 5 → h' 74 j = fr0 (ndF h p) j) := by
  obtain ⟨d1, d2, -⟩ := nd_ok v p0 p5
  have d0 : ∀ t : Int, 0 ≤ t → t < 9 → 0 ≤ ndF h p t := fun t a b => (d1 t a b).1
  have hT : 0 ≤ h 1 0 ∧ h 1 0 ≤ 9 := by unfold TV at v; exact v.1
  generalize hnd : ndF h p = nd at d0 d1 d2 hn
  unfold f_X1_writeFirstRow
  rw [lb_tg_48_8, ev_fill lb_ln_74 (by omega) (by omega), Option.bind_some]
  have pre : ∀ m : Nat, m ≤ 9 → 0 ≤ sumI m nd ∧ sumI m nd ≤ n := fun m hm => by
    have := sumI_inc d0 (9 - m) m (by omega)
    rw [show m + (9 - m) = 9 by omega] at this
    exact ⟨sumI_nn (fun i a b => d0 i a (by omega)), by omega⟩
  refine Ret.bind (Ret.mono (loop_ix (fun s => s.2.1) (fun t s => s.1 = sumI t.toNat nd ∧ (∀ a i : Int, a ≠ 74 → s.2.2 a i = h a i) ∧ (∀ j : Int, 0 ≤ j → j < s.1 → s.2.2 74 j = fr0 nd j) ∧ (∀ j : Int, s.1 ≤ j → 0 ≤ j → j < 5 → s.2.2 74 j = 9)) (h 1 0) (i := 0) (Q := fun e => (∀ a i : Int, a ≠ 74 → e.2.2 a i = h a i) ∧ ∀ j : Int, 0 ≤ j → j < 5 → e.2.2 74 j = fr0 nd j) (FU_gt (by omega)) rfl hT.1 ⟨rfl, fun a i z => fl_out (Or.inl z), fun j a b => by have : j < 0 := b; omega, fun j a b c => fl_in rfl b c⟩ (fun t s et b1 b2 ⟨i1, i2, i3, i4⟩ => ?_) (fun s es ⟨i1, i2, i3, i4⟩ => ?_)) (fun r hr => ?_))
  · obtain ⟨hour, t', s⟩ := s
    simp only at et i1 i2 i3 i4
    subst et
    unfold s_X1_writeFirstRow_1
    simp only
    have p1 := pre (t'.toNat) (by omega)
    have p2 := pre (t'.toNat + 1) (by omega)
    have p3 : sumI (t'.toNat + 1) nd = sumI t'.toNat nd + nd t' := by rw [sumI_succ, show ((t'.toNat : Nat) : Int) = t' by omega]
    have dt := d0 t' b1 (by omega)
    rw [i2 1 0 (by omega), if_pos b2, wid (z := t' + 1) (by omega) (by omega)]
    have key : Ret (fx_loop (s_X1_writeFirstRow_2 FU La_167 48 1 p n t') FU (hour, 0, s)) (fun e => e.1 = sumI (t'.toNat + 1) nd ∧ (∀ a i : Int, a ≠ 74 → e.2.2 a i = h a i) ∧ (∀ j : Int, 0 ≤ j → j < e.1 → e.2.2 74 j = fr0 nd j) ∧ (∀ j : Int, e.1 ≤ j → 0 ≤ j → j < 5 → e.2.2 74 j = 9)) := by
      refine loop_ix (fun s => s.2.1) (fun i s => s.1 = sumI t'.toNat nd + i ∧ (∀ a i : Int, a ≠ 74 → s.2.2 a i = h a i) ∧ (∀ j : Int, 0 ≤ j → j < s.1 → s.2.2 74 j = fr0 nd j) ∧ (∀ j : Int, s.1 ≤ j → 0 ≤ j → j < 5 → s.2.2 74 j = 9)) (nd t') (i := 0) (FU_gt (by omega)) rfl dt ⟨by show hour = _; omega, i2, i3, i4⟩ (fun i w ei c1 c2 ⟨j1, j2, j3, j4⟩ => ?_) (fun w ew ⟨j1, j2, j3, j4⟩ => ?_)
      · obtain ⟨hr, i', w⟩ := w
        simp only at ei j1 j2 j3 j4
        subst ei
        unfold s_X1_writeFirstRow_2
        simp only [tc_tg_9 TC_1, lb_tg_48_8]
        have fv : fr0 nd (sumI t'.toNat nd + i') = t' := by
          rw [fr0_val d0 (t := t'.toNat) (by omega) (by omega) (fun _ => by omega)]; omega
        rw [show (1 : Int) + 9 = 10 from rfl, rr_ok p0 (by rw [lb_ln_10]; exact p5), Option.bind_some, show fx_tg La_167 10 p = 11 + p by rw [show (10 : Int) = 1 + 9 from rfl, tc_needs TC_1 p0 p5]; omega, rdl (show fx_ln La_167 (11 + p) = 9 by have := tc_lnN TC_1 p0 p5; rw [show (1 : Int) + 10 + p = 11 + p by omega] at this; exact this) b1 (by omega), Option.bind_some, j2 (11 + p) t' (by omega), show h (11 + p) t' = nd t' by rw [← hnd]; rfl, if_pos ⟨c2, by omega⟩, wrl lb_ln_74 (by omega) (by omega), Option.bind_some, wid (by omega) (by omega), wid (by omega) (by omega)]
        refine ⟨_, rfl, rfl, by show hr + 1 = _; omega, fun a i z => ?_, fun j a b => ?_, fun j a b c => ?_⟩
        · show fx_up w 74 hr t' a i = _
          rw [up_ne (Or.inl z)]; exact j2 a i z
        · have b : j < hr + 1 := b
          show fx_up w 74 hr t' 74 j = _
          by_cases z : j = hr
          · rw [up_eq rfl z, z, j1, fv]
          · rw [up_ne (Or.inr z)]; exact j3 j a (by omega)
        · have a : hr + 1 ≤ j := a
          show fx_up w 74 hr t' 74 j = _
          rw [up_ne (by omega)]; exact j4 j (by omega) b c
      · obtain ⟨hr, i', w⟩ := w
        simp only at ew j1 j2 j3 j4
        subst ew
        unfold s_X1_writeFirstRow_2
        simp only [tc_tg_9 TC_1, lb_tg_48_8]
        rw [show (1 : Int) + 9 = 10 from rfl, rr_ok p0 (by rw [lb_ln_10]; exact p5), Option.bind_some, show fx_tg La_167 10 p = 11 + p by rw [show (10 : Int) = 1 + 9 from rfl, tc_needs TC_1 p0 p5]; omega, rdl (show fx_ln La_167 (11 + p) = 9 by have := tc_lnN TC_1 p0 p5; rw [show (1 : Int) + 10 + p = 11 + p by omega] at this; exact this) b1 (by omega), Option.bind_some, j2 (11 + p) t' (by omega), show h (11 + p) t' = nd t' by rw [← hnd]; rfl, if_neg (by omega)]
        exact ⟨_, rfl, by show hr = _; omega, j2, j3, j4⟩
    obtain ⟨⟨hr, i', w⟩, e1, k1, k2, k3, k4⟩ := key
    simp only at k1 k2 k3 k4
    rw [e1, Option.bind_some]
    refine ⟨_, rfl, rfl, ?_, k2, k3, k4⟩
    rw [show (t' + 1).toNat = t'.toNat + 1 by omega]
    exact k1
  · obtain ⟨hour, t', s⟩ := s
    simp only at es i1 i2 i3 i4
    subst es
    unfold s_X1_writeFirstRow_1
    simp only
    rw [i2 1 0 (by omega), if_neg (by omega)]
    refine ⟨_, rfl, i2, fun j a b => ?_⟩
    show s 74 j = _
    by_cases z : j < hour
    · exact i3 j a z
    · have c9 : sumI 9 nd = sumI (h 1 0).toNat nd := sumI_cut (m := (h 1 0).toNat) (by omega) (fun i x y => (d1 i (by omega) (by omega)).2 (by omega))
      rw [i4 j (by omega) a b, fr0_val d0 (t := 9) (by omega) (by omega) (fun z => by omega)]; rfl
  · obtain ⟨hour, t', s⟩ := r
    simp only at hr ⊢
    exact Ret.ok hr
theorem rowsOf_ok {h : fx_H} {p n : Int} (v : TV 1 h) (p0 : 0 ≤ p) (p5 : p < 5) (n1 : 1 ≤ n) (n5 : n ≤ 5) (hn : sumI 9 (ndF h p) ≤ n) (hc : h 73 p = 0) : Ret (f_X1_writeRowsOf FU La_167 48 1 p n h) (fun h' => (∀ a i : Int, a ≠ 74 → ¬ (a = 73 ∧ i = p) → a ≠ 68 + p → h' a i = h a i) ∧ h' 73 p = cnF (ndF h p) n ∧ ∀ i j : Int, 0 ≤ i → i < cnF (ndF h p) n → 0 ≤ j → j < n → h' (68 + p) (5 * i + j) = rwF (ndF h p) n i j) := by
  unfold f_X1_writeRowsOf
  obtain ⟨h1, e1, f1, f2⟩ := firstRow_ok v p0 p5 n5 hn
  rw [e1, Option.bind_some]
  have hcn : cnF (ndF h p) n = (rc n (fr0 (ndF h p)) : Int) := by unfold cnF; rw [if_pos hn]
  obtain ⟨q1, q2, -, q3, q4⟩ := rc_ok n1 n5 (fr0 (ndF h p))
  rw [hcn]
  unfold rwF
  generalize fr0 (ndF h p) = r0 at *
  have key : Ret (fx_loop (s_X1_writeRowsOf_1 FU La_167 48 p n) FU (0, h1)) (fun e => (∃ h', e = .inr h' ∧ (∀ a i : Int, a ≠ 74 → ¬ (a = 73 ∧ i = p) → a ≠ 68 + p → h' a i = h a i) ∧ h' 73 p = (rc n r0 : Int) ∧ ∀ i j : Int, 0 ≤ i → i < (rc n r0 : Int) → 0 ≤ j → j < n → h' (68 + p) (5 * i + j) = Rq n r0 i.toNat j)) := by
    refine loop_ret (fun s => 0 ≤ s.1 ∧ s.1 < (rc n r0 : Int) ∧ (∀ a i : Int, a ≠ 74 → ¬ (a = 73 ∧ i = p) → a ≠ 68 + p → s.2 a i = h a i) ∧ (∀ j : Int, 0 ≤ j → j < n → s.2 74 j = Rq n r0 s.1.toNat j) ∧ s.2 73 p = s.1 ∧ (∀ i j : Int, 0 ≤ i → i < s.1 → 0 ≤ j → j < n → s.2 (68 + p) (5 * i + j) = Rq n r0 i.toNat j)) (fun s => (120 - s.1).toNat) (fun s hs => ?_) FU _ ⟨Int.le_refl 0, by show (0 : Int) < _; omega, fun a i x y z => f1 a i x, fun j a b => f2 j a (by omega), by show h1 73 p = 0; rw [f1 _ _ (by omega)]; exact hc, fun i j a b => by have : i < 0 := b; omega⟩ (FU_gt (by show (120 - (0 : Int)).toNat < _; omega))
    obtain ⟨r, s⟩ := s
    obtain ⟨s1, s2, s3, s4, s5, s6⟩ := hs
    simp only at s1 s2 s3 s4 s5 s6
    unfold s_X1_writeRowsOf_1
    simp only [lb_tg_48_6, lb_tg_48_7, lb_tg_48_8]
    rw [if_pos (by omega), rw_rr p0 p5, Option.bind_some, wid (z := r * 5) (by omega) (by omega), cp_ok (by omega) (by omega) (by omega) (by rw [lb_ln_74]; omega) (by rw [lb_ln_rw p0 p5]; omega), Option.bind_some, rdl lb_ln_73 p0 p5, Option.bind_some, wrl lb_ln_73 p0 p5, Option.bind_some, cpy_out (by omega), s5, wid (z := r + 1) (by omega) (by omega)]
    have u1 : ∀ a i : Int, a ≠ 74 → ¬ (a = 73 ∧ i = p) → a ≠ 68 + p → fx_up (fx_cpy s 74 0 (68 + p) (r * 5) n) 73 p (r + 1) a i = h a i := fun a i x y z => by rw [up_ne (by omega), cpy_out (by omega)]; exact s3 a i x y z
    have u2 : ∀ j : Int, 0 ≤ j → j < n → fx_up (fx_cpy s 74 0 (68 + p) (r * 5) n) 73 p (r + 1) 74 j = Rq n r0 r.toNat j := fun j a b => by rw [up_ne (by omega), cpy_out (by omega)]; exact s4 j a b
    have u3 : fx_up (fx_cpy s 74 0 (68 + p) (r * 5) n) 73 p (r + 1) 73 p = r + 1 := up_eq rfl rfl
    have u4 : ∀ i j : Int, 0 ≤ i → i < r + 1 → 0 ≤ j → j < n → fx_up (fx_cpy s 74 0 (68 + p) (r * 5) n) 73 p (r + 1) (68 + p) (5 * i + j) = Rq n r0 i.toNat j := fun i j a b a' b' => by
      rw [up_ne (by omega)]
      by_cases z : i = r
      · rw [cpy_in rfl (by omega) (by omega), show 0 + (5 * i + j - r * 5) = j by omega, z]; exact s4 j a' b'
      · rw [cpy_out (by omega)]; exact s6 i j a (by omega) a' b'
    generalize fx_up (fx_cpy s 74 0 (68 + p) (r * 5) n) 73 p (r + 1) = w at u1 u2 u3 u4
    obtain ⟨⟨x, w'⟩, e2, k1, k2, k3⟩ := next_ok (h := w) (e := 74) (n := n) lb_ln_74 n1 n5 (by omega)
    simp only at k1 k2 k3
    have tE : tn (w 74) n = tn (Rq n r0 r.toNat) n := tn_congr n1 u2
    rw [tE] at k1
    rw [e2, Option.bind_some]
    simp only
    by_cases c : tn (Rq n r0 r.toNat) n < 0
    · rw [if_pos c] at k1
      rw [if_pos k1]
      have rE : r + 1 = (rc n r0 : Int) := by
        by_cases z : r.toNat + 1 < rc n r0
        · have := q4 r.toNat z; omega
        · omega
      exact Or.inr ⟨_, rfl, w', rfl, fun a i x y z => by rw [k3 a i (Or.inl x)]; exact u1 a i x y z, by rw [k3 _ _ (by omega), u3]; exact rE, fun i j a b a' b' => by rw [k3 _ _ (by omega)]; exact u4 i j a (by omega) a' b'⟩
    · rw [if_neg c] at k1
      rw [if_neg (by omega)]
      have rL : r + 1 < (rc n r0 : Int) := by
        by_cases z : r + 1 = (rc n r0 : Int)
        · exfalso
          rw [show r.toNat = rc n r0 - 1 by omega] at c
          exact c q3
        · omega
      refine Or.inl ⟨_, rfl, ⟨by show 0 ≤ r + 1; omega, rL, fun a i x y z => by show w' a i = _; rw [k3 a i (Or.inl x)]; exact u1 a i x y z, fun j a b => ?_, by show w' 73 p = r + 1; rw [k3 _ _ (by omega), u3], fun i j a b a' b' => by show w' _ _ = _; rw [k3 _ _ (by omega)]; exact u4 i j a b a' b'⟩, by show (120 - (r + 1)).toNat < (120 - r).toNat; omega⟩
      show w' 74 j = Rq n r0 (r + 1).toNat j
      rw [k2 j a b, show (r + 1).toNat = r.toNat + 1 by omega]
      exact nx_congr n1 u2 a b
  obtain ⟨e, e3, h', rfl, k⟩ := key
  rw [e3, Option.bind_some]
  exact Ret.ok k
