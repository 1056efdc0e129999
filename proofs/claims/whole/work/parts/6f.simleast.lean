-- needs: 6e
theorem rq_congr {c c' : Int → Int} {P code : Int} (e : ∀ p : Int, 0 ≤ p → p < P → c p = c' p) : ∀ m : Nat, (m : Int) ≤ P → rq c P code m = rq c' P code m
  | 0, _ => rfl
  | m + 1, h => by
    show rq c P code m / c (P - 1 - m) = rq c' P code m / c' (P - 1 - m)
    rw [rq_congr e m (by omega), e _ (by omega) (by omega)]
theorem nds_eq {h h' : fx_H} (P5 : h 1 2 ≤ 5) (e : ∀ a i : Int, 1 ≤ a → a ≤ 19 → h' a i = h a i) : ∀ p : Int, 0 ≤ p → p < h 1 2 → ndF h' p = ndF h p := fun p a b => ndF_congr (fun i => e _ _ (by omega) (by omega))
theorem WcFc_congr {h h' : fx_H} {sm : Int → Int} {n : Int} (P5 : h 1 2 ≤ 5) (e : ∀ a i : Int, 1 ≤ a → a ≤ 19 → h' a i = h a i) : Wc h' n = Wc h n ∧ Fc h' sm n = Fc h sm n ∧ prI (fun p => cnF (ndF h' p) n) (h' 1 2).toNat = prI (fun p => cnF (ndF h p) n) (h 1 2).toNat := by
  have ne := nds_eq P5 e
  have e2 : h' 1 2 = h 1 2 := e _ _ (by omega) (by omega)
  have W : Wc h' n = Wc h n := by
    funext code x q
    unfold Wc SD
    rw [e2]
    by_cases c : 0 ≤ q ∧ q < h 1 2 ∧ 0 ≤ x ∧ x < n
    · have d : dq (fun p => cnF (ndF h' p) n) (h 1 2) code q = dq (fun p => cnF (ndF h p) n) (h 1 2) code q := by
        unfold dq
        rw [rq_congr (c := fun p => cnF (ndF h' p) n) (c' := fun p => cnF (ndF h p) n) (fun p a b => by rw [ne p a b]) _ (by omega)]
        show _ % cnF (ndF h' q) n = _ % cnF (ndF h q) n
        rw [ne q c.1 c.2.1]
      rw [if_pos c, if_pos c, ne q c.1 c.2.1, d]
    · rw [if_neg c, if_neg c]
  refine ⟨W, ?_, ?_⟩
  · funext code
    have w := congrFun W code
    unfold Wc at w
    have kE : kdF h' = kdF h := by funext x; unfold kdF; rw [e _ _ (by omega) (by omega)]
    unfold Fc AS
    rw [w, kE, e2, e 1 4 (by omega) (by omega)]
  · rw [e2]
    exact prI_congr (fun p a b => by rw [ne p a (by omega)])
theorem smT_congr {h h' : fx_H} (e : ∀ a i : Int, 1 ≤ a → a ≤ 19 → h' a i = h a i) : smT h' (h' 1 1) (-1) = smT h (h 1 1) (-1) := by
  unfold smT
  rw [e 1 1 (by omega) (by omega), show h' 2 = h 2 from funext fun i => e 2 i (by omega) (by omega)]
/-- the least day of the town in h stands in s -/
def LST (h s : fx_H) : Prop := ∃ c1 : Int, 0 ≤ c1 ∧ c1 < prI (fun p => cnF (ndF h p) (h 1 3)) (h 1 2).toNat ∧ Fc h (smT h (h 1 1) (-1)) (h 1 3) c1 = s 48 2 ∧ (∀ c : Int, 0 ≤ c → c < prI (fun p => cnF (ndF h p) (h 1 3)) (h 1 2).toNat → s 48 2 ≤ Fc h (smT h (h 1 1) (-1)) (h 1 3) c) ∧ (∀ c' : Int, 0 ≤ c' → c' < c1 → s 48 2 < Fc h (smT h (h 1 1) (-1)) (h 1 3) c') ∧ ∀ x q : Int, 0 ≤ x → x < 5 → 0 ≤ q → q < 5 → s (56 + x) q = Wc h (h 1 3) c1 x q
def LSO (h s : fx_H) : Prop := (s 48 4 = 0 ∧ 50000 < prI (fun p => cnF (ndF h p) (h 1 3)) (h 1 2).toNat) ∨ (s 48 4 = 1 ∧ prI (fun p => cnF (ndF h p) (h 1 3)) (h 1 2).toNat ≤ 50000 ∧ LST h s)
theorem LSO_congr {h h' s s' : fx_H} (P5 : h 1 2 ≤ 5) (e : ∀ a i : Int, 1 ≤ a → a ≤ 19 → h' a i = h a i) (e2 : s' 48 2 = s 48 2) (e4 : s' 48 4 = s 48 4) (e5 : ∀ x q : Int, 0 ≤ x → x < 5 → s' (56 + x) q = s (56 + x) q) (l : LSO h s) : LSO h' s' := by
  obtain ⟨w, f, p⟩ := WcFc_congr (sm := smT h (h 1 1) (-1)) (n := h 1 3) P5 e
  unfold LSO LST
  rw [smT_congr e, e 1 3 (by omega) (by omega), w, f, p, e4, e2]
  rcases l with l | ⟨l1, l2, c1, x1, x2, x3, x4, x5, x6⟩
  · exact Or.inl l
  · exact Or.inr ⟨l1, l2, c1, x1, x2, x3, x4, x5, fun x q a b a' b' => by rw [e5 x q a b]; exact x6 x q a b a' b'⟩
def CLp (h : fx_H) : Prop := h 1 2 ≤ 5 → LSO h h
theorem FrL_CLp : FrL CLp := fun h h' e c P5 => by
  rw [e 1 2 (by omega)] at P5
  exact LSO_congr P5 (fun a i x y => e a i (by omega)) (e 48 2 (by omega)) (e 48 4 (by omega)) (fun x q a b => e _ _ (by omega)) (c P5)
theorem Rel_least {CL CP : fx_H → Prop} {k : Int} {h h' : fx_H} (hP : FrP CP) (R : Rel CL CP k h) (e : ∀ a i : Int, KP a i → a ≠ 48 → ¬ (55 ≤ a ∧ a ≤ 60) → h' a i = h a i) (rs : RS h') (e5 : h' 48 5 = h 0 13) (cl : CL h') : Rel CL CP k h' := by
  obtain ⟨r1, r2, r3, ⟨r4, r4'⟩, r5, r6, ⟨r7, r8⟩, ⟨r9, r10⟩, r11, r12⟩ := R
  have hb := r1
  unfold TV at hb
  have e : ∀ a i : Int, a = 0 ∨ (1 ≤ a ∧ a ≤ 19) ∨ a = 40 ∨ (a = 41 ∧ i = 1) ∨ a = 42 ∨ (a = 84 ∧ (i = 0 ∨ i = 4 ∨ i = 5)) ∨ a = 85 ∨ (88 ≤ a ∧ a ≤ 125) ∨ (a = 126 ∧ (i = 17 ∨ i = 1000004 ∨ i = 1000005)) ∨ (127 ≤ a ∧ a ≤ 130) ∨ a = 141 → h' a i = h a i := fun a i z => e a i (by unfold KP; omega) (by omega) (by omega)
  have ec : h' 0 13 = h 0 13 := e 0 13 (by omega)
  refine ⟨TV_congr (fun a i _ _ => e a i (by omega)) r1, TR_congr (fun a i _ _ => e a i (by omega)) (fun i _ _ => e 127 i (by omega)) ⟨hb.1.2, hb.2.2.2.2.2.1.2⟩ r2, RI_congr (fun a i q => e a i (by omega)) r3, ?_, ?_, rs, ?_⟩
  · unfold RN
    rw [e 0 10 (by omega), e 0 11 (by omega), e 0 12 (by omega), e 0 1000008 (by omega), e 0 1000009 (by omega), e 130 0 (by omega), e 130 1 (by omega), e 130 2 (by omega), e 126 1000004 (by omega), e 126 1000005 (by omega)]
    exact ⟨r4, r4'⟩
  · unfold RT at r5 ⊢
    rw [e 126 17 (by omega), e 41 1 (by omega)]
    exact ⟨r5.1, fun i a b => by rw [e 141 _ (by omega), e 42 _ (by omega)]; exact r5.2 i a b⟩
  · unfold RC
    rw [ec, e 84 4 (by omega), e5]
    exact ⟨⟨r7, r8⟩, ⟨Int.le_refl _, fun _ => cl⟩, ⟨r11, fun q => hP h h' (fun a i q => e a i (by omega)) (r12 q)⟩⟩
theorem smT_nn {h : fx_H} (v : TV 1 h) : ∀ x : Int, 0 ≤ x → x < h 1 0 → 0 ≤ smT h (h 1 1) (-1) x := fun x a b => by
  unfold TV at v
  obtain ⟨⟨v1, v1'⟩, -, -, -, -, -, v7, -⟩ := v
  unfold smT
  rw [SM_t (by omega)]
  exact (SA_bb (uF_ok (T := h 1 0) (fun t a b => v7 t a b)) a b).1
/-- all have a row when there are hours enough; else there are at most four hours -/
theorem cnt_case {h : fx_H} {n : Int} (v : TV 1 h) (n1 : 1 ≤ n) (n5 : n ≤ 5) (hN : prI (fun p => cnF (ndF h p) n) (h 1 2).toNat ≤ 50000) : ((∀ p : Int, 0 ≤ p → p < h 1 2 → 1 ≤ cnF (ndF h p) n) ∧ prI (fun p => cnF (ndF h p) n) (h 1 2).toNat ≤ 50000) ∨ ((∃ z : Int, 0 ≤ z ∧ z < h 1 2 ∧ cnF (ndF h z) n = 0) ∧ ∀ p : Int, cnF (ndF h p) n ≤ 24) := by
  have vv := v
  unfold TV at vv
  obtain ⟨-, -, ⟨v3, v3'⟩, ⟨v4, v4'⟩, -⟩ := vv
  by_cases z : ∀ p : Int, 0 ≤ p → p < h 1 2 → 1 ≤ cnF (ndF h p) n
  · exact Or.inl ⟨z, hN⟩
  · have hz : ∃ z : Int, 0 ≤ z ∧ z < h 1 2 ∧ cnF (ndF h z) n = 0 := by
      refine Classical.byContradiction (fun y => z (fun p a b => Classical.byContradiction (fun u => y ⟨p, a, b, ?_⟩)))
      have := (cnF_b (nd := ndF h p) n1 n5).1
      omega
    obtain ⟨p, a, b, d⟩ := hz
    have n4 : n ≤ 4 := by
      have s := (nd_ok v a (show p < 5 by omega)).2.1
      have c := (cnF_b (nd := ndF h p) n1 n5).2.2.2
      by_cases y : sumI 9 (ndF h p) ≤ n
      · have := c y; omega
      · omega
    exact Or.inr ⟨⟨p, a, b, d⟩, fun p => (cnF_b (nd := ndF h p) n1 n5).2.2.1 n4⟩
/-- the class looks for the least day -/
theorem least_cl {h h1 : fx_H} (v : TV 1 h) (rs : RS h) (e2 : ∀ a i : Int, ¬ (a = 43 ∧ (i = 4 ∨ i = 5)) → a ≠ 44 → a ≠ 45 → h1 a i = h a i) (cc : CT (smT h (h 1 1) (-1)) (h 1 0) (h 1 2) (h 1 4) h1) (hne : ¬ h1 48 5 = h1 0 13) : ∃ h2 : fx_H, f_X1_findLeast FU La_167 48 1 43 (h1 0 13) h1 = some (h2 48 4, h2) ∧ LSO h h2 ∧ h2 48 5 = h 0 13 ∧ (∀ a i : Int, ¬ (43 ≤ a ∧ a ≤ 45) → ¬ (48 ≤ a ∧ a ≤ 83) → h2 a i = h a i) ∧ P9 h2 := by
  have vv := v
  unfold TV at vv
  obtain ⟨⟨v1, v1'⟩, ⟨v2, v2'⟩, ⟨v3, v3'⟩, ⟨v4, v4'⟩, ⟨v5, v5'⟩, -⟩ := vv
  unfold f_X1_findLeast
  rw [if_neg hne]
  have u1 : ∀ a i : Int, ¬ (a = 48 ∧ i = 5) → fx_up h1 48 5 (h1 0 13) a i = h1 a i := fun a i z => up_ne (by omega)
  have u2 : fx_up h1 48 5 (h1 0 13) 48 5 = h 0 13 := by rw [up_eq rfl rfl, e2 _ _ (by omega) (by omega) (by omega)]
  generalize fx_up h1 48 5 (h1 0 13) = w at u1 u2
  have wt : ∀ a i : Int, 1 ≤ a → a ≤ 19 → w a i = h a i := fun a i x y => by rw [u1 a i (by omega), e2 a i (by omega) (by omega) (by omega)]
  have vw : TV 1 w := TV_congr (fun a i _ _ => wt a i (by omega) (by omega)) v
  rw [wt 1 3 (by omega) (by omega)]
  obtain ⟨h4, e3, k1, k2⟩ := writeRows_ok vw v4 v4'
  have h4t : ∀ a i : Int, 1 ≤ a → a ≤ 19 → h4 a i = h a i := fun a i x y => by rw [k1 a i (by omega) (by omega) (by omega)]; exact wt a i x y
  have nE : ∀ p : Int, 0 ≤ p → p < h 1 2 → ndF w p = ndF h p := nds_eq v3' wt
  have w2 : w 1 2 = h 1 2 := wt _ _ (by omega) (by omega)
  have cb := fun p : Int => cnF_b (nd := ndF h p) v4 v4'
  have wy : f_X1_waysTogether FU La_167 48 1 h4 = some (prI (fun p => cnF (ndF h p) (h 1 3)) (h 1 2).toNat) := ways_ok (n := h 1 3) (P := h 1 2) (h4t _ _ (by omega) (by omega)) (by omega) v3' (fun p a b => ⟨by
    have := (k2 p a (by rw [w2]; exact b)).1
    rw [nE p a b] at this
    exact this, (cb p).1, (cb p).2.1⟩)
  rw [e3, Option.bind_some, wy, Option.bind_some]
  by_cases c : prI (fun p => cnF (ndF h p) (h 1 3)) (h 1 2).toNat ≤ 50000
  · rw [if_pos c, Option.bind_some, zb_1, Option.bind_some]
    have x1 : ∀ a i : Int, ¬ (a = 48 ∧ i = 4) → fx_up h4 48 4 1 a i = h4 a i := fun a i z => up_ne (by omega)
    have x2 : fx_up h4 48 4 1 48 4 = 1 := up_eq rfl rfl
    generalize fx_up h4 48 4 1 = h5 at x1 x2
    rw [x2, if_pos (by decide)]
    have h5t : ∀ a i : Int, 1 ≤ a → a ≤ 19 → h5 a i = h a i := fun a i x y => by rw [x1 a i (by omega)]; exact h4t a i x y
    have f5 : ∀ a i : Int, ¬ (43 ≤ a ∧ a ≤ 45) → ¬ (68 ≤ a ∧ a ≤ 74) → a ≠ 48 → h5 a i = h a i := fun a i x y z => by rw [x1 a i (by omega), k1 a i (by omega) (by omega) (by omega), u1 a i (by omega), e2 a i (by omega) (by omega) (by omega)]
    have v5' : TV 1 h5 := TV_congr (fun a i _ _ => h5t a i (by omega) (by omega)) v
    have smE := smT_congr h5t
    have h52 : h5 1 2 = h 1 2 := h5t _ _ (by omega) (by omega)
    have h53 : h5 1 3 = h 1 3 := h5t _ _ (by omega) (by omega)
    have nE5 : ∀ p : Int, 0 ≤ p → p < h 1 2 → ndF h5 p = ndF h p := nds_eq v3' h5t
    have R5 : RWC h5 h5 (h5 1 3) := fun p a b => by
      rw [h52] at b
      have := k2 p a (by rw [w2]; exact b)
      rw [nE p a b] at this
      rw [nE5 p a b, h53]
      exact ⟨by rw [x1 _ _ (by omega)]; exact this.1, fun i j x y x' y' => by rw [x1 _ _ (by omega)]; exact this.2 i j x y x' y'⟩
    have C5 : CT (smT h5 (h5 1 1) (-1)) (h5 1 0) (h5 1 2) (h5 1 4) h5 := by
      rw [smE, h5t 1 0 (by omega) (by omega), h52, h5t 1 4 (by omega) (by omega)]
      exact CT_congr (fun a i z => by rw [x1 a i (by omega), k1 a i (by omega) (by omega) (by omega), u1 a i (by omega)]) cc
    have P5' : P9 h5 := fun a b x y x' y' => by rw [f5 _ _ (by omega) (by omega) (by omega)]; exact rs.2 a b x y x' y'
    obtain ⟨Wq, Fq, Nq⟩ := WcFc_congr (sm := smT h (h 1 1) (-1)) (n := h 1 3) v3' h5t
    have N1 : prI (fun p => cnF (ndF h5 p) (h5 1 3)) (h5 1 2).toNat = prI (fun p => cnF (ndF h p) (h 1 3)) (h 1 2).toNat := by rw [h53]; exact Nq
    have cs := cnt_case (h := h5) (n := h5 1 3) v5' (by omega) (by omega) (by rw [N1]; exact c)
    obtain ⟨⟨le, h19⟩, e4, m1, m2, m3⟩ := search_ok (h0 := h5) (sm := smT h5 (h5 1 1) (-1)) (n := h5 1 3) (w := h5) (bound := 1000000) v5' C5 R5 (by omega) (by omega) (SM_9 _ _) (smT_nn v5') (by decide) (by decide) (S0_ok (by omega) (by omega) (fun p => (cnF_b (nd := ndF h5 p) (show 1 ≤ h5 1 3 by omega) (by omega)).1) cs) (fun _ _ _ _ _ _ _ => rfl) P5'
    simp only at m1 m2 m3
    rw [Mq_prI (by omega) (by omega), N1, smE, h53, Wq, Fq] at m1
    rw [e4, Option.bind_some]
    simp only [lb_tg_48_3, lb_tg_48_1]
    obtain ⟨h21, e5, f1, f2⟩ := copyDay_ok (h := fx_up h19 48 2 le) cd_bd cd_ld (by omega)
    rw [e5, Option.bind_some, Option.bind_some]
    have y0 : ∀ a i : Int, ¬ (56 ≤ a ∧ a ≤ 60) → ¬ (a = 48 ∧ i = 2) → h21 a i = h19 a i := fun a i x y => by rw [f1 a i (by omega), up_ne (by omega)]
    have y2 : h21 48 2 = le := by rw [f1 _ _ (by omega), up_eq rfl rfl]
    have y4 : h21 48 4 = 1 := by rw [y0 _ _ (by omega) (by omega), m2 _ _ (by omega) (by omega) (by omega) (by omega) (by omega), x2]
    have NP : 1 ≤ prI (fun p => cnF (ndF h p) (h 1 3)) (h 1 2).toNat := prI_pos _ (fun p a b => (cb p).2.2.2 ((nd_ok v a (show p < 5 by omega)).2.1))
    obtain ⟨l1, l2, l3⟩ := m1
    have Fb : Fc h (smT h (h 1 1) (-1)) (h 1 3) 0 ≤ 500 := (AI_b (by omega) v3' (by omega) v4').2
    have l0 := l2 0 (Int.le_refl 0) (by omega) (by omega)
    obtain ⟨c1, q1, q2, q3, q4, q5, q6⟩ := l3 (by omega)
    rw [y4, zb_1]
    refine ⟨h21, by rw [y4]; rfl, Or.inr ⟨y4, c, c1, q1, q2, by rw [y2]; exact q4, fun cd a b => by rw [y2]; exact l2 cd a b b, fun c' a b => by rw [y2]; exact q5 c' a b, fun x q a b a' b' => ?_⟩, ?_, fun a i x y => ?_, fun a b x y x' y' => by rw [y0 _ _ (by omega) (by omega)]; exact m3 a b x y x' y'⟩
    · rw [f2 x q a b a' b', up_ne (by omega)]
      exact q6 x q a b a' b'
    · rw [y0 _ _ (by omega) (by omega), m2 _ _ (by omega) (by omega) (by omega) (by omega) (by omega), x1 _ _ (by omega), k1 _ _ (by omega) (by omega) (by omega), u2]
    · rw [y0 a i (by omega) (by omega), m2 a i (by omega) (by omega) (by omega) (by omega) (by omega)]
      exact f5 a i x (by omega) (by omega)
  · rw [if_neg c, Option.bind_some, zb_0, Option.bind_some, up_eq rfl rfl, if_neg (by decide), Option.bind_some, up_eq rfl rfl, zb_0, Option.bind_some]
    have x2 : fx_up h4 48 4 0 48 4 = 0 := up_eq rfl rfl
    have x1 : ∀ a i : Int, ¬ (a = 48 ∧ i = 4) → fx_up h4 48 4 0 a i = h4 a i := fun a i z => up_ne (by omega)
    generalize fx_up h4 48 4 0 = h5 at x1 x2
    refine ⟨h5, by rw [x2], Or.inl ⟨x2, by omega⟩, by rw [x1 _ _ (by omega), k1 _ _ (by omega) (by omega) (by omega), u2], fun a i x y => by rw [x1 a i (by omega), k1 a i (by omega) (by omega) (by omega), u1 a i (by omega), e2 a i (by omega) (by omega) (by omega)], fun a b x y x' y' => ?_⟩
    rw [x1 _ _ (by omega), k1 _ _ (by omega) (by omega) (by omega), u1 _ _ (by omega), e2 _ _ (by omega) (by omega) (by omega)]
    exact rs.2 a b x y x' y'
