-- needs: 6d
theorem Mq_prI {c : Int → Int} {P : Int} (P1 : 1 ≤ P) (P5 : P ≤ 5) : Mq c P P.toNat = prI c P.toNat := by
  rcases (show P = 1 ∨ P = 2 ∨ P = 3 ∨ P = 4 ∨ P = 5 by omega) with rfl | rfl | rfl | rfl | rfl
  · show 1 * c (1 - 1 - ((0 : Nat) : Int)) = 1 * c ((0 : Nat) : Int)
    rfl
  · show 1 * c 1 * c 0 = 1 * c 0 * c 1
    rw [Int.one_mul, Int.one_mul, Int.mul_comm]
  · show 1 * c 2 * c 1 * c 0 = 1 * c 0 * c 1 * c 2
    rw [Int.one_mul, Int.one_mul]
    simp only [Int.mul_comm, Int.mul_left_comm, Int.mul_assoc]
  · show 1 * c 3 * c 2 * c 1 * c 0 = 1 * c 0 * c 1 * c 2 * c 3
    rw [Int.one_mul, Int.one_mul]
    simp only [Int.mul_comm, Int.mul_left_comm, Int.mul_assoc]
  · show 1 * c 4 * c 3 * c 2 * c 1 * c 0 = 1 * c 0 * c 1 * c 2 * c 3 * c 4
    rw [Int.one_mul, Int.one_mul]
    simp only [Int.mul_comm, Int.mul_left_comm, Int.mul_assoc]
theorem prI_pos {c : Int → Int} : ∀ m : Nat, (∀ p : Int, 0 ≤ p → p < m → 1 ≤ c p) → 1 ≤ prI c m
  | 0, _ => Int.le_refl 1
  | m + 1, h => by
    have a := prI_pos m (fun p x y => h p x (by omega))
    have b := h m (by omega) (by omega)
    show 1 ≤ prI c m * c m
    have := Int.mul_le_mul a b (by decide) (show 0 ≤ prI c m by omega)
    omega
theorem prI_grow {c : Int → Int} {a : Nat} : ∀ d : Nat, (∀ p : Int, 0 ≤ p → p < (a + d : Nat) → 1 ≤ c p) → prI c a ≤ prI c (a + d)
  | 0, _ => Int.le_refl _
  | d + 1, h => by
    have x := prI_grow (c := c) (a := a) d (fun p x y => h p x (by omega))
    have y := prI_pos (c := c) (a + d) (fun p x y => h p x (by omega))
    have z := h (a + d : Nat) (by omega) (by omega)
    show prI c a ≤ prI c (a + d) * c (a + d : Nat)
    have := Int.mul_le_mul_of_nonneg_left z (show 0 ≤ prI c (a + d) by omega)
    omega
/-- how many steps a search can take -/
theorem S0_ok {c : Int → Int} {P : Int} (P1 : 1 ≤ P) (P5 : P ≤ 5) (cb : ∀ p : Int, 0 ≤ c p) (h : ((∀ p : Int, 0 ≤ p → p < P → 1 ≤ c p) ∧ prI c P.toNat ≤ 50000) ∨ ((∃ z : Int, 0 ≤ z ∧ z < P ∧ c z = 0) ∧ ∀ p : Int, c p ≤ 24)) : Rm c (fun _ => -1) P (0 + 1 : Int).toNat ≤ 1000000 := by
  show 0 + (c 0 - 1 - -1) * Cst c P (P - 1 - ((0 : Nat) : Int)).toNat + 1 ≤ 1000000
  rw [show c 0 - 1 - -1 = c 0 by omega, show (P - 1 - ((0 : Nat) : Int)).toNat = (P - 1).toNat by omega]
  rcases h with ⟨h1, h2⟩ | ⟨⟨z, z0, z1, z2⟩, h3⟩
  · have key : ∀ m : Nat, (m : Int) < P → prI c (P - 1 - m).toNat * (c (P - 1 - m) * Cst c P m) ≤ (2 * m + 1) * 50000 := by
      intro m
      induction m with
      | zero =>
        intro _
        show prI c (P - 1 - ((0 : Nat) : Int)).toNat * (c (P - 1 - ((0 : Nat) : Int)) * 1) ≤ _
        rw [Int.mul_one]
        have : prI c P.toNat = prI c (P - 1 - ((0 : Nat) : Int)).toNat * c (P - 1 - ((0 : Nat) : Int)) := by
          rw [show P.toNat = (P - 1 - ((0 : Nat) : Int)).toNat + 1 by omega]
          show prI c (P - 1 - ((0 : Nat) : Int)).toNat * c (((P - 1 - ((0 : Nat) : Int)).toNat : Nat) : Int) = _
          rw [show (((P - 1 - ((0 : Nat) : Int)).toNat : Nat) : Int) = P - 1 - ((0 : Nat) : Int) by omega]
        rw [← this]
        omega
      | succ m ih =>
        intro hm
        have a := ih (by omega)
        have e1 : prI c (P - 1 - m).toNat = prI c (P - 1 - ((m + 1 : Nat) : Int)).toNat * c (P - 1 - ((m + 1 : Nat) : Int)) := by
          rw [show (P - 1 - (m : Int)).toNat = (P - 1 - ((m + 1 : Nat) : Int)).toNat + 1 by omega]
          show prI c (P - 1 - ((m + 1 : Nat) : Int)).toNat * c (((P - 1 - ((m + 1 : Nat) : Int)).toNat : Nat) : Int) = _
          rw [show (((P - 1 - ((m + 1 : Nat) : Int)).toNat : Nat) : Int) = P - 1 - ((m + 1 : Nat) : Int) by omega]
        have e2 := prI_grow (c := c) (a := (P - 1 - m).toNat) (P.toNat - (P - 1 - m).toNat) (fun p x y => h1 p x (by omega))
        rw [show (P - 1 - (m : Int)).toNat + (P.toNat - (P - 1 - (m : Int)).toNat) = P.toNat by omega] at e2
        show prI c (P - 1 - ((m + 1 : Nat) : Int)).toNat * (c (P - 1 - ((m + 1 : Nat) : Int)) * (2 + c (P - 1 - m) * Cst c P m)) ≤ _
        rw [← Int.mul_assoc, ← e1, Int.mul_add]
        have : (2 * ((m + 1 : Nat) : Int) + 1) * 50000 = (2 * (m : Int) + 1) * 50000 + 2 * 50000 := by omega
        omega
    have := key (P - 1).toNat (by omega)
    rw [show P - 1 - (((P - 1).toNat : Nat) : Int) = 0 by omega] at this
    have p0 : prI c (Int.toNat 0) = 1 := rfl
    rw [p0, Int.one_mul] at this
    have : (2 * (((P - 1).toNat : Nat) : Int) + 1) * 50000 ≤ 450000 := by omega
    omega
  · have key : ∀ d : Nat, (d : Int) ≤ z → 0 ≤ c (z - d) * Cst c P (P - 1 - (z - d)).toNat ∧ c (z - d) * Cst c P (P - 1 - (z - d)).toNat ≤ ([0, 48, 1200, 28848, 692400] : List Int).getD d 0 := by
      intro d
      induction d with
      | zero =>
        intro _
        rw [show z - ((0 : Nat) : Int) = z by omega, z2, Int.zero_mul]
        exact ⟨Int.le_refl 0, Int.le_refl 0⟩
      | succ d ih =>
        intro hd
        obtain ⟨a, b⟩ := ih (by omega)
        have e : Cst c P (P - 1 - (z - ((d + 1 : Nat) : Int))).toNat = 2 + c (z - d) * Cst c P (P - 1 - (z - d)).toNat := by
          rw [show (P - 1 - (z - ((d + 1 : Nat) : Int))).toNat = (P - 1 - (z - (d : Int))).toNat + 1 by omega]
          show 2 + c (P - 1 - (((P - 1 - (z - (d : Int))).toNat : Nat) : Int)) * Cst c P (P - 1 - (z - (d : Int))).toNat = _
          rw [show P - 1 - (((P - 1 - (z - (d : Int))).toNat : Nat) : Int) = z - d by omega]
        rw [e]
        generalize c (z - d) * Cst c P (P - 1 - (z - d)).toNat = y at a b
        have h4 := h3 (z - ((d + 1 : Nat) : Int))
        have h5 := cb (z - ((d + 1 : Nat) : Int))
        have m1 := Int.mul_nonneg h5 (show 0 ≤ 2 + y by omega)
        have m2 := Int.mul_le_mul_of_nonneg_right h4 (show 0 ≤ 2 + y by omega)
        refine ⟨m1, ?_⟩
        rcases (show d = 0 ∨ d = 1 ∨ d = 2 ∨ d = 3 by omega) with rfl | rfl | rfl | rfl
        · have q1 : ([0, 48, 1200, 28848, 692400] : List Int).getD 0 0 = 0 := rfl
          have q2 : ([0, 48, 1200, 28848, 692400] : List Int).getD (0 + 1) 0 = 48 := rfl
          omega
        · have q1 : ([0, 48, 1200, 28848, 692400] : List Int).getD 1 0 = 48 := rfl
          have q2 : ([0, 48, 1200, 28848, 692400] : List Int).getD (1 + 1) 0 = 1200 := rfl
          omega
        · have q1 : ([0, 48, 1200, 28848, 692400] : List Int).getD 2 0 = 1200 := rfl
          have q2 : ([0, 48, 1200, 28848, 692400] : List Int).getD (2 + 1) 0 = 28848 := rfl
          omega
        · have q1 : ([0, 48, 1200, 28848, 692400] : List Int).getD 3 0 = 28848 := rfl
          have q2 : ([0, 48, 1200, 28848, 692400] : List Int).getD (3 + 1) 0 = 692400 := rfl
          omega
    have := (key z.toNat (by omega)).2
    rw [show z - ((z.toNat : Nat) : Int) = 0 by omega, show (P - 1 - 0).toNat = (P - 1).toNat by omega] at this
    have : ([0, 48, 1200, 28848, 692400] : List Int).getD z.toNat 0 ≤ 692400 := by
      rcases (show z.toNat = 0 ∨ z.toNat = 1 ∨ z.toNat = 2 ∨ z.toNat = 3 ∨ z.toNat = 4 by omega) with e | e | e | e | e <;> rw [e] <;> decide
    omega
/-! ===== the reference looks at all ways ===== -/
theorem rml_ok {x y : Int} (x0 : 0 ≤ x) (x1 : x ≤ 1000000000) (y1 : 1 ≤ y) : fx_rml x y = some (x % y) := by
  unfold fx_rml
  have h1 := Int.emod_nonneg x (show y ≠ 0 by omega)
  have h3 : x % y ≤ x := by
    have := Int.emod_add_mul_ediv x y
    have := Int.mul_nonneg (show 0 ≤ y by omega) (Int.ediv_nonneg x0 (show 0 ≤ y by omega))
    omega
  rw [if_neg (by omega), Int.tmod_eq_emod_of_nonneg x0, widl (by omega) (by omega)]
theorem dvl_ok {x y : Int} (x0 : 0 ≤ x) (x1 : x ≤ 1000000000) (y1 : 1 ≤ y) : fx_dvl x y = some (x / y) := by
  unfold fx_dvl
  have := Int.ediv_nonneg x0 (show 0 ≤ y by omega)
  have := Int.ediv_le_self y x0
  rw [if_neg (by omega), Int.tdiv_eq_ediv_of_nonneg x0, widl (by omega) (by omega)]
theorem wayLay_ok {h g0 g : fx_H} {n way : Int} {D : Int → Int → Int} (v : TV 1 h) (hR : RWR h g0 n) (n1 : 1 ≤ n) (n5 : n ≤ 5) (hF : ∀ a i : Int, a ≠ 133 → a ≠ 138 → g a i = g0 a i) (z : ∀ p : Int, 0 ≤ p → p < h 1 2 → 0 < cnF (ndF h p) n) (w0 : 0 ≤ way) (w1 : way ≤ 50000) (hD : HD D g) (h9 : ∀ x q : Int, ¬ (0 ≤ q ∧ q < h 1 2 ∧ 0 ≤ x ∧ x < n) → D x q = 9) : Ret (fx_loop (s_X6_findLeast_2 FU La_167 126 n) FU (way, h 1 2 - 1, g)) (fun e => (∀ a i : Int, a ≠ 133 → e.2.2 a i = g a i) ∧ HD (Wc h n way) e.2.2) := by
  have P5 : 1 ≤ h 1 2 ∧ h 1 2 ≤ 5 := by unfold TV at v; exact v.2.2.1
  generalize hc : (fun p : Int => cnF (ndF h p) n) = c
  have cE : ∀ p : Int, cnF (ndF h p) n = c p := fun p => by rw [← hc]
  refine loop_ret (fun s => -1 ≤ s.2.1 ∧ s.2.1 ≤ h 1 2 - 1 ∧ s.1 = rq c (h 1 2) way (h 1 2 - 1 - s.2.1).toNat ∧ (∀ a i : Int, a ≠ 133 → s.2.2 a i = g a i) ∧ ∃ E : Int → Int → Int, HD E s.2.2 ∧ (∀ x q : Int, ¬ (0 ≤ q ∧ q < h 1 2 ∧ 0 ≤ x ∧ x < n) → E x q = 9) ∧ ∀ x q : Int, s.2.1 < q → q < h 1 2 → 0 ≤ x → x < n → E x q = rwF (ndF h q) n (dq c (h 1 2) way q) x) (fun s => (s.2.1 + 1).toNat) (fun s hs => ?_) FU _ ⟨by show -1 ≤ h 1 2 - 1; omega, Int.le_refl _, by show way = rq c _ way (h 1 2 - 1 - (h 1 2 - 1)).toNat; rw [show (h 1 2 - 1 - (h 1 2 - 1)).toNat = 0 by omega]; rfl, fun _ _ _ => rfl, D, hD, h9, fun x q a b => by have : h 1 2 - 1 < q := a; omega⟩ (FU_gt (by show (h 1 2 - 1 + 1).toNat < _; omega))
  obtain ⟨rest, p, s⟩ := s
  obtain ⟨s1, s2, s3, s4, E, s5, s6, s7⟩ := hs
  simp only at s1 s2 s3 s4 s5 s7
  unfold s_X6_findLeast_2
  simp only [lb_tg_126_10]
  by_cases cc : 0 ≤ p
  · have rb := rq_b (c := c) (P := h 1 2) (fun q a b => by rw [← cE]; exact z q a b) w0 (h 1 2 - 1 - p).toNat (by omega)
    rw [← s3] at rb
    have zp := z p cc (by omega)
    rw [cE] at zp
    obtain ⟨r1, r2⟩ := hR p cc (by omega)
    rw [cE] at r1 r2
    have cb := cnF_b (nd := ndF h p) n1 n5
    rw [cE] at cb
    have dE : rest % c p = dq c (h 1 2) way p := by unfold dq; rw [← s3]
    have db := dq_b (c := c) (P := h 1 2) (code := way) zp
    have m135 : s 135 p = c p := by rw [s4 _ _ (by omega), hF _ _ (by omega) (by omega)]; exact r1
    obtain ⟨w, e1, k1, k2⟩ := takeRow_ok (g := s) (nds := ndF h) (D := E) (p := p) (n := n) (r := dq c (h 1 2) way p) n1 n5 cc (by omega) db.1 (by rw [cE]; exact db.2) (fun j a b => by rw [s4 _ _ (by omega), hF _ _ (by omega) (by omega)]; exact r2 _ j db.1 db.2 a b) s5
    rw [if_pos cc, rdl lb_ln_135 cc (by omega), Option.bind_some, m135, rml_ok rb.1 (by omega) (by omega), Option.bind_some, dE, wid (z := dq c (h 1 2) way p) (by omega) (by omega), e1, Option.bind_some, rdl lb_ln_135 cc (by omega), Option.bind_some, k1 _ _ (by omega), m135, dvl_ok rb.1 (by omega) (by omega), Option.bind_some, wid (z := p + -1) (by omega) (by omega)]
    refine Or.inl ⟨_, rfl, ⟨by show -1 ≤ p + -1; omega, by show p + -1 ≤ h 1 2 - 1; omega, ?_, fun a i y => by show w a i = _; rw [k1 a i y]; exact s4 a i y, _, k2, fun x q y => ?_, fun x q a b a' b' => ?_⟩, by show (p + -1 + 1).toNat < (p + 1).toNat; omega⟩
    · show rest / c p = rq c _ way (h 1 2 - 1 - (p + -1)).toNat
      rw [show (h 1 2 - 1 - (p + -1)).toNat = (h 1 2 - 1 - p).toNat + 1 by omega, s3]
      show rq c (h 1 2) way (h 1 2 - 1 - p).toNat / c p = rq c (h 1 2) way (h 1 2 - 1 - p).toNat / c (h 1 2 - 1 - (((h 1 2 - 1 - p).toNat : Nat) : Int))
      rw [show h 1 2 - 1 - (((h 1 2 - 1 - p).toNat : Nat) : Int) = p by omega]
    · unfold LR
      rw [if_neg (by omega)]; exact s6 x q y
    · have a : p + -1 < q := a
      unfold LR
      by_cases e : q = p
      · rw [if_pos ⟨e, a', b'⟩, e]
      · rw [if_neg (fun y => e y.1)]; exact s7 x q (by omega) b a' b'
  · rw [if_neg cc]
    refine Or.inr ⟨_, rfl, s4, fun x q a b a' b' => ?_⟩
    show s 133 (5 * q + x) = _
    rw [s5 x q a b a' b']
    unfold Wc SD
    rw [hc]
    by_cases y : 0 ≤ q ∧ q < h 1 2 ∧ 0 ≤ x ∧ x < n
    · rw [if_pos y, s7 x q (by omega) y.2.1 a y.2.2.2]
    · rw [if_neg y, s6 x q y]
theorem Wc_v {h : fx_H} {n code : Int} (v : TV 1 h) (n1 : 1 ≤ n) (n5 : n ≤ 5) (z : ∀ p : Int, 0 ≤ p → p < h 1 2 → 0 < cnF (ndF h p) n) : DW (h 1 0) (Wc h n code) := fun x q _ _ _ _ => by
  have := SD_v (T := h 1 0) (P := h 1 2) (nds := ndF h) (n := n) (pk := dq (fun p => cnF (ndF h p) n) (h 1 2) code) (m := h 1 2) (NW0_town v) n1 n5 (Int.le_refl _) (fun q a b => dq_b (c := fun p => cnF (ndF h p) n) (z q a b)) x q
  unfold Wc
  omega
/-- all ways below cu are looked at -/
def BSR (F : Int → Int) (W : Int → Int → Int → Int) (least cu : Int) (s : fx_H) : Prop := (0 ≤ least ∧ least ≤ 1000000) ∧ (∀ c : Int, 0 ≤ c → c < cu → least ≤ F c) ∧ (least < 1000000 → ∃ c1 : Int, 0 ≤ c1 ∧ c1 < cu ∧ F c1 = least ∧ (∀ c' : Int, 0 ≤ c' → c' < c1 → least < F c') ∧ ∀ x q : Int, 0 ≤ x → x < 5 → 0 ≤ q → q < 5 → s 138 (5 * q + x) = de (W c1 x q))
theorem findLeast_ok {h g0 : fx_H} {sm : Int → Int} {n : Int} (v : TV 1 h) (r2 : TR2 h g0) (s9 : sm 9 = -1) (hs : SOK sm (h 1 0) g0) (hR : RWR h g0 n) (n1 : 1 ≤ n) (n5 : n ≤ 5) (hN : prI (fun p => cnF (ndF h p) n) (h 1 2).toNat ≤ 50000) : Ret (f_X6_findLeast FU La_167 126 n g0) (fun e => BSR (Fc h sm n) (Wc h n) e.1 (prI (fun p => cnF (ndF h p) n) (h 1 2).toNat) e.2 ∧ ∀ a i : Int, a ≠ 133 → a ≠ 138 → e.2 a i = g0 a i) := by
  have vv := v
  unfold TV at vv
  obtain ⟨⟨v1, v1'⟩, ⟨v2, v2'⟩, ⟨v3, v3'⟩, ⟨v4, v4'⟩, ⟨v5, v5'⟩, -⟩ := vv
  have cb := fun p : Int => cnF_b (nd := ndF h p) n1 n5
  have N0 := (prI_le (f := fun p => cnF (ndF h p) n) (n := (h 1 2).toNat) (by omega) (fun i _ _ => ⟨(cb i).1, (cb i).2.1⟩)).1
  unfold f_X6_findLeast
  obtain ⟨g1, e1, a1, a2⟩ := takeNothing_ok (g := g0)
  rw [e1, Option.bind_some, waysR_ok (P := h 1 2) (c := fun p => cnF (ndF h p) n) (by rw [a1 _ _ (by omega)]; exact r2.2.2.1) (by omega) v3' (fun p a b => ⟨by rw [a1 _ _ (by omega)]; exact (hR p a b).1, (cb p).1, (cb p).2.1⟩), Option.bind_some]
  generalize hNN : prI (fun p => cnF (ndF h p) n) (h 1 2).toNat = N at *
  refine Ret.bind (Ret.mono (loop_ix (fun s => s.2.1) (fun c s => BSR (Fc h sm n) (Wc h n) s.1 c s.2.2 ∧ (∀ a i : Int, a ≠ 133 → a ≠ 138 → s.2.2 a i = g0 a i) ∧ ∃ D : Int → Int → Int, HD D s.2.2 ∧ ∀ x q : Int, ¬ (0 ≤ q ∧ q < h 1 2 ∧ 0 ≤ x ∧ x < n) → D x q = 9) N (i := 0) (Q := fun s => BSR (Fc h sm n) (Wc h n) s.1 N s.2.2 ∧ (∀ a i : Int, a ≠ 133 → a ≠ 138 → s.2.2 a i = g0 a i)) (FU_gt (by omega)) rfl N0 (by
    exact ⟨⟨⟨(by decide : (0 : Int) ≤ 1000000), Int.le_refl _⟩, fun c a b => by omega, fun z => absurd z (Int.lt_irrefl _)⟩, fun a i x y => a1 a i x, fun _ _ => 9, fun x q a b a' b' => a2 _ (by omega) (by omega), fun _ _ _ => rfl⟩) (fun j s ej b1 b2 ⟨i1, i2, D, i3, i4⟩ => ?_) (fun s es i => ?_)) (fun w hw => ?_))
  · obtain ⟨le, way, s⟩ := s
    simp only at ej i1 i2 i3
    subst ej
    have z : ∀ p : Int, 0 ≤ p → p < h 1 2 → 0 < cnF (ndF h p) n := fun p a b => by
      by_cases y : 0 < cnF (ndF h p) n
      · exact y
      · exfalso
        have c0 : cnF (ndF h p) n = 0 := by have := (cb p).1; omega
        have : ∀ m : Nat, p < m → prI (fun p => cnF (ndF h p) n) m = 0 := by
          intro m
          induction m with
          | zero => intro x; omega
          | succ m ih =>
            intro x
            show prI (fun p => cnF (ndF h p) n) m * cnF (ndF h m) n = 0
            by_cases q : p < m
            · rw [ih q, Int.zero_mul]
            · rw [show (m : Int) = p by omega, c0, Int.mul_zero]
        have := this (h 1 2).toNat (by omega)
        omega
    obtain ⟨⟨x, y, w⟩, e2, k1, k2⟩ := wayLay_ok (g := s) (D := D) v hR n1 n5 i2 z b1 (by omega) i3 i4
    simp only at k1 k2
    have wF : ∀ a i : Int, a ≠ 133 → a ≠ 138 → w a i = g0 a i := fun a i x y => by rw [k1 a i x]; exact i2 a i x y
    have rw2 : TR2 h w := TR2_congr (fun i => wF _ _ (by omega) (by omega)) r2
    have Wv := Wc_v (code := way) v n1 n5 z
    obtain ⟨hh1, hh2⟩ := HD_hn k2 Wv v1
    have aE : f_X6_allIn FU La_167 126 n w = some (Fc h sm n way) := by
      rw [rf_allIn v rw2 s9 (SOK_congr (fun i => wF _ _ (by omega) (by omega)) hs) hh1 (by omega) n5]
      exact congrArg some (AI_congr (fun hr q a b a' b' => hh2 hr q a (by omega) a' (by omega)) ⟨v5, v5'⟩)
    have Fb : 0 ≤ Fc h sm n way ∧ Fc h sm n way ≤ 500 := AI_b (by omega) v3' (by omega) n5
    have nD : ∃ D : Int → Int → Int, HD D w ∧ ∀ x q : Int, ¬ (0 ≤ q ∧ q < h 1 2 ∧ 0 ≤ x ∧ x < n) → D x q = 9 := ⟨_, k2, fun x q y => by unfold Wc SD; rw [if_neg y]⟩
    unfold s_X6_findLeast_1
    simp only
    rw [if_pos b2, ev_people, Option.bind_some, i2 127 10 (by omega) (by omega), r2.2.2.1, wid (z := h 1 2 - 1) (by omega) (by omega), e2, Option.bind_some]
    simp only
    rw [aE, Option.bind_some, widl (z := way + 1) (by omega) (by omega)]
    obtain ⟨l1, l2, l3⟩ := i1
    by_cases q : Fc h sm n way < le
    · rw [if_pos q]
      have cpy : Ret (fx_loop (s_X6_findLeast_3 FU La_167 126) FU (0, w)) (fun e => (∀ a i : Int, a ≠ 138 → e.2 a i = w a i) ∧ ∀ i : Int, 0 ≤ i → i < 25 → e.2 138 i = w 133 i) := by
        refine Ret.mono (loop_for (fun j s => (∀ a i : Int, a ≠ 138 → s a i = w a i) ∧ ∀ i : Int, 0 ≤ i → i < j → s 138 i = w 133 i) 25 (FU_gt (by omega)) (by omega) ⟨fun _ _ _ => rfl, fun _ _ _ => by omega⟩ (fun j s c1 c2 ⟨j1, j2⟩ => ?_) (fun s _ => ?_)) (fun e he => he.2)
        · unfold s_X6_findLeast_3
          simp only [lb_tg_126_8, lb_tg_126_13]
          rw [if_pos c2, rd133 c1 c2, Option.bind_some, wrl lb_ln_138 c1 c2, Option.bind_some, wid (by omega) (by omega), j1 133 j (by omega)]
          refine ⟨_, rfl, fun a i y => by rw [up_ne (Or.inl y)]; exact j1 a i y, fun i a b => ?_⟩
          by_cases e : i = j
          · rw [up_eq rfl e, e]
          · rw [up_ne (Or.inr e)]; exact j2 i a (by omega)
        · unfold s_X6_findLeast_3
          simp only
          rw [if_neg (by omega)]
      obtain ⟨⟨x', w'⟩, e3, m1, m2⟩ := cpy
      simp only at m1 m2
      rw [e3, Option.bind_some]
      obtain ⟨D2, d1, d2⟩ := nD
      refine ⟨_, rfl, rfl, ⟨⟨Fb.1, by show Fc h sm n way ≤ 1000000; omega⟩, fun c a b => ?_, fun _ => ⟨way, b1, by omega, rfl, fun c' a b => ?_, fun x q a b a' b' => ?_⟩⟩, fun a i x y => by show w' a i = _; rw [m1 a i y]; exact wF a i x y, D2, fun x q a b a' b' => by show w' 133 _ = _; rw [m1 _ _ (by omega)]; exact d1 x q a b a' b', d2⟩
      · show Fc h sm n way ≤ Fc h sm n c
        by_cases e : c = way
        · rw [e]; exact Int.le_refl _
        · have := l2 c a (by omega); omega
      · show Fc h sm n way < Fc h sm n c'
        have := l2 c' a b; omega
      · show w' 138 _ = _
        rw [m2 _ (by omega) (by omega), k2 x q a b a' b']
    · rw [if_neg q]
      refine ⟨_, rfl, rfl, ⟨l1, fun c a b => ?_, fun y => ?_⟩, wF, nD⟩
      · by_cases e : c = way
        · rw [e]; show le ≤ _; omega
        · exact l2 c a (by omega)
      · obtain ⟨c1, x1, x2, x3, x4, x5⟩ := l3 y
        exact ⟨c1, x1, by omega, x3, x4, fun x q a b a' b' => by show w 138 _ = _; rw [k1 _ _ (by omega)]; exact x5 x q a b a' b'⟩
  · obtain ⟨le, way, s⟩ := s
    simp only at es
    unfold s_X6_findLeast_1
    simp only
    rw [if_neg (by omega)]
    exact ⟨_, rfl, i.1, i.2.1⟩
  · obtain ⟨le, way, s⟩ := w
    exact Ret.ok hw
