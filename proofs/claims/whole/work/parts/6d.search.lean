-- needs: 6c
/-! ===== the class's search ===== -/
theorem rq_K {c pk : Int → Int} {P code : Int} : ∀ j : Nat, (j : Int) ≤ P → rq c P code (P - j).toNat = Kq c pk j → (∀ i : Int, 0 ≤ i → i < j → 0 ≤ pk i ∧ pk i < c i) → rq c P code P.toNat = 0
  | 0, _, e, _ => by rw [show (P - ((0 : Nat) : Int)).toNat = P.toNat by omega] at e; exact e
  | j + 1, h, e, hp => by
    obtain ⟨p0, p1⟩ := hp j (by omega) (by omega)
    have hK : Kq c pk (j + 1) = Kq c pk j * c j + pk j := rfl
    refine rq_K (pk := pk) j (by omega) ?_ (fun i a b => hp i a (by omega))
    rw [show (P - (j : Int)).toNat = (P - ((j + 1 : Nat) : Int)).toNat + 1 by omega]
    show rq c P code (P - ((j + 1 : Nat) : Int)).toNat / c (P - 1 - (((P - ((j + 1 : Nat) : Int)).toNat : Nat) : Int)) = _
    rw [show P - 1 - (((P - ((j + 1 : Nat) : Int)).toNat : Nat) : Int) = (j : Int) by omega, e, hK, Int.add_comm, Int.add_mul_ediv_right _ _ (by omega), Int.ediv_eq_zero_of_lt p0 p1, Int.zero_add]
def SF (h0 s : fx_H) : Prop := ∀ a i : Int, ¬ (50 ≤ a ∧ a ≤ 54) → ¬ (62 ≤ a ∧ a ≤ 66) → a ≠ 75 → a ≠ 76 → ¬ (79 ≤ a ∧ a ≤ 83) → s a i = h0 a i
def BST (F : Int → Int) (W : Int → Int → Int → Int) (N bound least cu : Int) (s : fx_H) : Prop := (0 ≤ least ∧ least ≤ bound) ∧ (∀ c : Int, 0 ≤ c → c < cu → c < N → least ≤ F c) ∧ (least < bound → ∃ c1 : Int, 0 ≤ c1 ∧ c1 < cu ∧ c1 < N ∧ F c1 = least ∧ (∀ c' : Int, 0 ≤ c' → c' < c1 → least < F c') ∧ ∀ x q : Int, 0 ≤ x → x < 5 → 0 ≤ q → q < 5 → s (62 + x) q = W c1 x q)
theorem BST_same {F : Int → Int} {W : Int → Int → Int → Int} {N bound least cu cu' : Int} {s s' : fx_H} (h : BST F W N bound least cu s) (hc : cu ≤ cu') (hn : ∀ c : Int, cu ≤ c → 0 ≤ c → c < cu' → c < N → least ≤ F c) (e : ∀ x q : Int, 0 ≤ x → x < 5 → s' (62 + x) q = s (62 + x) q) : BST F W N bound least cu' s' := by
  obtain ⟨h1, h2, h3⟩ := h
  refine ⟨h1, fun c a b d => ?_, fun z => ?_⟩
  · by_cases y : c < cu
    · exact h2 c a y d
    · exact hn c (by omega) a b d
  · obtain ⟨c1, x1, x2, x3, x4, x5, x6⟩ := h3 z
    exact ⟨c1, x1, by omega, x3, x4, x5, fun x q a b a' b' => by rw [e x q a b]; exact x6 x q a b a' b'⟩
section SEARCH
variable {h0 : fx_H} {sm : Int → Int} {n : Int}
/-- picks are right below m -/
def PKS (h0 : fx_H) (n : Int) (pk : Int → Int) (m : Int) : Prop := ∀ q : Int, 0 ≤ q → q < m → 0 ≤ pk q ∧ pk q < cnF (ndF h0 q) n
def Fc (h0 : fx_H) (sm : Int → Int) (n code : Int) : Int := AS sm (kdF h0) (ndF h0) (h0 1 2) (h0 1 4) n (dq (fun p => cnF (ndF h0 p) n) (h0 1 2) code) (h0 1 2)
def Wc (h0 : fx_H) (n code : Int) : Int → Int → Int := SD (ndF h0) n (dq (fun p => cnF (ndF h0 p) n) (h0 1 2) code) (h0 1 2)
theorem NW0_town (v : TV 1 h0) : NW0 (h0 1 0) (h0 1 2) (ndF h0) := fun p a b t c d => by
  have P5 : h0 1 2 ≤ 5 := by unfold TV at v; exact v.2.2.1.2
  exact (nd_ok v a (show p < 5 by omega)).1 t c d
theorem kdF_5 {x : Int} (h : 5 ≤ x) : kdF h0 x = 0 := by unfold kdF; rw [if_neg (by omega)]
/-- prices of a person, as others up to him have taken theirs -/
def PRN (h0 : fx_H) (sm : Int → Int) (n p : Int) (D : Int → Int → Int) (s : fx_H) : Prop := ∀ hr t : Int, 0 ≤ hr → hr < n → 0 ≤ t → t < h0 1 0 → 0 < ndF h0 p t → s (79 + p) (hr * 10 + t) = adI sm (kdF h0) D (h0 1 2) p hr t
theorem start_ok {s : fx_H} {pk : Int → Int} {p f : Int} (v : TV 1 h0) (hC : CT sm (h0 1 0) (h0 1 2) (h0 1 4) h0) (n1 : 1 ≤ n) (n5 : n ≤ 5) (hF : SF h0 s) (h9 : P9 s) (p0 : 0 ≤ p) (p1 : p < h0 1 2) (hp : PKS h0 n pk p) (hD : CD (SD (ndF h0) n pk p) s) : Ret (f_X1_startPerson FU La_167 48 1 43 p f n s) (fun s' => SF h0 s' ∧ P9 s' ∧ (∀ a i : Int, ¬ (a = 75 ∧ i = p) → ¬ (a = 76 ∧ i = p) → a ≠ 79 + p → s' a i = s a i) ∧ s' 75 p = -1 ∧ s' 76 p = f ∧ PRN h0 sm n p (SD (ndF h0) n pk p) s') := by
  have P5 : h0 1 2 ≤ 5 := by unfold TV at v; exact v.2.2.1.2
  have hN := NW0_town v
  unfold f_X1_startPerson
  rw [lb_tg_48_9, lb_tg_48_10, wrl lb_ln_75 p0 (by omega), Option.bind_some, wrl lb_ln_76 p0 (by omega), Option.bind_some]
  have u1 : ∀ a i : Int, ¬ (a = 75 ∧ i = p) → ¬ (a = 76 ∧ i = p) → fx_up (fx_up s 75 p (-1)) 76 p f a i = s a i := fun a i x y => by rw [up_ne (by omega), up_ne (by omega)]
  have u2 : fx_up (fx_up s 75 p (-1)) 76 p f 75 p = -1 := by rw [up_ne (by omega), up_eq rfl rfl]
  have u3 : fx_up (fx_up s 75 p (-1)) 76 p f 76 p = f := up_eq rfl rfl
  generalize fx_up (fx_up s 75 p (-1)) 76 p f = w at u1 u2 u3
  have wf : ∀ a i : Int, ¬ (50 ≤ a ∧ a ≤ 54) → ¬ (62 ≤ a ∧ a ≤ 66) → a ≠ 75 → a ≠ 76 → ¬ (79 ≤ a ∧ a ≤ 83) → w a i = h0 a i := fun a i x1 x2 x3 x4 x5 => by rw [u1 a i (by omega) (by omega)]; exact hF a i x1 x2 x3 x4 x5
  have kE : kdF w = kdF h0 := by funext x; unfold kdF; rw [wf _ _ (by omega) (by omega) (by omega) (by omega) (by omega)]
  obtain ⟨⟨x9, s'⟩, e1, k1, k2⟩ := pricesAll_ok (h := w) (sm := sm) (D := SD (ndF h0) n pk p) (p := p) (T := h0 1 0) (P := h0 1 2) (ri := h0 1 4) (n := n) (TV_congr (fun a i _ _ => wf a i (by omega) (by omega) (by omega) (by omega) (by omega)) v) (wf _ _ (by omega) (by omega) (by omega) (by omega) (by omega)) (CT_congr (fun a i z => wf a i (by omega) (by omega) (by omega) (by omega) (by omega)) hC) (fun x q a b a' b' => by rw [u1 _ _ (by omega) (by omega)]; exact hD x q a b a' b') (fun x q a b a' b' => by have := SD_v hN n1 n5 (show p ≤ h0 1 2 by omega) hp x q; omega) P5 p0 p1 (by omega) n5
  simp only at k1 k2
  rw [e1, Option.bind_some]
  have f1 : ∀ a i : Int, a ≠ 79 + p → s' a i = w a i := fun a i z => k1 a i (fun q => z q.1)
  refine Ret.ok ⟨fun a i x1 x2 x3 x4 x5 => by rw [f1 a i (by omega)]; exact wf a i x1 x2 x3 x4 x5, fun q x a b a' b' => ?_, fun a i x y z => by rw [f1 a i z, u1 a i x y], by rw [f1 _ _ (by omega), u2], by rw [f1 _ _ (by omega), u3], fun x t a b a' b' d => ?_⟩
  · rw [k1 _ _ (fun z => by
      obtain ⟨-, r, t, y1, y2, y3, y4, y5⟩ := z
      omega), u1 _ _ (by omega) (by omega)]
    exact h9 q x a b a' b'
  · rw [k2 x t a b a' b' (by rw [wf _ _ (by omega) (by omega) (by omega) (by omega) (by omega)]; exact d), kE]
theorem search_ok {w : fx_H} {bound : Int} (v : TV 1 h0) (hC : CT sm (h0 1 0) (h0 1 2) (h0 1 4) h0) (hR : RWC h0 h0 n) (n1 : 1 ≤ n) (n5 : n ≤ 5) (s9 : sm 9 = -1) (sT : ∀ x : Int, 0 ≤ x → x < h0 1 0 → 0 ≤ sm x) (b0 : 0 ≤ bound) (b1 : bound ≤ 1000000) (hS : Rm (fun p => cnF (ndF h0 p) n) (fun _ => -1) (h0 1 2) (0 + 1 : Int).toNat ≤ 1000000) (hF : SF h0 w) (h9 : P9 w) : Ret (f_X1_search FU La_167 48 1 43 n bound w) (fun e => BST (Fc h0 sm n) (Wc h0 n) (Mq (fun p => cnF (ndF h0 p) n) (h0 1 2) (h0 1 2).toNat) bound e.1 (Mq (fun p => cnF (ndF h0 p) n) (h0 1 2) (h0 1 2).toNat) e.2 ∧ SF h0 e.2 ∧ P9 e.2) := by
  have hN := NW0_town v
  have kb := fun x : Int => kdF_b (hr := x) v
  have k5 : ∀ x : Int, 5 ≤ x → kdF h0 x = 0 := fun x z => kdF_5 z
  have vv := v
  unfold TV at vv
  obtain ⟨⟨v1, v1'⟩, ⟨v2, v2'⟩, ⟨v3, v3'⟩, ⟨v4, v4'⟩, ⟨v5, v5'⟩, -⟩ := vv
  generalize hc : (fun p : Int => cnF (ndF h0 p) n) = c at *
  have cE : ∀ p : Int, cnF (ndF h0 p) n = c p := fun p => by rw [← hc]
  have cb : ∀ p : Int, 0 ≤ c p ∧ c p ≤ 120 := fun p => by rw [← cE]; have := cnF_b (nd := ndF h0 p) n1 n5; exact ⟨this.1, this.2.1⟩
  have cp : ∀ p : Int, 0 ≤ p → p < h0 1 2 → 0 ≤ c p := fun p _ _ => (cb p).1
  generalize hNN : Mq c (h0 1 2) (h0 1 2).toNat = N
  have zz : (∀ p : Int, 0 ≤ p → p < h0 1 2 → 0 < c p) ∨ N ≤ 0 := by
    by_cases z : ∀ p : Int, 0 ≤ p → p < h0 1 2 → 0 < c p
    · exact Or.inl z
    · refine Or.inr ?_
      obtain ⟨p, hp⟩ := Classical.not_forall.mp z
      have hp : ∃ (a : 0 ≤ p) (b : p < h0 1 2), ¬ 0 < c p := by
        refine Classical.byContradiction (fun y => hp (fun a b => Classical.byContradiction (fun u => y ⟨a, b, u⟩)))
      obtain ⟨a, b, d⟩ := hp
      have c0 : c p = 0 := by have := cb p; omega
      have : ∀ m : Nat, h0 1 2 - p ≤ m → (m : Int) ≤ h0 1 2 → Mq c (h0 1 2) m = 0 := by
        intro m
        induction m with
        | zero => intro x _; omega
        | succ m ih =>
          intro x y
          show Mq c (h0 1 2) m * c (h0 1 2 - 1 - m) = 0
          by_cases q : h0 1 2 - p ≤ m
          · rw [ih q (by omega), Int.zero_mul]
          · rw [show h0 1 2 - 1 - (m : Int) = p by omega, c0, Int.mul_zero]
      rw [← hNN, this _ (by omega) (by omega)]
      exact Int.le_refl 0
  have dqv : (∀ p : Int, 0 ≤ p → p < h0 1 2 → 0 < c p) → ∀ code q : Int, 0 ≤ q → q < h0 1 2 → 0 ≤ dq c (h0 1 2) code q ∧ dq c (h0 1 2) code q < c q := fun z code q a b => dq_b (z q a b)
  have FcE : ∀ code : Int, Fc h0 sm n code = AS sm (kdF h0) (ndF h0) (h0 1 2) (h0 1 4) n (dq c (h0 1 2) code) (h0 1 2) := fun code => by unfold Fc; rw [hc]
  have WcE : ∀ code : Int, Wc h0 n code = SD (ndF h0) n (dq c (h0 1 2) code) (h0 1 2) := fun code => by unfold Wc; rw [hc]
  have Fnn : ∀ code : Int, 0 ≤ Fc h0 sm n code := fun code => by rw [FcE]; exact (AI_b (by omega) v3' (by omega) n5).1
  /- codes with a known beginning -/
  have pre : ∀ (pk : Int → Int) (p code : Int), 0 ≤ p → p < h0 1 2 → (∀ q : Int, 0 ≤ q → q ≤ p → 0 ≤ pk q ∧ pk q < c q) → (∀ p : Int, 0 ≤ p → p < h0 1 2 → 0 < c p) → (Kq c pk p.toNat * c p + pk p) * Mq c (h0 1 2) (h0 1 2 - 1 - p).toNat ≤ code → code < (Kq c pk p.toNat * c p + pk p + 1) * Mq c (h0 1 2) (h0 1 2 - 1 - p).toNat → (∀ q : Int, 0 ≤ q → q < p + 1 → dq c (h0 1 2) code q = pk q) ∧ AS sm (kdF h0) (ndF h0) (h0 1 2) (h0 1 4) n pk (p + 1) ≤ Fc h0 sm n code := fun pk p code p0 p1 hp z a b => by
    have hX := rq_in (c := c) (m := (h0 1 2 - 1 - p).toNat) (by omega) z a b
    have hd := dq_of (c := c) (pk := pk) (P := h0 1 2) (code := code) (p + 1).toNat (by omega) (by
      rw [show (h0 1 2 - (((p + 1).toNat : Nat) : Int)).toNat = (h0 1 2 - 1 - p).toNat by omega, hX, show (p + 1).toNat = p.toNat + 1 by omega]
      show _ = Kq c pk p.toNat * c ((p.toNat : Nat) : Int) + pk ((p.toNat : Nat) : Int)
      rw [show ((p.toNat : Nat) : Int) = p by omega]) (fun i x y => hp i x (by omega))
    have hd' : ∀ q : Int, 0 ≤ q → q < p + 1 → dq c (h0 1 2) code q = pk q := fun q x y => hd q x (by omega)
    refine ⟨hd', ?_⟩
    have e : AS sm (kdF h0) (ndF h0) (h0 1 2) (h0 1 4) n pk (p + 1) = AS sm (kdF h0) (ndF h0) (h0 1 2) (h0 1 4) n (dq c (h0 1 2) code) (p + 1) := by unfold AS; rw [SD_congr (fun q x y => (hd' q x y).symm)]
    rw [e, FcE]
    have := AS_mono (sm := sm) (ri := h0 1 4) (pk := dq c (h0 1 2) code) (m := p + 1) hN n1 n5 v3' kb k5 ⟨v5, v5'⟩ s9 sT v1' (by omega) (h0 1 2 - (p + 1)).toNat (by omega) (fun q x y => by rw [cE]; exact dqv z code q x y)
    rw [show p + 1 + (((h0 1 2 - (p + 1)).toNat : Nat) : Int) = h0 1 2 by omega] at this
    exact this
  unfold f_X1_search
  obtain ⟨w1, e1, a1, a2⟩ := clearDay_ok (h := w)
  rw [e1, Option.bind_some]
  have SD0 : ∀ pk : Int → Int, SD (ndF h0) n pk 0 = fun _ _ => 9 := fun pk => by funext x q; unfold SD; rw [if_neg (by omega)]
  obtain ⟨w2, e2, d1, d2, d3, d4, d5, d6⟩ := start_ok (s := w1) (pk := fun _ => 0) (p := 0) (f := 0) v hC n1 n5 (fun a i x1 x2 x3 x4 x5 => by rw [a1 a i x1]; exact hF a i x1 x2 x3 x4 x5) (fun a b x y x' y' => by rw [a1 _ _ (by omega)]; exact h9 a b x y x' y') (Int.le_refl 0) (by omega) (fun q a b => by omega) (by rw [SD0]; exact a2)
  rw [e2, Option.bind_some]
  have key : Ret (fx_loop (s_X1_search_1 FU La_167 48 1 43 n) FU (bound, 0, 0, w2)) (fun e => BST (Fc h0 sm n) (Wc h0 n) N bound e.1 N e.2.2.2 ∧ SF h0 e.2.2.2 ∧ P9 e.2.2.2) := by
    refine loop_ret (fun s => -1 ≤ s.2.1 ∧ s.2.1 < h0 1 2 ∧ SF h0 s.2.2.2 ∧ P9 s.2.2.2 ∧ (∀ q : Int, 0 ≤ q → q < s.2.1 → 0 ≤ s.2.2.2 75 q ∧ s.2.2.2 75 q < c q) ∧ (0 ≤ s.2.1 → -1 ≤ s.2.2.2 75 s.2.1 ∧ s.2.2.2 75 s.2.1 ≤ c s.2.1 - 1 ∧ ∀ x : Int, n ≤ x → x < 5 → s.2.2.2 (50 + x) s.2.1 = 9) ∧ (∀ x q : Int, 0 ≤ x → x < 5 → 0 ≤ q → q < 5 → ¬ q = s.2.1 → s.2.2.2 (50 + x) q = SD (ndF h0) n (s.2.2.2 75) s.2.1 x q) ∧ (∀ j : Int, 0 ≤ j → j ≤ s.2.1 → s.2.2.2 76 j = AS sm (kdF h0) (ndF h0) (h0 1 2) (h0 1 4) n (s.2.2.2 75) j ∧ PRN h0 sm n j (SD (ndF h0) n (s.2.2.2 75) j) s.2.2.2) ∧ BST (Fc h0 sm n) (Wc h0 n) N bound s.1 (if s.2.1 < 0 then N else cur c (s.2.2.2 75) (h0 1 2) s.2.1) s.2.2.2 ∧ 0 ≤ s.2.2.1 ∧ s.2.2.1 + Rm c (s.2.2.2 75) (h0 1 2) (s.2.1 + 1).toNat ≤ 1000000) (fun s => (Rm c (s.2.2.2 75) (h0 1 2) (s.2.1 + 1).toNat).toNat) (fun s hs => ?_) FU _ (by
      refine ⟨(by decide : (-1 : Int) ≤ 0), by show (0 : Int) < h0 1 2; omega, d1, d2, fun q a b => by have : q < 0 := b; omega, fun _ => ⟨by show -1 ≤ w2 75 0; rw [d4]; exact Int.le_refl _, by show w2 75 0 ≤ c 0 - 1; rw [d4]; have := cb 0; omega, fun x a b => ?_⟩, fun x q a b a' b' z => ?_, fun j a b => ?_, ?_, Int.le_refl 0, ?_⟩
      · show w2 (50 + x) 0 = 9
        rw [d3 _ _ (by omega) (by omega) (by omega)]; exact a2 x 0 (by omega) b (by omega) (by omega)
      · show w2 (50 + x) q = SD (ndF h0) n (w2 75) 0 x q
        rw [d3 _ _ (by omega) (by omega) (by omega), SD0]; exact a2 x q a b a' b'
      · have b : j ≤ 0 := b
        have j0 : j = 0 := by omega
        subst j0
        refine ⟨by show w2 76 0 = _; rw [d5, AS_0], ?_⟩
        show PRN h0 sm n 0 (SD (ndF h0) n (w2 75) 0) w2
        rw [SD0]
        rw [SD0] at d6
        exact d6
      · show BST _ _ N bound bound (if (0 : Int) < 0 then N else cur c (w2 75) (h0 1 2) 0) w2
        rw [if_neg (by omega)]
        have : cur c (w2 75) (h0 1 2) 0 = 0 := by
          show (0 * c 0 + w2 75 0 + 1) * _ = 0
          rw [d4]; simp
        rw [this]
        exact ⟨⟨b0, Int.le_refl _⟩, fun cd a b => by omega, fun z => by omega⟩
      · show 0 + Rm c (w2 75) (h0 1 2) (0 + 1 : Int).toNat ≤ 1000000
        rw [Rm_congr (pk' := fun _ => -1) (0 + 1 : Int).toNat (fun i a b => by rw [show i = 0 by omega]; exact d4)]
        omega) (FU_gt (by
      show (Rm c (w2 75) (h0 1 2) (0 + 1 : Int).toNat).toNat < _
      rw [Rm_congr (pk' := fun _ => -1) (0 + 1 : Int).toNat (fun i a b => by rw [show i = 0 by omega]; exact d4)]
      omega))
    obtain ⟨le, p, st, s⟩ := s
    obtain ⟨s1, s2, s3, s4, s5, s6, s7, s8, s9', s10, s11⟩ := hs
    simp only at s1 s2 s3 s4 s5 s6 s7 s8 s9' s10 s11
    unfold s_X1_search_1
    simp only [lb_tg_48_9, lb_tg_48_7, lb_tg_48_10, lb_tg_48_0, lb_tg_48_3]
    have lb := s9'.1
    by_cases cc : 0 ≤ p ∧ 0 < le
    · obtain ⟨p0, lpos⟩ := cc
      rw [if_neg (show ¬ p < 0 by omega)] at s9'
      obtain ⟨q1, q2, q3⟩ := s6 p0
      have rm := Rm_nn (c := c) (pk := s 75) (P := h0 1 2) (p + 1).toNat (by omega) cp (fun i a b => by
        by_cases z : i = p
        · rw [z]; omega
        · have := s5 i a (by omega); omega)
      have cst := Cst_pos (c := c) (P := h0 1 2) (h0 1 2 - 1 - p).toNat (by omega) cp
      have cbp := cb p
      rw [if_pos ⟨⟨by omega, p0⟩, lpos⟩, rdl lb_ln_75 p0 (by omega), Option.bind_some, wrl lb_ln_75 p0 (by omega), Option.bind_some, rdl lb_ln_75 p0 (by omega), Option.bind_some, up_eq rfl rfl, wid (z := s 75 p + 1) (by omega) (by omega), wid (z := st + 1) (by omega) (by omega), wid (z := p + -1) (by omega) (by omega), wid (z := p + 1) (by omega) (by omega)]
      have u1 : ∀ a i : Int, ¬ (a = 75 ∧ i = p) → fx_up s 75 p (s 75 p + 1) a i = s a i := fun a i z => up_ne (by omega)
      have u2 : fx_up s 75 p (s 75 p + 1) 75 p = s 75 p + 1 := up_eq rfl rfl
      generalize fx_up s 75 p (s 75 p + 1) = t at u1 u2
      have ti : ∀ i : Int, 0 ≤ i → i < p → t 75 i = s 75 i := fun i a b => u1 _ _ (by omega)
      have tF : SF h0 t := fun a i x1 x2 x3 x4 x5 => by rw [u1 a i (by omega)]; exact s3 a i x1 x2 x3 x4 x5
      have t9 : P9 t := fun a b x y x' y' => by rw [u1 _ _ (by omega)]; exact s4 a b x y x' y'
      have SDt : ∀ j : Int, j ≤ p → SD (ndF h0) n (t 75) j = SD (ndF h0) n (s 75) j := fun j hj => SD_congr (fun q a b => ti q a (by omega))
      have ASt : ∀ j : Int, j ≤ p → AS sm (kdF h0) (ndF h0) (h0 1 2) (h0 1 4) n (t 75) j = AS sm (kdF h0) (ndF h0) (h0 1 2) (h0 1 4) n (s 75) j := fun j hj => by unfold AS; rw [SDt j hj]
      obtain ⟨rc1, rc2⟩ := hR p p0 s2
      rw [cE] at rc1
      have rc1' : t 73 p = c p := by rw [tF _ _ (by omega) (by omega) (by omega) (by omega) (by omega)]; exact rc1
      have Mnn := Mq_nn (c := c) (P := h0 1 2) (h0 1 2 - 1 - p).toNat (by omega) cp
      rw [rdl lb_ln_73 p0 (by omega), Option.bind_some, rc1']
      by_cases c1 : c p ≤ s 75 p + 1
      · obtain ⟨r, e3, m1, m2⟩ := liftRow_ok (h := t) p0 (show p < 5 by omega)
        rw [if_pos c1, e3, Option.bind_some]
        have pe' : s 75 p + 1 = c p := by omega
        have r75 : ∀ i : Int, r 75 i = t 75 i := fun i => m1 _ _ (by omega)
        have ri : ∀ i : Int, 0 ≤ i → i < p → r 75 i = s 75 i := fun i a b => by rw [r75]; exact ti i a b
        have rmE : Rm c (r 75) (h0 1 2) p.toNat = Rm c (s 75) (h0 1 2) (p + 1).toNat - 1 := by
          rw [Rm_s p0, Rm_congr (pk' := s 75) p.toNat (fun i a b => ri i a (by omega)), show c p - 1 - s 75 p = 0 by omega, Int.zero_mul]; omega
        refine Or.inl ⟨_, rfl, ⟨by show -1 ≤ p + -1; omega, by show p + -1 < h0 1 2; omega, fun a i x1 x2 x3 x4 x5 => by show r a i = _; rw [m1 a i (by omega)]; exact tF a i x1 x2 x3 x4 x5, fun a b x y x' y' => by show r _ _ = 0; rw [m1 _ _ (by omega)]; exact t9 a b x y x' y', fun q a b => ?_, fun z => ?_, fun x q a b a' b' z => ?_, fun j a b => ?_, ?_, by show 0 ≤ st + 1; omega, ?_⟩, ?_⟩
        · have b : q < p + -1 := b
          show 0 ≤ r 75 q ∧ r 75 q < c q
          rw [ri q a (by omega)]; exact s5 q a (by omega)
        · have z : 0 ≤ p + -1 := z
          obtain ⟨y1, y2⟩ := s5 (p + -1) z (by omega)
          refine ⟨by show -1 ≤ r 75 (p + -1); rw [ri _ z (by omega)]; omega, by show r 75 (p + -1) ≤ c (p + -1) - 1; rw [ri _ z (by omega)]; omega, fun x a b => ?_⟩
          show r (50 + x) (p + -1) = 9
          rw [m1 _ _ (by omega), u1 _ _ (by omega), s7 x (p + -1) (by omega) b z (by omega) (by omega)]
          unfold SD
          rw [if_neg (by omega)]
        · have z : ¬ q = p + -1 := z
          show r (50 + x) q = SD (ndF h0) n (r 75) (p + -1) x q
          by_cases e : q = p
          · rw [e, m2 x a b]
            unfold SD
            rw [if_neg (by omega)]
          · rw [m1 _ _ (by omega), u1 _ _ (by omega), s7 x q a b a' b' e]
            unfold SD
            by_cases y : 0 ≤ q ∧ q < p ∧ 0 ≤ x ∧ x < n
            · rw [if_pos y, if_pos (by omega), ri q y.1 y.2.1]
            · rw [if_neg y, if_neg (by omega)]
        · have b : j ≤ p + -1 := b
          obtain ⟨y1, y2⟩ := s8 j a (by omega)
          have sE : SD (ndF h0) n (r 75) j = SD (ndF h0) n (s 75) j := SD_congr (fun q a b => ri q a (by omega))
          refine ⟨?_, ?_⟩
          · show r 76 j = AS sm (kdF h0) (ndF h0) (h0 1 2) (h0 1 4) n (r 75) j
            rw [m1 _ _ (by omega), u1 _ _ (by omega), y1]
            unfold AS
            rw [sE]
          · show PRN h0 sm n j (SD (ndF h0) n (r 75) j) r
            rw [sE]
            exact fun x t' a b a' b' d => by rw [m1 _ _ (by omega), u1 _ _ (by omega)]; exact y2 x t' a b a' b' d
        · show BST _ _ N bound le (if p + -1 < 0 then N else cur c (r 75) (h0 1 2) (p + -1)) r
          have same : (if p + -1 < 0 then N else cur c (r 75) (h0 1 2) (p + -1)) = cur c (s 75) (h0 1 2) p := by
            by_cases e : p = 0
            · rw [if_pos (by omega), e, ← hNN]
              rw [e] at pe'
              exact (cur_end v3 pe').symm
            · rw [if_neg (by omega), cur_pop (show 1 ≤ p by omega) s2 pe', show p + -1 = p - 1 by omega]
              unfold cur
              rw [Kq_congr (pk' := s 75) (p - 1).toNat (fun i a b => ri i a (by omega)), ri (p - 1) (by omega) (by omega)]
          rw [same]
          exact BST_same s9' (Int.le_refl _) (fun cd a _ b => by omega) (fun x q a b => by rw [m1 _ _ (by omega), u1 _ _ (by omega)])
        · show st + 1 + Rm c (r 75) (h0 1 2) (p + -1 + 1).toNat ≤ 1000000
          rw [show p + -1 + 1 = p by omega, rmE]; omega
        · show (Rm c (r 75) (h0 1 2) (p + -1 + 1).toNat).toNat < (Rm c (s 75) (h0 1 2) (p + 1).toNat).toNat
          rw [show p + -1 + 1 = p by omega, rmE]; omega
      · have vp : 0 ≤ s 75 p + 1 ∧ s 75 p + 1 < c p := by omega
        obtain ⟨y1, y2⟩ := s8 p p0 (Int.le_refl p)
        have pkt : ∀ q : Int, 0 ≤ q → q ≤ p → 0 ≤ t 75 q ∧ t 75 q < c q := fun q a b => by
          by_cases e : q = p
          · rw [e, u2]; exact vp
          · rw [ti q a (by omega)]; exact s5 q a (by omega)
        have rowv : ∀ j : Int, 0 ≤ j → j < n → t (68 + p) (5 * (s 75 p + 1) + j) = rwF (ndF h0 p) n (s 75 p + 1) j := fun j a b => by rw [tF _ _ (by omega) (by omega) (by omega) (by omega) (by omega)]; exact rc2 _ j vp.1 (by rw [cE]; exact vp.2) a b
        have rb := fun (j : Int) (a : 0 ≤ j) (b : j < n) => rw_b (T := h0 1 0) (P := h0 1 2) (nds := ndF h0) (hN p p0 s2) n1 n5 vp.1 (by rw [cE]; exact vp.2) a b
        have rv9 := fun (j : Int) (a : 0 ≤ j) (b : j < n) => rwF_v (fun t x y => (hN p p0 s2 t x y).1) n1 n5 vp.1 (show s 75 p + 1 < cnF (ndF h0 p) n by rw [cE]; exact vp.2) a b
        have pr := priceOfRow_g (h := t) (nd := ndF h0 p) (f := fun j => adI sm (kdF h0) (SD (ndF h0) n (s 75) p) (h0 1 2) p j (rwF (ndF h0 p) n (s 75 p + 1) j)) (p := p) (r := s 75 p + 1) (n := n) n1 n5 p0 (by omega) vp.1 (by omega) (fun j a b => ⟨rowv j a b, (rb j a b).2⟩) (fun j a b => by
          have ab := adI_b (sm := sm) (kd := kdF h0) (D := SD (ndF h0) n (s 75) p) (P := h0 1 2) (p := p) (hr := j) (t := rwF (ndF h0 p) n (s 75 p + 1) j) (by omega) v3' kb
          refine ⟨?_, ab.1, by omega⟩
          rcases rv9 j a b with ⟨z1, z2, z3⟩ | z
          · have zT : rwF (ndF h0 p) n (s 75 p + 1) j < h0 1 0 := by have := (rb j a b).1; omega
            rw [u1 _ _ (by omega)]
            exact y2 j _ a b z1 zT z3
          · rw [z, t9 p j p0 (by omega) a (by omega)]
            unfold adI
            rw [if_pos rfl])
        have asE := AS_s (sm := sm) (ri := h0 1 4) (pk := t 75) (m := p) hN n1 n5 kb k5 ⟨v5, v5'⟩ s9 sT v1' p0 s2 (fun q a b => by rw [cE]; exact pkt q a b)
        have prE : sumI n.toNat (fun j => adI sm (kdF h0) (SD (ndF h0) n (s 75) p) (h0 1 2) p j (rwF (ndF h0 p) n (s 75 p + 1) j)) = SPr sm (kdF h0) (ndF h0) (h0 1 2) n (SD (ndF h0) n (t 75) p) p (t 75 p) := by
          unfold SPr
          rw [SDt p (Int.le_refl p), u2]
        rw [prE] at pr
        have ab1 : 0 ≤ AS sm (kdF h0) (ndF h0) (h0 1 2) (h0 1 4) n (t 75) (p + 1) ∧ AS sm (kdF h0) (ndF h0) (h0 1 2) (h0 1 4) n (t 75) (p + 1) ≤ 500 := AI_b (by omega) v3' (by omega) n5
        rw [if_neg c1, rdl lb_ln_76 p0 (by omega), Option.bind_some, Option.bind_some, pr, Option.bind_some, u1 76 p (by omega), y1, ← ASt p (Int.le_refl p), ← asE, wid (z := AS sm (kdF h0) (ndF h0) (h0 1 2) (h0 1 4) n (t 75) (p + 1)) (by omega) (by omega)]
        have rmP := Rm_pick (c := c) (pk := s 75) (pk' := t 75) (P := h0 1 2) p0 (fun i a b => ti i a b) u2
        have Kt : Kq c (t 75) p.toNat = Kq c (s 75) p.toNat := Kq_congr _ (fun i a b => ti i a (by omega))
        have cuS : cur c (s 75) (h0 1 2) p = (Kq c (t 75) p.toNat * c p + t 75 p) * Mq c (h0 1 2) (h0 1 2 - 1 - p).toNat := by
          unfold cur
          rw [Kt, u2, show Kq c (s 75) p.toNat * c p + s 75 p + 1 = Kq c (s 75) p.toNat * c p + (s 75 p + 1) by omega]
        have cuT : cur c (t 75) (h0 1 2) p = (Kq c (t 75) p.toNat * c p + t 75 p + 1) * Mq c (h0 1 2) (h0 1 2 - 1 - p).toNat := rfl
        have cuST : cur c (t 75) (h0 1 2) p = cur c (s 75) (h0 1 2) p + Mq c (h0 1 2) (h0 1 2 - 1 - p).toNat := by
          rw [cuT, cuS, Int.add_mul (Kq c (t 75) p.toNat * c p + t 75 p) 1, Int.one_mul]
        by_cases c2 : le ≤ AS sm (kdF h0) (ndF h0) (h0 1 2) (h0 1 4) n (t 75) (p + 1)
        · rw [if_pos c2]
          refine Or.inl ⟨_, rfl, ⟨s1, s2, tF, t9, fun q a b => pkt q a (by have : q < p := b; omega), fun _ => ⟨by show -1 ≤ t 75 p; rw [u2]; omega, by show t 75 p ≤ c p - 1; rw [u2]; omega, fun x a b => by show t (50 + x) p = 9; rw [u1 _ _ (by omega)]; exact q3 x a b⟩, fun x q a b a' b' z => ?_, fun j a b => ?_, ?_, by show 0 ≤ st + 1; omega, by show st + 1 + Rm c (t 75) (h0 1 2) (p + 1).toNat ≤ 1000000; rw [rmP]; omega⟩, by show (Rm c (t 75) (h0 1 2) (p + 1).toNat).toNat < (Rm c (s 75) (h0 1 2) (p + 1).toNat).toNat; rw [rmP]; omega⟩
          · show t (50 + x) q = SD (ndF h0) n (t 75) p x q
            rw [u1 _ _ (by omega), SDt p (Int.le_refl p)]; exact s7 x q a b a' b' z
          · have b : j ≤ p := b
            obtain ⟨z1, z2⟩ := s8 j a b
            refine ⟨by show t 76 j = AS sm (kdF h0) (ndF h0) (h0 1 2) (h0 1 4) n (t 75) j; rw [u1 _ _ (by omega), ASt j b]; exact z1, ?_⟩
            show PRN h0 sm n j (SD (ndF h0) n (t 75) j) t
            rw [SDt j b]
            exact fun x t' a b a' b' d => by rw [u1 _ _ (by omega)]; exact z2 x t' a b a' b' d
          · show BST _ _ N bound le (if p < 0 then N else cur c (t 75) (h0 1 2) p) t
            rw [if_neg (by omega), cuST]
            refine BST_same s9' (by omega) (fun cd a _ b d => ?_) (fun x q a b => by rw [u1 _ _ (by omega)])
            rcases zz with z | z
            · exact Int.le_trans c2 (pre (t 75) p cd p0 s2 pkt z (by rw [← cuS]; exact a) (by rw [← cuT, cuST]; exact b)).2
            · omega
        · rw [if_neg c2, Option.bind_some]
          obtain ⟨r, e3, m1, m2⟩ := layRow_ok (h := t) (nds := ndF h0) (p := p) (n := n) (r := s 75 p + 1) n1 n5 p0 (by omega) vp.1 (by rw [cE]; exact vp.2) rowv
          rw [e3, Option.bind_some]
          have r75 : ∀ i : Int, r 75 i = t 75 i := fun i => m1 _ _ (by omega)
          have rF : SF h0 r := fun a i x1 x2 x3 x4 x5 => by rw [m1 a i (by omega)]; exact tF a i x1 x2 x3 x4 x5
          have r9 : P9 r := fun a b x y x' y' => by rw [m1 _ _ (by omega)]; exact t9 a b x y x' y'
          have rD : CD (SD (ndF h0) n (t 75) (p + 1)) r := fun x q a b a' b' => by
            rw [SD_s p0]
            simp only
            by_cases e : q = p
            · by_cases y : x < n
              · rw [if_pos ⟨e, a, y⟩, e, m2 x a y, u2]
              · rw [if_neg (by omega), e, m1 _ _ (by omega), u1 _ _ (by omega), q3 x (by omega) b]
                unfold SD
                rw [if_neg (by omega)]
            · rw [if_neg (fun y => e y.1), m1 _ _ (by omega), u1 _ _ (by omega), SDt p (Int.le_refl p)]
              exact s7 x q a b a' b' e
          rw [rF 1 2 (by omega) (by omega) (by omega) (by omega) (by omega), wid (z := h0 1 2 - 1) (by omega) (by omega)]
          by_cases c3 : p < h0 1 2 - 1
          · obtain ⟨y, e4, f1, f2, f3, f4, f5, f6⟩ := start_ok (s := r) (pk := t 75) (p := p + 1) (f := AS sm (kdF h0) (ndF h0) (h0 1 2) (h0 1 4) n (t 75) (p + 1)) v hC n1 n5 rF r9 (by omega) (by omega) (fun q a b => by rw [cE]; exact pkt q a (by omega)) rD
            rw [if_pos c3, e4, Option.bind_some]
            have yi : ∀ i : Int, 0 ≤ i → i < p + 1 → y 75 i = t 75 i := fun i a b => by rw [f3 _ _ (by omega) (by omega) (by omega)]; exact r75 i
            have SDy : ∀ j : Int, j ≤ p + 1 → SD (ndF h0) n (y 75) j = SD (ndF h0) n (t 75) j := fun j hj => SD_congr (fun q a b => yi q a (by omega))
            have rmQ := Rm_push (c := c) (pk := y 75) (P := h0 1 2) p0 (by omega) f4
            rw [Rm_congr (pk' := t 75) (p + 1).toNat (fun i a b => yi i a (by omega)), rmP] at rmQ
            refine Or.inl ⟨_, rfl, ⟨by show -1 ≤ p + 1; omega, by show p + 1 < h0 1 2; omega, f1, f2, fun q a b => ?_, fun _ => ⟨by show -1 ≤ y 75 (p + 1); omega, by show y 75 (p + 1) ≤ c (p + 1) - 1; have := cb (p + 1); omega, fun x a b => ?_⟩, fun x q a b a' b' z => ?_, fun j a b => ?_, ?_, by show 0 ≤ st + 1; omega, ?_⟩, ?_⟩
            · have b : q < p + 1 := b
              show 0 ≤ y 75 q ∧ y 75 q < c q
              rw [yi q a b]; exact pkt q a (by omega)
            · show y (50 + x) (p + 1) = 9
              rw [f3 _ _ (by omega) (by omega) (by omega), rD x (p + 1) (by omega) b (by omega) (by omega)]
              unfold SD
              rw [if_neg (by omega)]
            · show y (50 + x) q = SD (ndF h0) n (y 75) (p + 1) x q
              rw [f3 _ _ (by omega) (by omega) (by omega), SDy (p + 1) (Int.le_refl _)]; exact rD x q a b a' b'
            · have b : j ≤ p + 1 := b
              refine ⟨?_, ?_⟩
              · show y 76 j = AS sm (kdF h0) (ndF h0) (h0 1 2) (h0 1 4) n (y 75) j
                unfold AS
                rw [SDy j b]
                by_cases e : j = p + 1
                · rw [e, f5]; rfl
                · obtain ⟨z1, z2⟩ := s8 j a (by omega)
                  rw [f3 _ _ (by omega) (by omega) (by omega), m1 _ _ (by omega), u1 _ _ (by omega), z1, SDt j (by omega)]; rfl
              · show PRN h0 sm n j (SD (ndF h0) n (y 75) j) y
                rw [SDy j b]
                by_cases e : j = p + 1
                · rw [e]; exact f6
                · obtain ⟨z1, z2⟩ := s8 j a (by omega)
                  rw [SDt j (by omega)]
                  exact fun x t' a b a' b' d => by rw [f3 _ _ (by omega) (by omega) (by omega), m1 _ _ (by omega), u1 _ _ (by omega)]; exact z2 x t' a b a' b' d
            · show BST _ _ N bound le (if p + 1 < 0 then N else cur c (y 75) (h0 1 2) (p + 1)) y
              rw [if_neg (by omega), cur_push p0 (by omega) f4]
              rw [Kq_congr (pk' := t 75) p.toNat (fun i a b => yi i a (by omega)), yi p p0 (by omega), ← cuS]
              exact BST_same s9' (Int.le_refl _) (fun cd a _ b => by omega) (fun x q a b => by rw [f3 _ _ (by omega) (by omega) (by omega), m1 _ _ (by omega), u1 _ _ (by omega)])
            · show st + 1 + Rm c (y 75) (h0 1 2) (p + 1 + 1).toNat ≤ 1000000
              rw [rmQ]; omega
            · show (Rm c (y 75) (h0 1 2) (p + 1 + 1).toNat).toNat < (Rm c (s 75) (h0 1 2) (p + 1).toNat).toNat
              rw [rmQ]; omega
          · have pE : p = h0 1 2 - 1 := by omega
            obtain ⟨y, e4, f1, f2⟩ := copyDay_ok (h := r) cd_day cd_bd (by omega)
            rw [if_neg c3, e4, Option.bind_some]
            have M1 : Mq c (h0 1 2) (h0 1 2 - 1 - p).toNat = 1 := by rw [show (h0 1 2 - 1 - p).toNat = 0 by omega]; rfl
            rw [M1, Int.mul_one] at cuS
            rw [M1] at cuST
            have z : ∀ q : Int, 0 ≤ q → q < h0 1 2 → 0 < c q := fun q a b => by have := pkt q a (by omega); omega
            have hc0 := pre (t 75) p (cur c (s 75) (h0 1 2) p) p0 s2 pkt z (by rw [M1, Int.mul_one, ← cuS]; exact Int.le_refl _) (by rw [M1, Int.mul_one, ← cuS]; omega)
            have SDc : SD (ndF h0) n (dq c (h0 1 2) (cur c (s 75) (h0 1 2) p)) (h0 1 2) = SD (ndF h0) n (t 75) (p + 1) := by
              rw [show h0 1 2 = p + 1 by omega]
              refine SD_congr (fun q a b => ?_)
              have := hc0.1 q a b
              rw [show h0 1 2 = p + 1 by omega] at this
              exact this
            have Fcu : Fc h0 sm n (cur c (s 75) (h0 1 2) p) = AS sm (kdF h0) (ndF h0) (h0 1 2) (h0 1 4) n (t 75) (p + 1) := by
              rw [FcE]
              unfold AS
              rw [SDc]
            have Knn : ∀ m : Nat, (m : Int) ≤ p → 0 ≤ Kq c (t 75) m := by
              intro m
              induction m with
              | zero => intro _; exact Int.le_refl 0
              | succ m ih =>
                intro hm
                have a := ih (by omega)
                have b := (pkt m (by omega) (by omega)).1
                have := Int.mul_nonneg a (cp m (by omega) (by omega))
                show 0 ≤ Kq c (t 75) m * c m + t 75 m
                omega
            have cu0 : 0 ≤ cur c (s 75) (h0 1 2) p := by
              rw [cuS]
              have := Int.mul_nonneg (Knn p.toNat (by omega)) (cp p p0 s2)
              have := (pkt p p0 (Int.le_refl p)).1
              omega
            have cuN : cur c (s 75) (h0 1 2) p < N := by
              have k0 := rq_K (c := c) (pk := t 75) (P := h0 1 2) (code := cur c (s 75) (h0 1 2) p) (p + 1).toNat (by omega) (by
                rw [show (h0 1 2 - (((p + 1).toNat : Nat) : Int)).toNat = 0 by omega, show (p + 1).toNat = p.toNat + 1 by omega]
                show cur c (s 75) (h0 1 2) p = Kq c (t 75) p.toNat * c ((p.toNat : Nat) : Int) + t 75 ((p.toNat : Nat) : Int)
                rw [show ((p.toNat : Nat) : Int) = p by omega]
                exact cuS) (fun i a b => pkt i a (by omega))
              have := (rq_spec (c := c) (P := h0 1 2) (code := cur c (s 75) (h0 1 2) p) (h0 1 2).toNat (by omega) z).2
              rw [k0, hNN] at this
              omega
            have y75 : ∀ i : Int, y 75 i = t 75 i := fun i => by rw [f1 _ _ (by omega)]; exact r75 i
            have SDy : ∀ j : Int, SD (ndF h0) n (y 75) j = SD (ndF h0) n (t 75) j := fun j => SD_congr (fun q _ _ => y75 q)
            have rmY : Rm c (y 75) (h0 1 2) (p + 1).toNat = Rm c (s 75) (h0 1 2) (p + 1).toNat - Cst c (h0 1 2) (h0 1 2 - 1 - p).toNat := by rw [Rm_congr (pk' := t 75) (p + 1).toNat (fun i _ _ => y75 i)]; exact rmP
            refine Or.inl ⟨_, rfl, ⟨s1, s2, fun a i x1 x2 x3 x4 x5 => by show y a i = _; rw [f1 a i (by omega)]; exact rF a i x1 x2 x3 x4 x5, fun a b x y' x' y'' => by show y _ _ = 0; rw [f1 _ _ (by omega)]; exact r9 a b x y' x' y'', fun q a b => by show 0 ≤ y 75 q ∧ y 75 q < c q; rw [y75]; exact pkt q a (by have : q < p := b; omega), fun _ => ⟨by show -1 ≤ y 75 p; rw [y75, u2]; omega, by show y 75 p ≤ c p - 1; rw [y75, u2]; omega, fun x a b => ?_⟩, fun x q a b a' b' z => ?_, fun j a b => ?_, ?_, by show 0 ≤ st + 1; omega, by show st + 1 + Rm c (y 75) (h0 1 2) (p + 1).toNat ≤ 1000000; rw [rmY]; omega⟩, by show (Rm c (y 75) (h0 1 2) (p + 1).toNat).toNat < (Rm c (s 75) (h0 1 2) (p + 1).toNat).toNat; rw [rmY]; omega⟩
            · show y (50 + x) p = 9
              rw [f1 _ _ (by omega), m1 _ _ (by omega), u1 _ _ (by omega)]; exact q3 x a b
            · show y (50 + x) q = SD (ndF h0) n (y 75) p x q
              rw [f1 _ _ (by omega), m1 _ _ (by have : ¬ q = p := z; omega), u1 _ _ (by omega), SDy, SDt p (Int.le_refl p)]
              exact s7 x q a b a' b' z
            · have b : j ≤ p := b
              obtain ⟨z1, z2⟩ := s8 j a b
              refine ⟨?_, ?_⟩
              · show y 76 j = AS sm (kdF h0) (ndF h0) (h0 1 2) (h0 1 4) n (y 75) j
                unfold AS
                rw [SDy, SDt j b, f1 _ _ (by omega), m1 _ _ (by omega), u1 _ _ (by omega), z1]; rfl
              · show PRN h0 sm n j (SD (ndF h0) n (y 75) j) y
                rw [SDy, SDt j b]
                exact fun x t' a b a' b' d => by rw [f1 _ _ (by omega), m1 _ _ (by omega), u1 _ _ (by omega)]; exact z2 x t' a b a' b' d
            · show BST _ _ N bound (AS sm (kdF h0) (ndF h0) (h0 1 2) (h0 1 4) n (t 75) (p + 1)) (if p < 0 then N else cur c (y 75) (h0 1 2) p) y
              have cY : cur c (y 75) (h0 1 2) p = cur c (s 75) (h0 1 2) p + 1 := by
                rw [← cuST]
                unfold cur
                rw [Kq_congr (pk' := t 75) p.toNat (fun i _ _ => y75 i), y75]
              rw [if_neg (by omega), cY]
              obtain ⟨l1, l2, l3⟩ := s9'
              refine ⟨⟨ab1.1, by omega⟩, fun cd a b d => ?_, fun _ => ⟨cur c (s 75) (h0 1 2) p, cu0, by omega, cuN, Fcu, fun c' a b => ?_, fun x q a b a' b' => ?_⟩⟩
              · by_cases e : cd = cur c (s 75) (h0 1 2) p
                · rw [e, Fcu]; exact Int.le_refl _
                · have := l2 cd a (by omega) d; omega
              · have := l2 c' a b (by omega); omega
              · rw [f2 x q a b a' b', rD x q a b a' b', WcE, SDc]
    · rw [if_neg (fun z => cc ⟨z.1.2, z.2⟩)]
      refine Or.inr ⟨_, rfl, ?_, s3, s4⟩
      show BST _ _ N bound le N s
      obtain ⟨l1, l2, l3⟩ := s9'
      by_cases z : p < 0
      · rw [if_pos z] at l2 l3
        exact ⟨l1, l2, l3⟩
      · rw [if_neg z] at l2 l3
        have le0 : le = 0 := by omega
        refine ⟨l1, fun cd a b d => by rw [le0]; exact Fnn cd, fun y => ?_⟩
        obtain ⟨c1, x1, x2, x3, x4, x5, x6⟩ := l3 y
        exact ⟨c1, x1, x3, x3, x4, x5, x6⟩
  obtain ⟨⟨le, p, st, s⟩, e3, k⟩ := key
  rw [e3, Option.bind_some]
  exact Ret.ok k
end SEARCH
