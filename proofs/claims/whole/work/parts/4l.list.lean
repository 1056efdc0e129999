-- needs: 4k
def LD (sm kd : Int → Int) (nds : Int → Int → Int) (P ri n : Int) (o : Int → Int) : Nat → Int → Int → Int
  | 0 => fun _ _ => 9
  | k + 1 => TK sm kd nds P ri n (LD sm kd nds P ri n o k) (o k)
def Vo (sm kd : Int → Int) (nds : Int → Int → Int) (P ri n : Int) (o : Int → Int) : Int := AI sm kd (LD sm kd nds P ri n o P.toNat) (AH (LD sm kd nds P ri n o P.toNat)) P ri n
theorem LD_s {sm kd : Int → Int} {nds : Int → Int → Int} {P ri n : Int} {o : Int → Int} {k : Int} (h : 0 ≤ k) : LD sm kd nds P ri n o (k + 1).toNat = TK sm kd nds P ri n (LD sm kd nds P ri n o k.toNat) (o k) := by
  rw [show (k + 1).toNat = k.toNat + 1 by omega]
  show TK sm kd nds P ri n (LD sm kd nds P ri n o k.toNat) (o ((k.toNat : Nat) : Int)) = _
  rw [show ((k.toNat : Nat) : Int) = k by omega]
theorem LD_congr {sm kd : Int → Int} {nds : Int → Int → Int} {P ri n : Int} {o o' : Int → Int} : ∀ m : Nat, (∀ k : Int, 0 ≤ k → k < m → o k = o' k) → LD sm kd nds P ri n o m = LD sm kd nds P ri n o' m
  | 0, _ => rfl
  | m + 1, h => by
    show TK sm kd nds P ri n (LD sm kd nds P ri n o m) (o m) = TK sm kd nds P ri n (LD sm kd nds P ri n o' m) (o' m)
    rw [LD_congr m (fun k a b => h k a (by omega)), h m (by omega) (by omega)]
theorem Vo_congr {sm kd : Int → Int} {nds : Int → Int → Int} {P ri n : Int} {o o' : Int → Int} (P0 : 0 ≤ P) (h : ∀ k : Int, 0 ≤ k → k < P → o k = o' k) : Vo sm kd nds P ri n o = Vo sm kd nds P ri n o' := by
  unfold Vo
  rw [LD_congr P.toNat (fun k a b => h k a (by omega))]
theorem LD_w {sm kd : Int → Int} {nds : Int → Int → Int} {P ri n T : Int} {o : Int → Int} (hN : NW T P n nds) (n1 : 1 ≤ n) (n5 : n ≤ 5) : ∀ m : Nat, (∀ k : Int, 0 ≤ k → k < m → 0 ≤ o k ∧ o k < P) → DW T (LD sm kd nds P ri n o m)
  | 0, _ => fun _ _ _ _ _ _ => ⟨(by decide : (0 : Int) ≤ 9), Int.le_refl 9, Or.inl rfl⟩
  | m + 1, h => TK_w hN n1 n5 (h m (by omega) (by omega)).1 (h m (by omega) (by omega)).2 (LD_w hN n1 n5 m (fun k a b => h k a (by omega)))
theorem order_cl {h0 h : fx_H} {sm : Int → Int} {o : Int → Int} {T P ri n : Int} (v : TV 1 h0) (hT : h0 1 0 = T) (hPp : h0 1 2 = P) (hn : h0 1 3 = n) (hri : h0 1 4 = ri) (hC : CT sm T P ri h0) (hR : RWC h0 h0 n) (hF : CF h0 h) (h9 : P9 h) (ho : ∀ i : Int, 0 ≤ i → i < P → h 77 i = o i ∧ 0 ≤ o i ∧ o i < P) : Ret (f_X1_finesInOrder FU La_167 48 1 43 h) (fun e => e.1 = Vo sm (kdF h0) (ndF h0) P ri n o ∧ CF h0 e.2 ∧ P9 e.2 ∧ ∀ i : Int, e.2 77 i = h 77 i) := by
  have vv := v
  unfold TV at vv
  obtain ⟨⟨v1, v1'⟩, ⟨v2, v2'⟩, ⟨v3, v3'⟩, ⟨v4, v4'⟩, ⟨v5, v5'⟩, -⟩ := vv
  have hN : NW T P n (ndF h0) := fun q a b => by
    obtain ⟨d1, d2, -⟩ := nd_ok v a (show q < 5 by omega)
    exact ⟨fun t x y => by have := d1 t x y; rw [hT] at this; exact this, by omega⟩
  unfold f_X1_finesInOrder
  obtain ⟨h1, e1, a1, a2⟩ := clearDay_ok (h := h)
  rw [e1, Option.bind_some]
  refine Ret.bind (Ret.mono (loop_for (fun k s => CF h0 s ∧ P9 s ∧ CD (LD sm (kdF h0) (ndF h0) P ri n o k.toNat) s ∧ ∀ i : Int, s 77 i = h 77 i) P (FU_gt (by omega)) (by omega) (by exact ⟨fun a i x y => by rw [a1 a i x]; exact hF a i x y, fun a b x y x' y' => by rw [a1 _ _ (by omega)]; exact h9 a b x y x' y', a2, fun i => a1 _ _ (by omega)⟩) (fun k s b1 b2 ⟨i1, i2, i3, i4⟩ => ?_) (fun s ⟨i1, i2, i3, i4⟩ => ?_)) (fun w hw => ?_))
  · unfold s_X1_finesInOrder_1
    simp only [lb_tg_48_11]
    obtain ⟨o1, o2, o3⟩ := ho k b1 b2
    have wE := LD_w (sm := sm) (kd := kdF h0) (ri := ri) (o := o) hN (by omega) (by omega) k.toNat (fun x a b => (ho x a (by omega)).2)
    obtain ⟨h2, e2, c1, c2, c3, c4, c5, c6, h3, e3, d1, d2, d3, d4, d5⟩ := take_cl v hT hPp hn hri hC hR i1 i2 i3 wE o2 o3
    rw [i1 1 2 (by omega) (by omega), hPp, if_pos b2, rdl lb_ln_77 b1 (by omega), Option.bind_some, i4, o1, e2, Option.bind_some, rdl lb_ln_77 b1 (by omega), Option.bind_some, Option.bind_some, d5 k, i4, o1, c1 1 3 (by omega) (by omega), hn, c4, Option.bind_some, e3, Option.bind_some, wid (by omega) (by omega)]
    refine ⟨_, rfl, d1, d2, ?_, fun i => by rw [d4, i4]⟩
    rw [LD_s b1]; exact d3
  · unfold s_X1_finesInOrder_1
    simp only
    rw [i1 1 2 (by omega) (by omega), hPp, if_neg (by omega)]
  · obtain ⟨x, s⟩ := w
    obtain ⟨-, i1, i2, i3, i4⟩ := hw
    simp only at i1 i2 i3 i4 ⊢
    have wE := LD_w (sm := sm) (kd := kdF h0) (ri := ri) (o := o) hN (by omega) (by omega) P.toNat (fun x a b => (ho x a (by omega)).2)
    have Vs : TV 1 s := TV_congr (fun a i _ _ => i1 a i (by omega) (by omega)) v
    have kE : kdF s = kdF h0 := by funext x; unfold kdF; rw [i1 _ _ (by omega) (by omega)]
    rw [lb_tg_48_0, i1 1 3 (by omega) (by omega), hn, ev_finesOf Vs dc_49 (CT_congr (fun a i z => i1 a i (by omega) (by omega)) hC) (fun hr x a b a' b' => by rw [show (49 : Int) + 1 + hr = 50 + hr by omega, i3 hr x a b a' b']; exact wE hr x a b a' b') (by omega) (by omega) (by omega) (by omega) (by omega) ⟨by omega, by omega⟩, Option.bind_some, kE]
    exact Ret.ok ⟨AI_congr (fun hr x a b a' b' => by unfold dF; rw [show (49 : Int) + 1 + hr = 50 + hr by omega]; exact i3 hr x a (by omega) a' (by omega)) ⟨by omega, by omega⟩, i1, i2, i4⟩
theorem nx_rng {r : Int → Int} {n : Int} {Q : Int → Prop} (n1 : 1 ≤ n) (h : ∀ j : Int, 0 ≤ j → j < n → Q (r j)) : ∀ j : Int, 0 ≤ j → j < n → Q (nx r n j) := fun j a b => by
  obtain ⟨t1, t2, t3, t4⟩ := tn_ok r n1
  unfold nx
  by_cases q1 : tn r n < 0 ∨ j < tn r n ∨ n ≤ j
  · rw [if_pos q1]; exact h j a b
  · obtain ⟨g1, g2, g3, g4⟩ := gt_ok r (t3 (by omega)) t2
    rw [if_neg q1]
    by_cases q2 : j = tn r n
    · rw [if_pos q2]; exact h _ (by omega) (by omega)
    · rw [if_neg q2]
      split
      · exact h _ (by omega) (by omega)
      · exact h _ (by omega) (by omega)
theorem Rq_rng {r : Int → Int} {n : Int} {Q : Int → Prop} (n1 : 1 ≤ n) (h : ∀ j : Int, 0 ≤ j → j < n → Q (r j)) : ∀ (i : Nat) (j : Int), 0 ≤ j → j < n → Q (Rq n r i j)
  | 0 => h
  | i + 1 => nx_rng n1 (Rq_rng n1 h i)
theorem rsq_b {P code : Int} (P1 : 1 ≤ P) (c0 : 0 ≤ code) : ∀ m : Nat, 0 ≤ rsq P code m ∧ rsq P code m ≤ code
  | 0 => ⟨c0, Int.le_refl _⟩
  | m + 1 => by
    obtain ⟨a, b⟩ := rsq_b P1 c0 m
    show 0 ≤ rsq P code m / P ∧ rsq P code m / P ≤ code
    exact ⟨Int.ediv_nonneg a (by omega), Int.le_trans (Int.ediv_le_self P a) b⟩
theorem od_b {P code k : Int} (P1 : 1 ≤ P) : 0 ≤ od P code k ∧ od P code k < P := ⟨Int.emod_nonneg _ (by omega), Int.emod_lt_of_pos _ (by omega)⟩
theorem rm_ok {x y : Int} (x0 : 0 ≤ x) (x1 : x ≤ 1000000) (y1 : 1 ≤ y) : fx_rm x y = some (x % y) := by
  unfold fx_rm
  have := Int.emod_nonneg x (show y ≠ 0 by omega)
  have := Int.emod_lt_of_pos x (show 0 < y by omega)
  have h3 : x % y ≤ x := by
    have := Int.emod_add_mul_ediv x y
    have := Int.mul_nonneg (show 0 ≤ y by omega) (Int.ediv_nonneg x0 (show 0 ≤ y by omega))
    omega
  rw [if_neg (by omega), Int.tmod_eq_emod_of_nonneg x0, wid (by omega) (by omega)]
theorem dv_ok {x y : Int} (x0 : 0 ≤ x) (x1 : x ≤ 1000000) (y1 : 1 ≤ y) : fx_dv x y = some (x / y) := by
  unfold fx_dv
  have := Int.ediv_nonneg x0 (show 0 ≤ y by omega)
  have := Int.ediv_le_self y x0
  rw [if_neg (by omega), Int.tdiv_eq_ediv_of_nonneg x0, wid (by omega) (by omega)]
theorem layOrder_ok {g : fx_H} {P code : Int} (hP : g 127 10 = P) (P1 : 1 ≤ P) (P5 : P ≤ 5) (c0 : 0 ≤ code) (c1 : code ≤ 100000) : Ret (f_X6_layOrder FU La_167 126 code g) (fun e => (∀ a i : Int, a ≠ 139 → e.2 a i = g a i) ∧ (∀ k : Int, 0 ≤ k → k < P → e.2 139 k = od P code k) ∧ (e.1 = 0 ∨ e.1 = 1) ∧ (e.1 = 1 ↔ unl P code)) := by
  unfold f_X6_layOrder
  rw [ev_people, Option.bind_some, hP, wid (by omega) (by omega)]
  have key : Ret (fx_loop (s_X6_layOrder_1 FU La_167 126) FU (code, 1, P - 1, g)) (fun e => (∀ a i : Int, a ≠ 139 → e.2.2.2 a i = g a i) ∧ (∀ k : Int, 0 ≤ k → k < P → e.2.2.2 139 k = od P code k) ∧ (e.2.1 = 0 ∨ e.2.1 = 1) ∧ (e.2.1 = 1 ↔ unl P code)) := by
    refine loop_ret (fun s => -1 ≤ s.2.2.1 ∧ s.2.2.1 ≤ P - 1 ∧ s.1 = rsq P code (P - 1 - s.2.2.1).toNat ∧ (∀ a i : Int, a ≠ 139 → s.2.2.2 a i = g a i) ∧ (∀ j : Int, s.2.2.1 < j → j < P → s.2.2.2 139 j = od P code j) ∧ (s.2.1 = 0 ∨ s.2.1 = 1) ∧ (s.2.1 = 1 ↔ ∀ i j : Int, s.2.2.1 < i → i < j → j < P → ¬ od P code i = od P code j)) (fun s => (s.2.2.1 + 1).toNat) (fun s hs => ?_) FU _ ⟨by show -1 ≤ P - 1; omega, by show P - 1 ≤ P - 1; omega, by show code = rsq P code (P - 1 - (P - 1)).toNat; rw [show (P - 1 - (P - 1)).toNat = 0 by omega]; rfl, fun _ _ _ => rfl, fun j a b => by have : P - 1 < j := a; omega, Or.inr rfl, ⟨fun _ i j a b c => by have : P - 1 < i := a; omega, fun _ => rfl⟩⟩ (FU_gt (by show (P - 1 + 1).toNat < _; omega))
    obtain ⟨rest, u, k, s⟩ := s
    obtain ⟨s1, s2, s3, s4, s5, s6, s7⟩ := hs
    simp only at s1 s2 s3 s4 s5 s6 s7
    unfold s_X6_layOrder_1
    simp only [lb_tg_126_14]
    by_cases c : 0 ≤ k
    · have rb := rsq_b P1 c0 (P - 1 - k).toNat
      rw [← s3] at rb
      have oE : od P code k = rest % P := by unfold od; rw [← s3]
      rw [if_pos c, ev_people, Option.bind_some, s4 127 10 (by omega), hP, rm_ok rb.1 (by omega) P1, Option.bind_some, wrl lb_ln_139 c (by omega), Option.bind_some, ev_people, Option.bind_some, up_ne (by omega), s4 127 10 (by omega), hP, dv_ok rb.1 (by omega) P1, Option.bind_some, wid (z := k + 1) (by omega) (by omega), wid (z := k + -1) (by omega) (by omega), ← oE]
      have w1 : ∀ a i : Int, a ≠ 139 → fx_up s 139 k (od P code k) a i = g a i := fun a i z => by rw [up_ne (Or.inl z)]; exact s4 a i z
      have w2 : ∀ j : Int, k - 1 < j → j < P → fx_up s 139 k (od P code k) 139 j = od P code j := fun j a b => by
        by_cases e : j = k
        · rw [up_eq rfl e, e]
        · rw [up_ne (Or.inr e)]; exact s5 j (by omega) b
      generalize fx_up s 139 k (od P code k) = w at w1 w2
      have inn : Ret (fx_loop (s_X6_layOrder_2 FU La_167 126 k w) FU (u, k + 1)) (fun e => (e.1 = 0 ∨ e.1 = 1) ∧ (e.1 = 1 ↔ (∀ i j : Int, k < i → i < j → j < P → ¬ od P code i = od P code j) ∧ ∀ j : Int, k < j → j < P → ¬ od P code j = od P code k)) := by
        refine loop_ix (fun s => s.2) (fun j s => (s.1 = 0 ∨ s.1 = 1) ∧ (s.1 = 1 ↔ (∀ i j : Int, k < i → i < j → j < P → ¬ od P code i = od P code j) ∧ ∀ x : Int, k < x → x < j → ¬ od P code x = od P code k)) P (i := k + 1) (FU_gt (by omega)) rfl (by omega) ⟨s6, s7.trans ⟨fun z => ⟨z, fun x a b => by omega⟩, fun z => z.1⟩⟩ (fun j s ej b1 b2 ⟨i1, i2⟩ => ?_) (fun s es i => ?_)
        · obtain ⟨u', j'⟩ := s
          simp only at ej i1 i2
          subst ej
          unfold s_X6_layOrder_2
          simp only [lb_tg_126_14]
          rw [ev_people, Option.bind_some, w1 127 10 (by omega), hP, if_pos b2, rdl lb_ln_139 (by omega) (by omega), Option.bind_some, rdl lb_ln_139 c (by omega), Option.bind_some, w2 j' (by omega) b2, w2 k (by omega) (by omega), wid (by omega) (by omega)]
          by_cases y : u' = 0
          · rw [if_neg (not_not_intro y), Option.bind_some, if_neg (by decide), Option.bind_some]
            refine ⟨_, rfl, rfl, Or.inl rfl, ⟨fun q => absurd (show (0 : Int) = 1 from q) (by decide), fun q => ?_⟩⟩
            have := i2.mpr ⟨q.1, fun x a b => q.2 x a (by omega)⟩
            omega
          · rw [if_pos y]
            have q1 := i2.mp (by omega)
            by_cases z : od P code j' = od P code k
            · rw [if_neg (not_not_intro z), Option.bind_some, if_neg (by decide), Option.bind_some]
              exact ⟨_, rfl, rfl, Or.inl rfl, ⟨fun q => absurd (show (0 : Int) = 1 from q) (by decide), fun q => absurd z (q.2 j' (by omega) (by omega))⟩⟩
            · rw [if_pos z, Option.bind_some, if_pos rfl, Option.bind_some]
              refine ⟨_, rfl, rfl, Or.inr rfl, ⟨fun _ => ⟨q1.1, fun x a b => ?_⟩, fun _ => rfl⟩⟩
              by_cases e : x = j'
              · rw [e]; exact z
              · exact q1.2 x a (by omega)
        · obtain ⟨u', j'⟩ := s
          simp only at es
          subst es
          unfold s_X6_layOrder_2
          simp only
          rw [ev_people, Option.bind_some, w1 127 10 (by omega), hP, if_neg (by omega)]
          exact ⟨_, rfl, i⟩
      obtain ⟨⟨u', j'⟩, e1, k1, k2⟩ := inn
      simp only at k1 k2
      rw [e1, Option.bind_some]
      refine Or.inl ⟨_, rfl, ⟨by show -1 ≤ k + -1; omega, by show k + -1 ≤ P - 1; omega, ?_, w1, fun j a b => w2 j (by have : k + -1 < j := a; omega) b, k1, k2.trans ⟨fun q i j a b d => ?_, fun q => ⟨fun i j a b d => q i j (by show k + -1 < i; omega) b d, fun j a b z => q k j (by show k + -1 < k; omega) a b z.symm⟩⟩⟩, by show (k + -1 + 1).toNat < (k + 1).toNat; omega⟩
      · show rest / P = rsq P code (P - 1 - (k + -1)).toNat
        rw [show (P - 1 - (k + -1)).toNat = (P - 1 - k).toNat + 1 by omega, s3]; rfl
      · have a : k + -1 < i := a
        by_cases e : i = k
        · rw [e]; exact fun z => q.2 j (by omega) d z.symm
        · exact q.1 i j (by omega) b d
    · rw [if_neg c]
      have kE : k = -1 := by omega
      subst kE
      exact Or.inr ⟨_, rfl, s4, fun j a b => s5 j (by omega) b, s6, s7.trans ⟨fun q i j a b d => q i j (by omega) b d, fun q i j a b d => q i j (by omega) b d⟩⟩
  obtain ⟨⟨rest, u, k, s⟩, e1, k1, k2, k3, k4⟩ := key
  simp only at k1 k2 k3 k4
  rw [e1, Option.bind_some]
  simp only
  rw [zb_ok k3, Option.bind_some]
  exact Ret.ok ⟨k1, k2, k3, k4⟩
theorem listed_ok {h g0 g : fx_H} {sm o : Int → Int} (v : TV 1 h) (r2 : TR2 h g0) (s9 : sm 9 = -1) (hs : SOK sm (h 1 0) g0) (hR : RWR h g0 (h 1 3)) (hF : RF g0 g) (ho : ∀ i : Int, 0 ≤ i → i < h 1 2 → g 139 i = o i ∧ 0 ≤ o i ∧ o i < h 1 2) : Ret (f_X6_listed FU La_167 126 g) (fun e => e.1 = Vo sm (kdF h) (ndF h) (h 1 2) (h 1 4) (h 1 3) o ∧ RF g0 e.2) := by
  have vv := v
  unfold TV at vv
  obtain ⟨⟨v1, v1'⟩, ⟨v2, v2'⟩, ⟨v3, v3'⟩, ⟨v4, v4'⟩, ⟨v5, v5'⟩, -⟩ := vv
  have hN : NW (h 1 0) (h 1 2) (h 1 3) (ndF h) := fun q a b => by
    obtain ⟨d1, d2, -⟩ := nd_ok v a (show q < 5 by omega)
    exact ⟨d1, d2⟩
  unfold f_X6_listed
  obtain ⟨g1, e1, a1, a2⟩ := takeNothing_ok (g := g)
  rw [e1, Option.bind_some]
  refine Ret.bind (Ret.mono (loop_for (fun k s => RF g0 s ∧ (∀ i : Int, s 139 i = g 139 i) ∧ HD (LD sm (kdF h) (ndF h) (h 1 2) (h 1 4) (h 1 3) o k.toNat) s) (h 1 2) (FU_gt (by omega)) (by omega) (by exact ⟨fun a i x y z => by rw [a1 a i x]; exact hF a i x y z, fun i => a1 _ _ (by omega), fun hr q a b a' b' => a2 _ (by omega) (by omega)⟩) (fun k s b1 b2 ⟨i1, i2, i3⟩ => ?_) (fun s ⟨i1, i2, i3⟩ => ?_)) (fun w hw => ?_))
  · unfold s_X6_listed_1
    simp only [lb_tg_126_14]
    obtain ⟨o1, o2, o3⟩ := ho k b1 b2
    have wE := LD_w (sm := sm) (kd := kdF h) (ri := h 1 4) (o := o) hN v4 v4' k.toNat (fun x a b => (ho x a (by omega)).2)
    obtain ⟨⟨l, w⟩, e2, c1, c2, c3, c4, c5⟩ := takeBest_ok v r2 s9 hs hR i1 i3 wE o2 o3
    simp only at c1 c2 c3 c4 c5
    rw [ev_people, Option.bind_some, i1 127 10 (by omega) (by omega) (by omega), r2.2.2.1, if_pos b2, rdl lb_ln_139 b1 (by omega), Option.bind_some, i2, o1, e2, Option.bind_some]
    simp only
    rw [wid (by omega) (by omega)]
    refine ⟨_, rfl, c2, fun i => by rw [c3, i2], ?_⟩
    rw [LD_s b1]; exact c5
  · unfold s_X6_listed_1
    simp only
    rw [ev_people, Option.bind_some, i1 127 10 (by omega) (by omega) (by omega), r2.2.2.1, if_neg (by omega)]
  · obtain ⟨x, s⟩ := w
    obtain ⟨-, i1, i2, i3⟩ := hw
    simp only at i1 i2 i3 ⊢
    have wE := LD_w (sm := sm) (kd := kdF h) (ri := h 1 4) (o := o) hN v4 v4' (h 1 2).toNat (fun x a b => (ho x a (by omega)).2)
    have rs : TR2 h s := TR2_congr (fun i => i1 _ _ (by omega) (by omega) (by omega)) r2
    obtain ⟨hh1, hh2⟩ := HD_hn i3 wE v1
    rw [ev_hours, Option.bind_some, rs.2.2.2.1, rf_allIn v rs s9 (SOK_congr (fun i => i1 _ _ (by omega) (by omega) (by omega)) hs) hh1 (by omega) v4', Option.bind_some]
    exact Ret.ok ⟨AI_congr (fun hr x a b a' b' => hh2 hr x a (by omega) a' (by omega)) ⟨v5, v5'⟩, i1⟩
