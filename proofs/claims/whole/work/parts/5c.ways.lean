-- needs: 5b
/-- as many as are found below, and the first of them -/
def FND (h s : fx_H) (hr cu : Int) : Prop := s 84 0 = sumI cu.toNat (wI h hr) ∧ (0 < s 84 0 → ∃ c1 : Int, 0 ≤ c1 ∧ c1 < cu ∧ wI h hr c1 = 1 ∧ (∀ c' : Int, 0 ≤ c' → c' < c1 → wI h hr c' = 0) ∧ ∀ q : Int, 0 ≤ q → q < h 1 2 → s 85 q = nwc h c1 q)
theorem mpT_v {T v : Int} (T0 : 0 ≤ T) (T9 : T ≤ 9) (v0 : 0 ≤ v) (v1 : v ≤ T) : 0 ≤ mpT T v ∧ mpT T v ≤ 9 ∧ (mpT T v = 9 ∨ mpT T v < T) := by unfold mpT; split <;> omega
theorem dq_b {c : Int → Int} {P code p : Int} (h : 0 < c p) : 0 ≤ dq c P code p ∧ dq c P code p < c p := ⟨Int.emod_nonneg _ (by omega), Int.emod_lt_of_pos _ h⟩
/-- codes with a beginning that can not be: none of them is as told -/
theorem chk_no {h s : fx_H} {hr p : Int} (v : TV 1 h) (p0 : 0 ≤ p) (p1 : p < h 1 2) (hp : ∀ j : Int, 0 ≤ j → j ≤ p → 0 ≤ s 87 j ∧ s 87 j ≤ h 1 0 ∧ s 86 j = mpT (h 1 0) (s 87 j)) (h9 : ∀ j : Int, p < j → j < 5 → s 86 j = 9) (code : Int) (a : (Kq (fun _ => h 1 0 + 1) (s 87) p.toNat * (h 1 0 + 1) + s 87 p) * Mq (fun _ => h 1 0 + 1) (h 1 2) (h 1 2 - 1 - p).toNat ≤ code) (b : code < (Kq (fun _ => h 1 0 + 1) (s 87) p.toNat * (h 1 0 + 1) + s 87 p + 1) * Mq (fun _ => h 1 0 + 1) (h 1 2) (h 1 2 - 1 - p).toNat) :
    (∀ q : Int, 0 ≤ q → q ≤ p → nwc h code q = s 86 q) ∧ (¬ chk h s hr p → wI h hr code = 0) ∧ (p = h 1 2 - 1 → chk h s hr p → wI h hr code = 1) := by
  have kb := kdF_b (hr := hr) v
  unfold TV at v
  obtain ⟨⟨v1, v1'⟩, ⟨v2, v2'⟩, ⟨v3, v3'⟩, ⟨v4, v4'⟩, ⟨v5, v5'⟩, -⟩ := v
  have hX := rq_in (c := fun _ => h 1 0 + 1) (m := (h 1 2 - 1 - p).toNat) (by omega) (fun _ _ _ => by omega) a b
  have hd := dq_of (c := fun _ => h 1 0 + 1) (pk := s 87) (P := h 1 2) (code := code) (p + 1).toNat (by omega) (by
    rw [show (h 1 2 - (((p + 1).toNat : Nat) : Int)).toNat = (h 1 2 - 1 - p).toNat by omega, hX, show (p + 1).toNat = p.toNat + 1 by omega]
    show _ = Kq (fun _ => h 1 0 + 1) (s 87) p.toNat * (h 1 0 + 1) + s 87 ((p.toNat : Nat) : Int)
    rw [show ((p.toNat : Nat) : Int) = p by omega]) (fun i x y => by have := hp i x (by omega); omega)
  have hn : ∀ q : Int, 0 ≤ q → q ≤ p → nwc h code q = s 86 q := fun q x y => by
    unfold nwc
    rw [hd q x (by omega), (hp q x y).2.2]
  have FE : ∀ q : Int, 0 ≤ q → q ≤ p → FI (smT h (h 1 1) (-1)) (kdF h hr) (s 86) (AH (dF h 4) hr) (h 1 2) (h 1 4) q (s 86 q) = FI (smT h (h 1 1) (-1)) (kdF h hr) (s 86) (AH (dF h 4) hr) (h 1 2) (h 1 4) q (nwc h code q) := fun q x y => by rw [hn q x y]
  refine ⟨hn, fun z => ?_, fun z z2 => ?_⟩
  · rcases wI_01 h hr code with w | w
    · exact w
    · exfalso
      refine z (fun q x y => ?_)
      have w1 := wI_1.mp w q x (by omega)
      have := FI_some (sm := smT h (h 1 1) (-1)) (ah := AH (dF h 4) hr) (n0 := s 86) (nw := nwc h code) (k := kdF h hr) (P := h 1 2) (ri := h 1 4) (q := q) (last := p) kb.1 kb.2 v3' x y p1 ⟨v5, v5'⟩ (fun i a b => (hn i a b).symm) (fun i a b => h9 i a (by omega))
      unfold fnc at w1
      rw [FE q x y]
      rw [w1] at this
      exact ⟨by omega, fun q => by omega⟩
  · refine wI_1.mpr (fun q x y => ?_)
    have := z2 q x (by omega)
    have e : fnc h hr code q = FI (smT h (h 1 1) (-1)) (kdF h hr) (s 86) (AH (dF h 4) hr) (h 1 2) (h 1 4) q (s 86 q) := by
      unfold fnc
      rw [hn q x (by omega)]
      exact FI_congr rfl (fun i a b _ => by rw [hn i a (by omega)]; exact ⟨rfl, rfl⟩) (fun _ _ _ _ => rfl) ⟨v5, v5'⟩
    rw [e]
    rw [show h 1 2 - 1 - p = 0 by omega, Int.zero_mul] at this
    have h2 : ¬ (kdF h hr = 2 ∧ (0 : Int) < 0) := fun q => by omega
    have := this.2
    have := this
    by_cases y1 : h 16 q < FI (smT h (h 1 1) (-1)) (kdF h hr) (s 86) (AH (dF h 4) hr) (h 1 2) (h 1 4) q (s 86 q)
    · exact absurd ⟨y1, h2⟩ this
    · have := (z2 q x (by omega)).1
      rw [show h 1 2 - 1 - p = 0 by omega, Int.zero_mul] at this
      omega
theorem sumI_more {f : Int → Int} : ∀ {a b : Nat}, a ≤ b → (∀ i : Int, a ≤ i → i < b → f i = 0) → sumI b f = sumI a f := fun h z => sumI_cut h z
theorem FND_skip {h s s' : fx_H} {hr cu cu' : Int} (c0 : 0 ≤ cu) (hc : cu ≤ cu') (z : ∀ c : Int, cu ≤ c → c < cu' → wI h hr c = 0) (e0 : s' 84 0 = s 84 0) (e1 : ∀ q : Int, s' 85 q = s 85 q) (f : FND h s hr cu) : FND h s' hr cu' := by
  obtain ⟨f1, f2⟩ := f
  refine ⟨by rw [e0, f1, sumI_more (a := cu.toNat) (b := cu'.toNat) (by omega) (fun i a b => z i (by omega) (by omega))], fun q => ?_⟩
  rw [e0] at q
  obtain ⟨c1, x1, x2, x3, x4, x5⟩ := f2 q
  exact ⟨c1, x1, by omega, x3, x4, fun q a b => by rw [e1]; exact x5 q a b⟩
theorem FND_hit {h s s' : fx_H} {hr cu : Int} (c0 : 0 ≤ cu) (w : wI h hr cu = 1) (e0 : s' 84 0 = s 84 0 + 1) (e1 : s 84 0 = 0 → ∀ q : Int, 0 ≤ q → q < h 1 2 → s' 85 q = nwc h cu q) (e2 : ¬ s 84 0 = 0 → ∀ q : Int, s' 85 q = s 85 q) (f : FND h s hr cu) : FND h s' hr (cu + 1) := by
  obtain ⟨f1, f2⟩ := f
  have nn : 0 ≤ sumI cu.toNat (wI h hr) := sumI_nn (fun i _ _ => by rcases wI_01 h hr i with z | z <;> omega)
  refine ⟨by rw [e0, f1, show (cu + 1).toNat = cu.toNat + 1 by omega, sumI_succ, show ((cu.toNat : Nat) : Int) = cu by omega, w], fun q => ?_⟩
  by_cases z : s 84 0 = 0
  · refine ⟨cu, c0, by omega, w, fun c' a b => ?_, e1 z⟩
    rcases wI_01 h hr c' with y | y
    · exact y
    · exfalso
      rw [f1, sumI_at (p := c') a (by omega), y] at z
      have := sumI_nn (n := cu.toNat) (f := fun i => if i = c' then 0 else wI h hr i) (fun i _ _ => by
        rcases wI_01 h hr i with z | z <;> by_cases y : i = c'
        · rw [if_pos y]; exact Int.le_refl 0
        · rw [if_neg y, z]; exact Int.le_refl 0
        · rw [if_pos y]; exact Int.le_refl 0
        · rw [if_neg y, z]; decide)
      omega
  · obtain ⟨c1, x1, x2, x3, x4, x5⟩ := f2 (by omega)
    exact ⟨c1, x1, by omega, x3, x4, fun q a b => by rw [e2 z]; exact x5 q a b⟩
theorem did_S0 {b P : Int} (b1 : 1 ≤ b) (b10 : b ≤ 10) (P1 : 1 ≤ P) (P5 : P ≤ 5) : Rm (fun _ => b) (fun _ => -1) P (0 + 1 : Int).toNat ≤ 200000 := by
  show 0 + (b - 1 - -1) * Cst (fun _ => b) P (P - 1 - ((0 : Nat) : Int)).toNat + 1 ≤ 200000
  have k : ∀ m : Nat, m ≤ 4 → 0 ≤ Cst (fun _ => b) P m ∧ Cst (fun _ => b) P m ≤ [1, 12, 122, 1222, 12222].getD m 0 := by
    intro m
    induction m with
    | zero => intro _; exact ⟨(by decide : (0 : Int) ≤ 1), (by decide : (1 : Int) ≤ 1)⟩
    | succ m ih =>
      intro hm
      obtain ⟨a, c⟩ := ih (by omega)
      have h1 : b * Cst (fun _ => b) P m ≤ 10 * [1, 12, 122, 1222, 12222].getD m 0 := Int.mul_le_mul b10 c a (by omega)
      have h2 := Int.mul_nonneg (show 0 ≤ b by omega) a
      show 0 ≤ 2 + b * Cst (fun _ => b) P m ∧ 2 + b * Cst (fun _ => b) P m ≤ [1, 12, 122, 1222, 12222].getD (m + 1) 0
      rcases (show m = 0 ∨ m = 1 ∨ m = 2 ∨ m = 3 by omega) with rfl | rfl | rfl | rfl
      · have : ([1, 12, 122, 1222, 12222] : List Int).getD 0 0 = 1 := rfl
        have : ([1, 12, 122, 1222, 12222] : List Int).getD (0 + 1) 0 = 12 := rfl
        omega
      · have : ([1, 12, 122, 1222, 12222] : List Int).getD 1 0 = 12 := rfl
        have : ([1, 12, 122, 1222, 12222] : List Int).getD (1 + 1) 0 = 122 := rfl
        omega
      · have : ([1, 12, 122, 1222, 12222] : List Int).getD 2 0 = 122 := rfl
        have : ([1, 12, 122, 1222, 12222] : List Int).getD (2 + 1) 0 = 1222 := rfl
        omega
      · have : ([1, 12, 122, 1222, 12222] : List Int).getD 3 0 = 1222 := rfl
        have : ([1, 12, 122, 1222, 12222] : List Int).getD (3 + 1) 0 = 12222 := rfl
        omega
  obtain ⟨a, c⟩ := k (P - 1 - ((0 : Nat) : Int)).toNat (by omega)
  have c2 : Cst (fun _ => b) P (P - 1 - ((0 : Nat) : Int)).toNat ≤ 12222 := by
    refine Int.le_trans c ?_
    rcases (show (P - 1 - ((0 : Nat) : Int)).toNat = 0 ∨ (P - 1 - ((0 : Nat) : Int)).toNat = 1 ∨ (P - 1 - ((0 : Nat) : Int)).toNat = 2 ∨ (P - 1 - ((0 : Nat) : Int)).toNat = 3 ∨ (P - 1 - ((0 : Nat) : Int)).toNat = 4 by omega) with e | e | e | e | e <;> rw [e] <;> decide
  have := Int.mul_le_mul (show b - 1 - -1 ≤ 10 by omega) c2 a (by omega)
  omega
/-- the class's search for ways -/
theorem ways_cl {h w : fx_H} {hr : Int} (v : TV 1 h) (ef : ∀ a i : Int, 1 ≤ a → a ≤ 19 → w a i = h a i) (hC : CT (smT h (h 1 1) (-1)) (h 1 0) (h 1 2) (h 1 4) w) (r0 : 0 ≤ hr) (r5 : hr < 5) (w0 : w 84 0 = 0) (w9 : ∀ q : Int, 0 ≤ q → q < 5 → w 86 q = 9) (wp : w 87 0 = -1) : Ret (fx_loop (s_X2_findWays_1 FU La_167 84 1 43 hr) FU (0, 0, w)) (fun e => (∀ a i : Int, a ≠ 85 → a ≠ 86 → a ≠ 87 → ¬ (a = 84 ∧ i = 0) → e.2.2 a i = w a i) ∧ FND h e.2.2 hr (Mq (fun _ => h 1 0 + 1) (h 1 2) (h 1 2).toNat)) := by
  have vv := v
  unfold TV at vv
  obtain ⟨⟨v1, v1'⟩, ⟨v2, v2'⟩, ⟨v3, v3'⟩, ⟨v4, v4'⟩, ⟨v5, v5'⟩, -⟩ := vv
  generalize hb : (fun _ : Int => h 1 0 + 1) = c
  have cE : ∀ x : Int, c x = h 1 0 + 1 := fun x => by rw [← hb]
  have cp : ∀ p : Int, 0 ≤ p → p < h 1 2 → 0 ≤ c p := fun p _ _ => by rw [cE]; omega
  have cp' : ∀ p : Int, 0 ≤ p → p < h 1 2 → 0 < c p := fun p _ _ => by rw [cE]; omega
  have S0 := did_S0 (b := h 1 0 + 1) (P := h 1 2) (by omega) (by omega) v3 v3'
  rw [hb] at S0
  refine loop_ret (fun s => -1 ≤ s.1 ∧ s.1 < h 1 2 ∧ (∀ a i : Int, a ≠ 85 → a ≠ 86 → a ≠ 87 → ¬ (a = 84 ∧ i = 0) → s.2.2 a i = w a i) ∧ (∀ j : Int, 0 ≤ j → j < s.1 → 0 ≤ s.2.2 87 j ∧ s.2.2 87 j ≤ h 1 0 ∧ s.2.2 86 j = mpT (h 1 0) (s.2.2 87 j)) ∧ (0 ≤ s.1 → -1 ≤ s.2.2 87 s.1 ∧ s.2.2 87 s.1 ≤ h 1 0 ∧ 0 ≤ s.2.2 86 s.1 ∧ s.2.2 86 s.1 ≤ 9) ∧ (∀ j : Int, s.1 < j → j < 5 → s.2.2 86 j = 9) ∧ FND h s.2.2 hr (if s.1 < 0 then Mq c (h 1 2) (h 1 2).toNat else cur c (s.2.2 87) (h 1 2) s.1) ∧ (0 ≤ s.2.1 ∧ s.2.2 84 0 ≤ s.2.1) ∧ s.2.1 + Rm c (s.2.2 87) (h 1 2) (s.1 + 1).toNat ≤ 200000) (fun s => (Rm c (s.2.2 87) (h 1 2) (s.1 + 1).toNat).toNat) (fun s hs => ?_) FU _ (by
    refine ⟨(by decide : (-1 : Int) ≤ 0), by show (0 : Int) < h 1 2; omega, fun _ _ _ _ _ _ => rfl, fun j a b => by have : j < 0 := b; omega, fun _ => by show -1 ≤ w 87 0 ∧ w 87 0 ≤ h 1 0 ∧ 0 ≤ w 86 0 ∧ w 86 0 ≤ 9; rw [wp, w9 0 (by omega) (by omega)]; omega, fun j a b => w9 j (by have : (0 : Int) < j := a; omega) b, ?_, ⟨Int.le_refl 0, by show w 84 0 ≤ 0; omega⟩, ?_⟩
    · show FND h w hr (if (0 : Int) < 0 then Mq c (h 1 2) (h 1 2).toNat else cur c (w 87) (h 1 2) 0)
      rw [if_neg (by omega)]
      have : cur c (w 87) (h 1 2) 0 = 0 := by
        show (0 * c 0 + w 87 0 + 1) * _ = 0
        rw [wp]; simp
      rw [this]
      exact ⟨w0, fun q => by omega⟩
    · show 0 + Rm c (w 87) (h 1 2) (0 + 1 : Int).toNat ≤ 200000
      rw [Rm_congr (pk' := fun _ => -1) (0 + 1 : Int).toNat (fun i a b => by rw [show i = 0 by omega]; exact wp)]
      omega) (FU_gt (by
    show (Rm c (w 87) (h 1 2) (0 + 1 : Int).toNat).toNat < _
    rw [Rm_congr (pk' := fun _ => -1) (0 + 1 : Int).toNat (fun i a b => by rw [show i = 0 by omega]; exact wp)]
    omega))
  obtain ⟨p, st, s⟩ := s
  obtain ⟨s1, s2, s3, s4, s5, s6, s7, s8, s9⟩ := hs
  simp only at s1 s2 s3 s4 s5 s6 s7 s8 s9
  unfold s_X2_findWays_1
  simp only [lb_tg_84_2, lb_tg_84_3]
  by_cases c0 : 0 ≤ p
  · rw [if_neg (by omega)] at s7
    obtain ⟨p1, p2, p3, p4⟩ := s5 c0
    have rm := Rm_nn (c := c) (pk := s 87) (P := h 1 2) (p + 1).toNat (by omega) cp (fun i a b => by
      rw [cE]
      by_cases z : i = p
      · rw [z]; omega
      · have := s4 i a (by omega); omega)
    have cst := Cst_pos (c := c) (P := h 1 2) (h 1 2 - 1 - p).toNat (by omega) cp
    rw [if_pos ⟨by omega, c0⟩, rdl lb_ln_87 c0 (by omega), Option.bind_some, wrl lb_ln_87 c0 (by omega), Option.bind_some, rdl lb_ln_87 c0 (by omega), Option.bind_some, up_eq rfl rfl, wid (z := s 87 p + 1) (by omega) (by omega), wid (z := st + 1) (by omega) (by omega), wid (z := p + -1) (by omega) (by omega), wid (z := p + 1) (by omega) (by omega)]
    have u1 : ∀ a i : Int, ¬ (a = 87 ∧ i = p) → fx_up s 87 p (s 87 p + 1) a i = s a i := fun a i z => up_ne (by omega)
    have u2 : fx_up s 87 p (s 87 p + 1) 87 p = s 87 p + 1 := up_eq rfl rfl
    generalize fx_up s 87 p (s 87 p + 1) = t at u1 u2
    rw [u1 1 0 (by omega), s3 1 0 (by omega) (by omega) (by omega) (by omega), ef 1 0 (by omega) (by omega)]
    have ti : ∀ i : Int, 0 ≤ i → i < p → t 87 i = s 87 i := fun i a b => u1 _ _ (by omega)
    have Kt : Kq c (t 87) p.toNat = Kq c (s 87) p.toNat := Kq_congr _ (fun i a b => ti i a (by omega))
    have cuE : cur c (s 87) (h 1 2) p = (Kq c (t 87) p.toNat * c p + t 87 p) * Mq c (h 1 2) (h 1 2 - 1 - p).toNat := by
      unfold cur
      rw [Kt, u2]
      congr 1
      omega
    have Mnn := Mq_nn (c := c) (P := h 1 2) (h 1 2 - 1 - p).toNat (by omega) cp
    by_cases c1 : h 1 0 < s 87 p + 1
    · rw [if_pos c1, wrl lb_ln_86 c0 (by omega), Option.bind_some]
      have pe : s 87 p + 1 = c p := by rw [cE]; omega
      have w1 : ∀ a i : Int, ¬ (a = 86 ∧ i = p) → fx_up t 86 p 9 a i = t a i := fun a i z => up_ne (by omega)
      have w2 : fx_up t 86 p 9 86 p = 9 := up_eq rfl rfl
      generalize fx_up t 86 p 9 = r at w1 w2
      have ri : ∀ i : Int, 0 ≤ i → i < p → r 87 i = s 87 i := fun i a b => by rw [w1 _ _ (by omega)]; exact ti i a b
      have rmE : Rm c (r 87) (h 1 2) p.toNat = Rm c (s 87) (h 1 2) (p + 1).toNat - 1 := by
        rw [Rm_s c0, Rm_congr (pk' := s 87) p.toNat (fun i a b => ri i a (by omega)), show c p - 1 - s 87 p = 0 by omega, Int.zero_mul]; omega
      refine Or.inl ⟨_, rfl, ⟨by show -1 ≤ p + -1; omega, by show p + -1 < h 1 2; omega, fun a i x y z u => ?_, fun j a b => ?_, fun z => ?_, fun j a b => ?_, ?_, ⟨by show 0 ≤ st + 1; omega, by show r 84 0 ≤ st + 1; rw [w1 _ _ (by omega), u1 _ _ (by omega)]; omega⟩, ?_⟩, ?_⟩
      · show r a i = _
        rw [w1 a i (by omega), u1 a i (by omega)]; exact s3 a i x y z u
      · have b : j < p + -1 := b
        show 0 ≤ r 87 j ∧ r 87 j ≤ h 1 0 ∧ r 86 j = mpT (h 1 0) (r 87 j)
        rw [ri j a (by omega), w1 86 j (by omega), u1 86 j (by omega)]; exact s4 j a (by omega)
      · have z : 0 ≤ p + -1 := z
        show -1 ≤ r 87 (p + -1) ∧ r 87 (p + -1) ≤ h 1 0 ∧ 0 ≤ r 86 (p + -1) ∧ r 86 (p + -1) ≤ 9
        obtain ⟨y1, y2, y3⟩ := s4 (p + -1) z (by omega)
        have := mpT_v v1 v1' y1 y2
        rw [ri _ z (by omega), w1 86 _ (by omega), u1 86 _ (by omega), y3]; omega
      · have a : p + -1 < j := a
        show r 86 j = 9
        by_cases e : j = p
        · rw [e]; exact w2
        · rw [w1 _ _ (by omega), u1 _ _ (by omega)]; exact s6 j (by omega) b
      · show FND h r hr (if p + -1 < 0 then Mq c (h 1 2) (h 1 2).toNat else cur c (r 87) (h 1 2) (p + -1))
        have same : (if p + -1 < 0 then Mq c (h 1 2) (h 1 2).toNat else cur c (r 87) (h 1 2) (p + -1)) = cur c (s 87) (h 1 2) p := by
          by_cases e : p = 0
          · rw [if_pos (by omega), e]
            rw [e] at pe
            exact (cur_end v3 pe).symm
          · rw [if_neg (by omega), cur_pop (show 1 ≤ p by omega) s2 pe, show p + -1 = p - 1 by omega]
            unfold cur
            rw [Kq_congr (pk' := s 87) (p - 1).toNat (fun i a b => ri i a (by omega)), ri (p - 1) (by omega) (by omega)]
        rw [same]
        obtain ⟨f1, f2⟩ := s7
        exact ⟨by rw [w1 _ _ (by omega), u1 _ _ (by omega)]; exact f1, fun q => by
          rw [w1 _ _ (by omega), u1 _ _ (by omega)] at q
          obtain ⟨c1, x1, x2, x3, x4, x5⟩ := f2 q
          exact ⟨c1, x1, x2, x3, x4, fun q a b => by rw [w1 _ _ (by omega), u1 _ _ (by omega)]; exact x5 q a b⟩⟩
      · show st + 1 + Rm c (r 87) (h 1 2) (p + -1 + 1).toNat ≤ 200000
        rw [show p + -1 + 1 = p by omega, rmE]; omega
      · show (Rm c (r 87) (h 1 2) (p + -1 + 1).toNat).toNat < (Rm c (s 87) (h 1 2) (p + 1).toNat).toNat
        rw [show p + -1 + 1 = p by omega, rmE]; omega
    · rw [if_neg c1, Option.bind_some, Option.bind_some]
      rw [show (if s 87 p + 1 = h 1 0 then some (9 : Int) else some (s 87 p + 1)) = some (mpT (h 1 0) (s 87 p + 1)) by unfold mpT; split <;> rfl, Option.bind_some, wrl lb_ln_86 c0 (by omega), Option.bind_some]
      have mv := mpT_v v1 v1' (show 0 ≤ s 87 p + 1 by omega) (by omega)
      have w1 : ∀ a i : Int, ¬ (a = 86 ∧ i = p) → fx_up t 86 p (mpT (h 1 0) (s 87 p + 1)) a i = t a i := fun a i z => up_ne (by omega)
      have w2 : fx_up t 86 p (mpT (h 1 0) (s 87 p + 1)) 86 p = mpT (h 1 0) (s 87 p + 1) := up_eq rfl rfl
      generalize fx_up t 86 p (mpT (h 1 0) (s 87 p + 1)) = r at w1 w2
      have r87 : ∀ i : Int, r 87 i = t 87 i := fun i => w1 _ _ (by omega)
      have rp : r 87 p = s 87 p + 1 := by rw [r87, u2]
      have ri : ∀ i : Int, 0 ≤ i → i < p → r 87 i = s 87 i := fun i a b => by rw [r87]; exact ti i a b
      have Kr : Kq c (r 87) p.toNat = Kq c (s 87) p.toNat := Kq_congr _ (fun i a b => ri i a (by omega))
      have rf : ∀ a i : Int, a ≠ 85 → a ≠ 86 → a ≠ 87 → ¬ (a = 84 ∧ i = 0) → r a i = w a i := fun a i x y z u => by rw [w1 a i (by omega), u1 a i (by omega)]; exact s3 a i x y z u
      have rj : ∀ j : Int, 0 ≤ j → j ≤ p → 0 ≤ r 87 j ∧ r 87 j ≤ h 1 0 ∧ r 86 j = mpT (h 1 0) (r 87 j) := fun j a b => by
        by_cases e : j = p
        · rw [e, rp, w2]; exact ⟨by omega, by omega, rfl⟩
        · rw [ri j a (by omega), w1 86 j (by omega), u1 86 j (by omega)]; exact s4 j a (by omega)
      have r9 : ∀ j : Int, p < j → j < 5 → r 86 j = 9 := fun j a b => by rw [w1 _ _ (by omega), u1 _ _ (by omega)]; exact s6 j a b
      obtain ⟨x, e1, k1, k2⟩ := mayHavePaid_ok (s := r) (hr := hr) (last := p) v (CT_congr (fun a i z => rf a i (by omega) (by omega) (by omega) (by omega)) hC) (fun a i y z => by rw [rf a i (by omega) (by omega) (by omega) (by omega)]; exact ef a i y z) (fun q y z => by
        by_cases e : q ≤ p
        · obtain ⟨z1, z2, z3⟩ := rj q y e
          rw [z3]; exact mpT_v v1 v1' z1 z2
        · rw [r9 q (by omega) z]; omega) r0 r5 c0 s2
      have cn := chk_no (s := r) (hr := hr) v c0 s2 rj r9
      rw [hb] at cn
      have curR : cur c (r 87) (h 1 2) p = cur c (s 87) (h 1 2) p + Mq c (h 1 2) (h 1 2 - 1 - p).toNat := by
        unfold cur
        rw [Kr, rp, show Kq c (s 87) p.toNat * c p + (s 87 p + 1) + 1 = (Kq c (s 87) p.toNat * c p + s 87 p + 1) + 1 by omega, Int.add_mul (Kq c (s 87) p.toNat * c p + s 87 p + 1) 1, Int.one_mul]
      have cuS : cur c (s 87) (h 1 2) p = (Kq c (r 87) p.toNat * (h 1 0 + 1) + r 87 p) * Mq c (h 1 2) (h 1 2 - 1 - p).toNat := by
        unfold cur
        rw [Kr, rp, cE, show Kq c (s 87) p.toNat * (h 1 0 + 1) + s 87 p + 1 = Kq c (s 87) p.toNat * (h 1 0 + 1) + (s 87 p + 1) by omega]
      have cuS1 : cur c (s 87) (h 1 2) p + Mq c (h 1 2) (h 1 2 - 1 - p).toNat = (Kq c (r 87) p.toNat * (h 1 0 + 1) + r 87 p + 1) * Mq c (h 1 2) (h 1 2 - 1 - p).toNat := by
        rw [cuS, Int.add_mul (Kq c (r 87) p.toNat * (h 1 0 + 1) + r 87 p) 1, Int.one_mul]
      have Knn : ∀ m : Nat, (m : Int) ≤ p → 0 ≤ Kq c (s 87) m := by
        intro m
        induction m with
        | zero => intro _; exact Int.le_refl 0
        | succ m ih =>
          intro hm
          have a := ih (by omega)
          have b := (s4 m (by omega) (by omega)).1
          have := Int.mul_nonneg a (cp m (by omega) (by omega))
          show 0 ≤ Kq c (s 87) m * c m + s 87 m
          omega
      have cu0 : 0 ≤ cur c (s 87) (h 1 2) p := by
        unfold cur
        have := Int.mul_nonneg (Knn p.toNat (by omega)) (cp p c0 s2)
        exact Int.mul_nonneg (by omega) Mnn
      have rmP := Rm_pick (c := c) (pk := s 87) (pk' := r 87) (P := h 1 2) c0 (fun i a b => ri i a b) rp
      rw [e1, Option.bind_some]
      by_cases c2 : x = 0
      · rw [if_pos c2]
        have nk : ¬ chk h r hr p := fun z => by have := k2.mpr z; omega
        refine Or.inl ⟨_, rfl, ⟨s1, s2, rf, fun j a b => rj j a (by have : j < p := b; omega), fun _ => by show -1 ≤ r 87 p ∧ r 87 p ≤ h 1 0 ∧ 0 ≤ r 86 p ∧ r 86 p ≤ 9; rw [rp, w2]; omega, r9, ?_, ⟨by show 0 ≤ st + 1; omega, by show r 84 0 ≤ st + 1; rw [w1 _ _ (by omega), u1 _ _ (by omega)]; omega⟩, by show st + 1 + Rm c (r 87) (h 1 2) (p + 1).toNat ≤ 200000; rw [rmP]; omega⟩, by show (Rm c (r 87) (h 1 2) (p + 1).toNat).toNat < (Rm c (s 87) (h 1 2) (p + 1).toNat).toNat; rw [rmP]; omega⟩
        show FND h r hr (if p < 0 then Mq c (h 1 2) (h 1 2).toNat else cur c (r 87) (h 1 2) p)
        rw [if_neg (by omega), curR]
        exact FND_skip cu0 (by omega) (fun cd a b => (cn cd (by rw [← cuS]; exact a) (by rw [← cuS1]; exact b)).2.1 nk) (by rw [w1 _ _ (by omega), u1 _ _ (by omega)]) (fun q => by rw [w1 _ _ (by omega), u1 _ _ (by omega)]) s7
      · have ck : chk h r hr p := k2.mp (by omega)
        rw [if_neg c2, rf 1 2 (by omega) (by omega) (by omega) (by omega), ef 1 2 (by omega) (by omega), wid (z := h 1 2 - 1) (by omega) (by omega)]
        by_cases c3 : p < h 1 2 - 1
        · rw [if_pos c3, wrl lb_ln_87 (by omega) (by omega), Option.bind_some]
          have z1 : ∀ a i : Int, ¬ (a = 87 ∧ i = p + 1) → fx_up r 87 (p + 1) (-1) a i = r a i := fun a i z => up_ne (by omega)
          have z2 : fx_up r 87 (p + 1) (-1) 87 (p + 1) = -1 := up_eq rfl rfl
          generalize fx_up r 87 (p + 1) (-1) = y at z1 z2
          have yi : ∀ i : Int, 0 ≤ i → i < p + 1 → y 87 i = r 87 i := fun i a b => z1 _ _ (by omega)
          have rmQ := Rm_push (c := c) (pk := y 87) (P := h 1 2) c0 (by omega) z2
          rw [Rm_congr (pk' := r 87) (p + 1).toNat (fun i a b => yi i a (by omega)), rmP] at rmQ
          refine Or.inl ⟨_, rfl, ⟨by show -1 ≤ p + 1; omega, by show p + 1 < h 1 2; omega, fun a i x1 x2 x3 x4 => by show y a i = _; rw [z1 a i (by omega)]; exact rf a i x1 x2 x3 x4, fun j a b => ?_, fun _ => ?_, fun j a b => ?_, ?_, ⟨by show 0 ≤ st + 1; omega, by show y 84 0 ≤ st + 1; rw [z1 _ _ (by omega), w1 _ _ (by omega), u1 _ _ (by omega)]; omega⟩, ?_⟩, ?_⟩
          · have b : j < p + 1 := b
            show 0 ≤ y 87 j ∧ y 87 j ≤ h 1 0 ∧ y 86 j = mpT (h 1 0) (y 87 j)
            rw [yi j a b, z1 86 j (by omega)]; exact rj j a (by omega)
          · show -1 ≤ y 87 (p + 1) ∧ y 87 (p + 1) ≤ h 1 0 ∧ 0 ≤ y 86 (p + 1) ∧ y 86 (p + 1) ≤ 9
            rw [z2, z1 86 _ (by omega), r9 _ (by omega) (by omega)]; omega
          · have a : p + 1 < j := a
            show y 86 j = 9
            rw [z1 _ _ (by omega)]; exact r9 j (by omega) b
          · show FND h y hr (if p + 1 < 0 then Mq c (h 1 2) (h 1 2).toNat else cur c (y 87) (h 1 2) (p + 1))
            rw [if_neg (by omega), cur_push c0 (by omega) z2]
            rw [Kq_congr (pk' := r 87) p.toNat (fun i a b => yi i a (by omega)), yi p c0 (by omega), cE, ← cuS]
            exact FND_skip cu0 (Int.le_refl _) (fun cd a b => by omega) (by rw [z1 _ _ (by omega), w1 _ _ (by omega), u1 _ _ (by omega)]) (fun q => by rw [z1 _ _ (by omega), w1 _ _ (by omega), u1 _ _ (by omega)]) s7
          · show st + 1 + Rm c (y 87) (h 1 2) (p + 1 + 1).toNat ≤ 200000
            rw [rmQ]; omega
          · show (Rm c (y 87) (h 1 2) (p + 1 + 1).toNat).toNat < (Rm c (s 87) (h 1 2) (p + 1).toNat).toNat
            rw [rmQ]; omega
        · rw [if_neg c3]
          have pE : p = h 1 2 - 1 := by omega
          have M1 : Mq c (h 1 2) (h 1 2 - 1 - p).toNat = 1 := by rw [show (h 1 2 - 1 - p).toNat = 0 by omega]; rfl
          rw [M1] at cuS cuS1 curR
          have hc := cn (cur c (s 87) (h 1 2) p) (by rw [M1, ← cuS]; exact Int.le_refl _) (by rw [M1, ← cuS1]; omega)
          have hw := hc.2.2 pE ck
          have key : ∃ y : fx_H, f_X2_countWay FU La_167 84 r = some y ∧ (∀ a i : Int, a ≠ 85 → ¬ (a = 84 ∧ i = 0) → y a i = r a i) ∧ y 84 0 = r 84 0 + 1 ∧ (r 84 0 = 0 → ∀ q : Int, 0 ≤ q → q < 5 → y 85 q = r 86 q) ∧ (¬ r 84 0 = 0 → ∀ q : Int, y 85 q = r 85 q) := by
            have fb : 0 ≤ r 84 0 ∧ r 84 0 ≤ 1000000 := by
              rw [w1 _ _ (by omega), u1 _ _ (by omega)]
              have a1 : 0 ≤ sumI (cur c (s 87) (h 1 2) p).toNat (wI h hr) := sumI_nn (fun i _ _ => by rcases wI_01 h hr i with z | z <;> omega)
              have a2 := s7.1
              omega
            unfold f_X2_countWay
            simp only [lb_tg_84_1, lb_tg_84_2]
            by_cases z : r 84 0 = 0
            · rw [if_pos z, cp_ok (by omega) (by omega) (by omega) (by rw [lb_ln_86]; omega) (by rw [lb_ln_85]; omega)]
              simp only [Option.bind_some]
              refine ⟨_, rfl, fun a i x y => by rw [up_ne (by omega), cpy_out (by omega)], ?_, fun _ q a b => ?_, fun q => absurd z q⟩
              · rw [up_eq rfl rfl, cpy_out (by omega), wid (by omega) (by omega)]
              · rw [up_ne (by omega), cpy_in rfl (by omega) (by omega)]; congr 1; omega
            · rw [if_neg z]
              simp only [Option.bind_some]
              exact ⟨_, rfl, fun a i x y => by rw [up_ne (by omega)], by rw [up_eq rfl rfl, wid (by omega) (by omega)], fun q => absurd q z, fun _ q => by rw [up_ne (by omega)]⟩
          obtain ⟨y, e2, z1, z2, z3, z4⟩ := key
          rw [e2, Option.bind_some]
          have y87 : ∀ i : Int, y 87 i = r 87 i := fun i => z1 _ _ (by omega) (by omega)
          have rmY : Rm c (y 87) (h 1 2) (p + 1).toNat = Rm c (s 87) (h 1 2) (p + 1).toNat - Cst c (h 1 2) (h 1 2 - 1 - p).toNat := by rw [Rm_congr (pk' := r 87) (p + 1).toNat (fun i _ _ => y87 i)]; exact rmP
          refine Or.inl ⟨_, rfl, ⟨s1, s2, fun a i x1 x2 x3 x4 => by show y a i = _; rw [z1 a i x1 x4]; exact rf a i x1 x2 x3 x4, fun j a b => by show 0 ≤ y 87 j ∧ y 87 j ≤ h 1 0 ∧ y 86 j = mpT (h 1 0) (y 87 j); rw [y87, z1 86 j (by omega) (by omega)]; exact rj j a (by have : j < p := b; omega), fun _ => by show -1 ≤ y 87 p ∧ y 87 p ≤ h 1 0 ∧ 0 ≤ y 86 p ∧ y 86 p ≤ 9; rw [y87, rp, z1 86 p (by omega) (by omega), w2]; omega, fun j a b => by show y 86 j = 9; rw [z1 86 j (by omega) (by omega)]; exact r9 j a b, ?_, ⟨by show 0 ≤ st + 1; omega, by show y 84 0 ≤ st + 1; rw [z2, w1 _ _ (by omega), u1 _ _ (by omega)]; omega⟩, by show st + 1 + Rm c (y 87) (h 1 2) (p + 1).toNat ≤ 200000; rw [rmY]; omega⟩, by show (Rm c (y 87) (h 1 2) (p + 1).toNat).toNat < (Rm c (s 87) (h 1 2) (p + 1).toNat).toNat; rw [rmY]; omega⟩
          show FND h y hr (if p < 0 then Mq c (h 1 2) (h 1 2).toNat else cur c (y 87) (h 1 2) p)
          have cY : cur c (y 87) (h 1 2) p = cur c (s 87) (h 1 2) p + 1 := by
            rw [← curR]
            unfold cur
            rw [Kq_congr (pk' := r 87) p.toNat (fun i _ _ => y87 i), y87]
          rw [if_neg (by omega), cY]
          have e84 : r 84 0 = s 84 0 := by rw [w1 _ _ (by omega), u1 _ _ (by omega)]
          refine FND_hit cu0 hw (by rw [z2, e84]) (fun q i a b => ?_) (fun q i => ?_) s7
          · rw [z3 (by omega) i a (by omega)]
            exact (hc.1 i a (by omega)).symm
          · rw [z4 (by omega), w1 _ _ (by omega), u1 _ _ (by omega)]
  · rw [if_neg (fun z => c0 z.2)]
    refine Or.inr ⟨_, rfl, s3, ?_⟩
    rw [if_pos (by omega)] at s7
    exact s7
