-- needs: 5c
theorem wI_congr {h h' : fx_H} {hr : Int} (P5 : h 1 2 ≤ 5) (r0 : 0 ≤ hr) (r5 : hr < 5) (e : ∀ a i : Int, 1 ≤ a → a ≤ 19 → h' a i = h a i) : wI h' hr = wI h hr ∧ nwc h' = nwc h := by
  have e1 : ∀ i : Int, h' 1 i = h 1 i := fun i => e 1 i (by omega) (by omega)
  have n : nwc h' = nwc h := by funext a b; unfold nwc; rw [e1, e1]
  have s : smT h' (h' 1 1) (-1) = smT h (h 1 1) (-1) := by unfold smT; rw [e1, show h' 2 = h 2 from funext fun i => e 2 i (by omega) (by omega)]
  have k : kdF h' hr = kdF h hr := by unfold kdF; rw [e _ _ (by omega) (by omega)]
  have a : AH (dF h' 4) hr = AH (dF h 4) hr := by
    funext q
    unfold AH dF
    by_cases c : 0 < hr
    · rw [if_pos c, if_pos c, e _ _ (by omega) (by omega)]
    · rw [if_neg c, if_neg c]
  have p : h' 16 = h 16 := funext fun i => e 16 i (by omega) (by omega)
  refine ⟨?_, n⟩
  funext cd
  unfold wI fnc
  rw [n, s, k, a, p, e1, e1]
/-- what was found is still so -/
def CPp (h : fx_H) : Prop := ∀ hr : Int, h 84 5 = hr → 0 ≤ hr → hr < 5 → h 1 2 ≤ 5 → FND h h hr (Mq (fun _ => h 1 0 + 1) (h 1 2) (h 1 2).toNat)
theorem FND_congr {h h' s s' : fx_H} {hr cu : Int} (P5 : h 1 2 ≤ 5) (r0 : 0 ≤ hr) (r5 : hr < 5) (e : ∀ a i : Int, 1 ≤ a → a ≤ 19 → h' a i = h a i) (e0 : s' 84 0 = s 84 0) (e1 : ∀ q : Int, s' 85 q = s 85 q) (f : FND h s hr cu) : FND h' s' hr cu := by
  obtain ⟨w, n⟩ := wI_congr P5 r0 r5 e
  unfold FND
  rw [w, n, e0, e 1 2 (by omega) (by omega)]
  simp only [e1]
  exact f
theorem FrP_CPp : FrP CPp := fun h h' e c hr hh r0 r5 P5 => by
  rw [e 84 5 (by omega)] at hh
  rw [e 1 2 (by omega)] at P5
  rw [e 1 0 (by omega), e 1 2 (by omega)]
  exact FND_congr P5 r0 r5 (fun a i x y => e a i (by omega)) (e 84 0 (by omega)) (fun q => e 85 q (by omega)) (c hr hh r0 r5 P5)
/-- as Rel_scr; what was found of the past is new -/
theorem Rel_past {CL CP : fx_H → Prop} {k : Int} {h h' : fx_H} (hL : FrL CL) (R : Rel CL CP k h) (e : ∀ a i : Int, KP a i → a ≠ 84 → a ≠ 85 → h' a i = h a i) (rs : RS h') (e4 : h' 84 4 = h 0 13) (cp : CP h') : Rel CL CP k h' := by
  obtain ⟨r1, r2, r3, ⟨r4, r4'⟩, r5, r6, ⟨r7, r8⟩, ⟨r9, r10⟩, r11, r12⟩ := R
  have hb := r1
  unfold TV at hb
  have e : ∀ a i : Int, a = 0 ∨ (1 ≤ a ∧ a ≤ 19) ∨ a = 40 ∨ (a = 41 ∧ i = 1) ∨ a = 42 ∨ (a = 48 ∧ (i = 2 ∨ i = 4 ∨ i = 5)) ∨ (55 ≤ a ∧ a ≤ 60) ∨ (88 ≤ a ∧ a ≤ 125) ∨ (a = 126 ∧ (i = 17 ∨ i = 1000004 ∨ i = 1000005)) ∨ (127 ≤ a ∧ a ≤ 130) ∨ a = 141 → h' a i = h a i := fun a i z => e a i (by unfold KP; omega) (by omega) (by omega)
  have ec : h' 0 13 = h 0 13 := e 0 13 (by omega)
  refine ⟨TV_congr (fun a i _ _ => e a i (by omega)) r1, TR_congr (fun a i _ _ => e a i (by omega)) (fun i _ _ => e 127 i (by omega)) ⟨hb.1.2, hb.2.2.2.2.2.1.2⟩ r2, RI_congr (fun a i q => e a i (by omega)) r3, ?_, ?_, rs, ?_⟩
  · unfold RN
    rw [e 0 10 (by omega), e 0 11 (by omega), e 0 12 (by omega), e 0 1000008 (by omega), e 0 1000009 (by omega), e 130 0 (by omega), e 130 1 (by omega), e 130 2 (by omega), e 126 1000004 (by omega), e 126 1000005 (by omega)]
    exact ⟨r4, r4'⟩
  · unfold RT at r5 ⊢
    rw [e 126 17 (by omega), e 41 1 (by omega)]
    exact ⟨r5.1, fun i a b => by rw [e 141 _ (by omega), e 42 _ (by omega)]; exact r5.2 i a b⟩
  · unfold RC
    rw [ec, e 48 5 (by omega), e4]
    exact ⟨⟨r7, r8⟩, ⟨r9, fun q => hL h h' (fun a i q => e a i (by omega)) (r10 q)⟩, ⟨Int.le_refl _, fun _ => cp⟩⟩
theorem Mq_10 {b P : Int} (b0 : 0 ≤ b) (b10 : b ≤ 10) : ∀ m : Nat, m ≤ 5 → 0 ≤ Mq (fun _ => b) P m ∧ Mq (fun _ => b) P m ≤ 100000 := by
  have k : ∀ m : Nat, m ≤ 5 → 0 ≤ Mq (fun _ => b) P m ∧ Mq (fun _ => b) P m ≤ 10 ^ m := by
    intro m
    induction m with
    | zero => intro _; exact ⟨(by decide : (0 : Int) ≤ 1), (by decide : (1 : Int) ≤ 10 ^ 0)⟩
    | succ m ih =>
      intro hm
      obtain ⟨a, c⟩ := ih (by omega)
      show 0 ≤ Mq (fun _ => b) P m * b ∧ Mq (fun _ => b) P m * b ≤ 10 ^ (m + 1)
      rw [Int.pow_succ]
      exact ⟨Int.mul_nonneg a b0, Int.mul_le_mul c b10 b0 (Int.le_trans a c)⟩
  intro m hm
  obtain ⟨a, c⟩ := k m hm
  refine ⟨a, Int.le_trans c ?_⟩
  rcases (show m = 0 ∨ m = 1 ∨ m = 2 ∨ m = 3 ∨ m = 4 ∨ m = 5 by omega) with rfl | rfl | rfl | rfl | rfl | rfl <;> decide
theorem rq_b {c : Int → Int} {P code : Int} (hc : ∀ p : Int, 0 ≤ p → p < P → 0 < c p) (c0 : 0 ≤ code) : ∀ m : Nat, (m : Int) ≤ P → 0 ≤ rq c P code m ∧ rq c P code m ≤ code
  | 0, _ => ⟨c0, Int.le_refl _⟩
  | m + 1, h => by
    obtain ⟨a, b⟩ := rq_b hc c0 m (by omega)
    have hp := hc (P - 1 - m) (by omega) (by omega)
    show 0 ≤ rq c P code m / c (P - 1 - m) ∧ rq c P code m / c (P - 1 - m) ≤ code
    exact ⟨Int.ediv_nonneg a (by omega), Int.le_trans (Int.ediv_le_self _ a) b⟩
/-- an hour's things laid into the day -/
def Dc (h : fx_H) (hr code x q : Int) : Int := if x = hr ∧ 0 ≤ q ∧ q < h 1 2 then nwc h code q else dF h 4 x q
theorem nwc_v {h : fx_H} {code q : Int} (T0 : 0 ≤ h 1 0) (T9 : h 1 0 ≤ 9) : 0 ≤ nwc h code q ∧ nwc h code q ≤ 9 ∧ (nwc h code q = 9 ∨ nwc h code q < h 1 0) := by
  have := dq_b (c := fun _ => h 1 0 + 1) (P := h 1 2) (code := code) (p := q) (by omega)
  exact mpT_v T0 T9 this.1 (by omega)
theorem Dc_w {h : fx_H} {hr code : Int} (v : TV 1 h) : DW (h 1 0) (Dc h hr code) := fun x q a b a' b' => by
  have T : 0 ≤ h 1 0 ∧ h 1 0 ≤ 9 := by unfold TV at v; exact v.1
  unfold Dc
  by_cases c : x = hr ∧ 0 ≤ q ∧ q < h 1 2
  · rw [if_pos c]; exact nwc_v T.1 T.2
  · rw [if_neg c]; exact DW_town v x q a b a' b'
/-- the reference lays a code -/
theorem lay_rf {h g : fx_H} {hr code : Int} (v : TV 1 h) (r2 : TR2 h g) (r0 : 0 ≤ hr) (r5 : hr < 5) (c0 : 0 ≤ code) (c1 : code ≤ 100000) (hD : ∀ x q : Int, 0 ≤ x → x < 5 → 0 ≤ q → q < 5 → ¬ (x = hr ∧ q < h 1 2) → g 133 (5 * q + x) = de (dF h 4 x q)) : Ret (fx_loop (s_X6_did_3 FU La_167 126 hr) FU (code, h 1 2 - 1, g)) (fun e => (∀ a i : Int, a ≠ 133 → e.2.2 a i = g a i) ∧ HD (Dc h hr code) e.2.2) := by
  have vv := v
  unfold TV at vv
  obtain ⟨⟨v1, v1'⟩, ⟨v2, v2'⟩, ⟨v3, v3'⟩, ⟨v4, v4'⟩, ⟨v5, v5'⟩, -⟩ := vv
  refine loop_ret (fun s => -1 ≤ s.2.1 ∧ s.2.1 ≤ h 1 2 - 1 ∧ s.1 = rq (fun _ => h 1 0 + 1) (h 1 2) code (h 1 2 - 1 - s.2.1).toNat ∧ (∀ a i : Int, ¬ (a = 133 ∧ ∃ q : Int, s.2.1 < q ∧ q < h 1 2 ∧ i = 5 * q + hr) → s.2.2 a i = g a i) ∧ ∀ q : Int, s.2.1 < q → q < h 1 2 → s.2.2 133 (5 * q + hr) = de (nwc h code q)) (fun s => (s.2.1 + 1).toNat) (fun s hs => ?_) FU _ ⟨by show -1 ≤ h 1 2 - 1; omega, Int.le_refl _, by show code = rq _ _ code (h 1 2 - 1 - (h 1 2 - 1)).toNat; rw [show (h 1 2 - 1 - (h 1 2 - 1)).toNat = 0 by omega]; rfl, fun _ _ _ => rfl, fun q a b => by have : h 1 2 - 1 < q := a; omega⟩ (FU_gt (by show (h 1 2 - 1 + 1).toNat < _; omega))
  obtain ⟨rest, p, s⟩ := s
  obtain ⟨s1, s2, s3, s4, s5⟩ := hs
  simp only at s1 s2 s3 s4 s5
  unfold s_X6_did_3
  simp only [lb_tg_126_8]
  by_cases c : 0 ≤ p
  · have rb := rq_b (c := fun _ => h 1 0 + 1) (P := h 1 2) (fun _ _ _ => by omega) c0 (h 1 2 - 1 - p).toNat (by omega)
    rw [← s3] at rb
    have tE : s 127 0 = h 1 0 := by rw [s4 _ _ (by omega)]; exact r2.1
    have dE : rest % (h 1 0 + 1) = dq (fun _ => h 1 0 + 1) (h 1 2) code p := by unfold dq; rw [← s3]
    have db := dq_b (c := fun _ => h 1 0 + 1) (P := h 1 2) (code := code) (p := p) (by omega)
    have nb := nwc_v (h := h) (code := code) (q := p) v1 v1'
    rw [if_pos c, ev_things, Option.bind_some, tE, wid (z := h 1 0 + 1) (by omega) (by omega), rm_ok rb.1 (by omega) (by omega), Option.bind_some, dE, Option.bind_some]
    rw [show (if dq (fun _ => h 1 0 + 1) (h 1 2) code p = h 1 0 then some (-1 : Int) else some (dq (fun _ => h 1 0 + 1) (h 1 2) code p)) = some (de (nwc h code p)) by
      unfold nwc mpT de
      by_cases z : dq (fun _ => h 1 0 + 1) (h 1 2) code p = h 1 0
      · rw [if_pos z, if_pos z, if_pos rfl]
      · rw [if_neg z, if_neg z, if_neg (by omega)], Option.bind_some, wid (z := 5 * p) (by omega) (by omega), wid (z := 5 * p + hr) (by omega) (by omega), wrl lb_ln_133 (by omega) (by omega), Option.bind_some, ev_things, Option.bind_some, up_ne (by omega), tE, wid (z := h 1 0 + 1) (by omega) (by omega), dv_ok rb.1 (by omega) (by omega), Option.bind_some, wid (z := p + -1) (by omega) (by omega)]
    refine Or.inl ⟨_, rfl, ⟨by show -1 ≤ p + -1; omega, by show p + -1 ≤ h 1 2 - 1; omega, ?_, fun a i z => ?_, fun q a b => ?_⟩, by show (p + -1 + 1).toNat < (p + 1).toNat; omega⟩
    · show rest / (h 1 0 + 1) = rq _ _ code (h 1 2 - 1 - (p + -1)).toNat
      rw [show (h 1 2 - 1 - (p + -1)).toNat = (h 1 2 - 1 - p).toNat + 1 by omega, s3]; rfl
    · show fx_up s 133 (5 * p + hr) (de (nwc h code p)) a i = g a i
      have z : ¬ (a = 133 ∧ ∃ q : Int, p + -1 < q ∧ q < h 1 2 ∧ i = 5 * q + hr) := z
      rw [up_ne (by
        by_cases y : a = 133
        · by_cases y2 : i = 5 * p + hr
          · exact absurd ⟨y, p, by omega, by omega, y2⟩ z
          · exact Or.inr y2
        · exact Or.inl y)]
      exact s4 a i (fun y => by
        obtain ⟨y1, q, y2, y3, y4⟩ := y
        exact z ⟨y1, q, by omega, y3, y4⟩)
    · have a : p + -1 < q := a
      show fx_up s 133 (5 * p + hr) (de (nwc h code p)) 133 (5 * q + hr) = _
      by_cases e : q = p
      · rw [up_eq rfl (by omega), e]
      · rw [up_ne (by omega)]; exact s5 q (by omega) b
  · rw [if_neg c]
    refine Or.inr ⟨_, rfl, fun a i z => s4 a i (fun y => z y.1), fun x q a b a' b' => ?_⟩
    show s 133 (5 * q + x) = _
    unfold Dc
    by_cases z : x = hr ∧ 0 ≤ q ∧ q < h 1 2
    · rw [if_pos z, z.1]; exact s5 q (by omega) z.2.2
    · rw [if_neg z, s4 _ _ (fun y => by
        obtain ⟨-, q', y2, y3, y4⟩ := y
        omega)]
      exact hD x q a b a' b' (by omega)
theorem pay_rf {h g : fx_H} {hr code : Int} (v : TV 1 h) (r2 : TR2 h g) (r0 : 0 ≤ hr) (r5 : hr < 5) (hs : SOK (smT h (h 1 1) (-1)) (h 1 0) g) (hD : HD (Dc h hr code) g) : f_X6_pay FU La_167 126 hr g = some (wI h hr code) := by
  have W := Dc_w (hr := hr) (code := code) v
  have vv := v
  unfold TV at vv
  obtain ⟨⟨v1, v1'⟩, ⟨v2, v2'⟩, ⟨v3, v3'⟩, ⟨v4, v4'⟩, ⟨v5, v5'⟩, -⟩ := vv
  obtain ⟨hh1, hh2⟩ := HD_hn hD W v1
  have pE : ∀ p : Int, 0 ≤ p → p < h 1 2 → f_X6_paysOf FU La_167 126 p hr g = some (fnc h hr code p) := fun p a b => by
    rw [rf_pays v r2 (SM_9 _ _) hs hh1 a b r0 r5, hh2 hr p r0 r5 a (by omega)]
    have e1 : ∀ q : Int, 0 ≤ q → q < h 1 2 → Dc h hr code hr q = nwc h code q := fun q x y => by unfold Dc; rw [if_pos ⟨rfl, x, y⟩]
    rw [e1 p a b]
    unfold fnc
    refine congrArg some (FI_congr rfl (fun q x y _ => by rw [hh2 hr q r0 r5 x (by omega), e1 q x y]; exact ⟨rfl, rfl⟩) (fun q x y _ => ?_) ⟨v5, v5'⟩)
    unfold AH
    by_cases c : 0 < hr
    · rw [if_pos c, if_pos c, hh2 (hr - 1) q (by omega) (by omega) x (by omega)]
      unfold Dc
      rw [if_neg (by omega)]
      rfl
    · rw [if_neg c, if_neg c]
      rfl
  unfold f_X6_pay
  have key : Ret (fx_loop (s_X6_pay_1 FU La_167 126 hr g) FU (1, 0)) (fun e => e.1 = wI h hr code) := by
    refine loop_ret (fun s => 0 ≤ s.2 ∧ s.2 ≤ h 1 2 ∧ (s.1 = 0 ∧ wI h hr code = 0 ∨ s.1 = 1 ∧ ∀ p : Int, 0 ≤ p → p < s.2 → fnc h hr code p = h 16 p)) (fun s => (h 1 2 - s.2).toNat) (fun s hs => ?_) FU _ ⟨Int.le_refl 0, by show (0 : Int) ≤ h 1 2; omega, Or.inr ⟨rfl, fun p a b => by have : p < 0 := b; omega⟩⟩ (FU_gt (by show (h 1 2 - 0).toNat < _; omega))
    obtain ⟨is, p⟩ := s
    obtain ⟨s1, s2, s3⟩ := hs
    simp only at s1 s2 s3
    unfold s_X6_pay_1
    simp only [lb_tg_126_0]
    rw [ev_people, Option.bind_some, r2.2.2.1]
    rcases s3 with ⟨i0, w0⟩ | ⟨i1, w1⟩
    · rw [if_neg (fun z => z.2 i0)]
      exact Or.inr ⟨_, rfl, by show is = _; rw [i0, w0]⟩
    · by_cases c : p < h 1 2
      · rw [if_pos ⟨c, by omega⟩, pE p s1 c, Option.bind_some, wid (z := 89 + p) (by omega) (by omega), rd127 (by omega) (by omega), Option.bind_some, r2.2.2.2.2.2.2.2.2.2 p s1 (by omega), wid (z := p + 1) (by omega) (by omega)]
        by_cases z : fnc h hr code p = h 16 p
        · rw [if_pos z, Option.bind_some]
          refine Or.inl ⟨_, rfl, ⟨by show 0 ≤ p + 1; omega, by show p + 1 ≤ h 1 2; omega, Or.inr ⟨rfl, fun x a b => ?_⟩⟩, by show (h 1 2 - (p + 1)).toNat < (h 1 2 - p).toNat; omega⟩
          have b : x < p + 1 := b
          by_cases e : x = p
          · rw [e]; exact z
          · exact w1 x a (by omega)
        · rw [if_neg z, Option.bind_some]
          refine Or.inl ⟨_, rfl, ⟨by show 0 ≤ p + 1; omega, by show p + 1 ≤ h 1 2; omega, Or.inl ⟨rfl, ?_⟩⟩, by show (h 1 2 - (p + 1)).toNat < (h 1 2 - p).toNat; omega⟩
          rcases wI_01 h hr code with y | y
          · exact y
          · exact absurd (wI_1.mp y p s1 c) z
      · rw [if_neg (fun z => c z.1)]
        exact Or.inr ⟨_, rfl, by show is = _; rw [i1, wI_1.mpr (fun p a b => w1 p a (by omega))]⟩
  obtain ⟨⟨is, p⟩, e1, e2⟩ := key
  simp only at e2
  rw [e1, Option.bind_some]
  simp only
  rw [e2, zb_ok (wI_01 h hr code)]
  rfl
theorem rd_hand {h w : fx_H} {hr p code : Int} (k2 : HD (Dc h hr code) w) (p0 : 0 ≤ p) (p1 : p < h 1 2) (P5 : h 1 2 ≤ 5) (r0 : 0 ≤ hr) (r5 : hr < 5) : ((fx_rd La_167 w 133 (fx_w (fx_w (5 * p) + hr))).bind fun v109 => some v109) = some (de (nwc h code p)) := by
  rw [wid (z := 5 * p) (by omega) (by omega), wid (z := 5 * p + hr) (by omega) (by omega), rd133 (by omega) (by omega), k2 hr p r0 (by omega) (by omega) (by omega)]
  unfold Dc
  rw [if_pos ⟨rfl, by omega, by omega⟩]
  rfl
theorem did_rf {h g : fx_H} {hr p : Int} (v : TV 1 h) (r2 : TR2 h g) (r0 : 0 ≤ hr) (r1 : hr < h 1 3) (hp : p = -1 ∨ 0 ≤ p ∧ p < h 1 2) : Ret (f_X6_did FU La_167 126 hr p g) (fun q => (p = -1 → q.1 = sumI (Mq (fun _ => h 1 0 + 1) (h 1 2) (h 1 2).toNat).toNat (wI h hr)) ∧ (¬ p = -1 → (sumI (Mq (fun _ => h 1 0 + 1) (h 1 2) (h 1 2).toNat).toNat (wI h hr) = 0 ∧ q.1 = -5) ∨ ∃ c1 : Int, 0 ≤ c1 ∧ c1 < Mq (fun _ => h 1 0 + 1) (h 1 2) (h 1 2).toNat ∧ wI h hr c1 = 1 ∧ (∀ c' : Int, 0 ≤ c' → c' < c1 → wI h hr c' = 0) ∧ q.1 = nwc h c1 p) ∧ ∀ a i : Int, ¬ (131 ≤ a ∧ a ≤ 140) → q.2 a i = g a i) := by
  have vv := v
  unfold TV at vv
  obtain ⟨⟨v1, v1'⟩, ⟨v2, v2'⟩, ⟨v3, v3'⟩, ⟨v4, v4'⟩, ⟨v5, v5'⟩, -⟩ := vv
  have g2 : g 127 10 = h 1 2 := r2.2.2.1
  have g3 : g 127 11 = h 1 3 := r2.2.2.2.1
  have r5' : hr < 5 := by omega
  have hp' : ¬ p = -1 → 0 ≤ p ∧ p < h 1 2 := fun z => by
    rcases hp with y | y
    · exact absurd y z
    · exact y
  unfold f_X6_did
  rw [ev_isHour (by omega) (by omega), g3, Option.bind_some, if_pos (show 0 ≤ hr ∧ hr < h 1 3 from ⟨r0, r1⟩), if_neg (show ¬ (1 : Int) = 0 by decide), ev_isOne (by omega) (by omega), g2, Option.bind_some]
  rw [show (if ¬ p = -1 then (if (if 0 ≤ p ∧ p < h 1 2 then (1 : Int) else 0) = 0 then some true else some false) else some false) = some false by
    rcases hp with z | z
    · rw [if_neg (not_not_intro z)]
    · rw [if_pos (by omega), if_pos z, if_neg (by decide)], Option.bind_some, if_neg (by decide)]
  obtain ⟨g1, e1, e2, e3⟩ := layNow_ok v r2
  obtain ⟨g4, e4, e5, e6⟩ := takeDone_ok (g := g1)
  have r21 : TR2 h g1 := TR2_congr (fun i => e2 _ _ (by omega) (by omega)) r2
  have r22 : TR2 h g4 := TR2_congr (fun i => e5 _ _ (by omega)) r21
  have s4 := SOK_congr (g' := g4) (fun i => e5 _ _ (by omega)) e3
  have MB := Mq_10 (b := h 1 0 + 1) (P := h 1 2) (by omega) (by omega)
  have cd : ∃ x : Int, fx_loop (s_X6_did_1 FU La_167 126 g4) FU (1, 0) = some (Mq (fun _ => h 1 0 + 1) (h 1 2) (h 1 2).toNat, x) := by
    refine ⟨((h 1 2).toNat : Int), ?_⟩
    have key := loop_seq (step := s_X6_did_1 FU La_167 126 g4) (fun j => (Mq (fun _ => h 1 0 + 1) (h 1 2) j, (j : Int))) (h 1 2).toNat (e := (Mq (fun _ => h 1 0 + 1) (h 1 2) (h 1 2).toNat, ((h 1 2).toNat : Int))) (fun j hj => by
      have b1 := MB (j + 1) (by omega)
      have b2 : Mq (fun _ => h 1 0 + 1) (h 1 2) (j + 1) = Mq (fun _ => h 1 0 + 1) (h 1 2) j * (h 1 0 + 1) := rfl
      unfold s_X6_did_1
      simp only
      rw [ev_people, Option.bind_some, r22.2.2.1, if_pos (by omega), ev_things, Option.bind_some, r22.1, wid (z := h 1 0 + 1) (by omega) (by omega), wid (by omega) (by omega), wid (by omega) (by omega)]; rfl) (by
      unfold s_X6_did_1
      simp only
      rw [ev_people, Option.bind_some, r22.2.2.1, if_neg (by omega)]) (Fu := FU) (FU_gt (by omega))
    exact key
  obtain ⟨xx, cd⟩ := cd
  rw [e1, Option.bind_some, e4, Option.bind_some, cd, Option.bind_some]
  simp only
  have NB := MB (h 1 2).toNat (by omega)
  generalize Mq (fun _ => h 1 0 + 1) (h 1 2) (h 1 2).toNat = N at NB
  have wb : ∀ i : Int, 0 ≤ wI h hr i ∧ wI h hr i ≤ 1 := fun i => by rcases wI_01 h hr i with z | z <;> omega
  refine Ret.bind (Ret.mono (loop_ix (fun s => s.2.2.1) (fun c s => s.1 = sumI c.toNat (wI h hr) ∧ (s.1 = 0 ∧ s.2.1 = -5 ∨ ∃ c1 : Int, 0 ≤ c1 ∧ c1 < c ∧ wI h hr c1 = 1 ∧ (∀ c' : Int, 0 ≤ c' → c' < c1 → wI h hr c' = 0) ∧ (¬ p = -1 → s.2.1 = nwc h c1 p) ∧ 0 < s.1) ∧ (∀ a i : Int, a ≠ 133 → s.2.2.2 a i = g4 a i) ∧ (∀ x q : Int, 0 ≤ x → x < 5 → 0 ≤ q → q < 5 → ¬ (x = hr ∧ q < h 1 2) → s.2.2.2 133 (5 * q + x) = de (dF h 4 x q))) N (i := 0) (Q := fun s => s.1 = sumI N.toNat (wI h hr) ∧ (s.1 = 0 ∧ s.2.1 = -5 ∨ ∃ c1 : Int, 0 ≤ c1 ∧ c1 < N ∧ wI h hr c1 = 1 ∧ (∀ c' : Int, 0 ≤ c' → c' < c1 → wI h hr c' = 0) ∧ (¬ p = -1 → s.2.1 = nwc h c1 p) ∧ 0 < s.1) ∧ (∀ a i : Int, a ≠ 133 → s.2.2.2 a i = g4 a i)) (FU_gt (by omega)) rfl NB.1 (by
    refine ⟨rfl, Or.inl ⟨rfl, rfl⟩, fun _ _ _ => rfl, fun x q a b a' b' _ => ?_⟩
    show g4 133 (5 * q + x) = _
    rw [e6 _ (by omega) (by omega), show (19 : Int) + (5 * q + x) = 19 + 5 * q + x by omega, r21.2.2.2.2.2.2.2.1 x q a b a' b']; rfl) (fun j s ej b1 b2 ⟨i1, i2, i3, i4⟩ => ?_) (fun s es i => ?_)) (fun w hw => ?_))
  · obtain ⟨m, f, cdd, s⟩ := s
    simp only at ej i1 i2 i3 i4
    subst ej
    have rs : TR2 h s := TR2_congr (fun i => i3 _ _ (by omega)) r22
    obtain ⟨⟨x, y, w⟩, e7, k1, k2⟩ := lay_rf (g := s) (code := cdd) v rs r0 (by omega) b1 (by omega) i4
    simp only at k1 k2
    have rw2 : TR2 h w := TR2_congr (fun i => k1 _ _ (by omega)) rs
    have sE : sumI (cdd + 1).toNat (wI h hr) = sumI cdd.toNat (wI h hr) + wI h hr cdd := by rw [show (cdd + 1).toNat = cdd.toNat + 1 by omega, sumI_succ, show ((cdd.toNat : Nat) : Int) = cdd by omega]
    have s0 : 0 ≤ sumI cdd.toNat (wI h hr) := sumI_nn (fun i _ _ => (wb i).1)
    have s1 := sumI_le (n := cdd.toNat) (f := wI h hr) (c := 1) (fun i _ _ => (wb i).2)
    have nd : ∀ x q : Int, 0 ≤ x → x < 5 → 0 ≤ q → q < 5 → ¬ (x = hr ∧ q < h 1 2) → w 133 (5 * q + x) = de (dF h 4 x q) := fun x q a b a' b' z => by
      rw [k2 x q a b a' b']
      unfold Dc
      rw [if_neg (by omega)]
    unfold s_X6_did_2
    simp only [lb_tg_126_8]
    rw [if_pos b2, ev_people, Option.bind_some, rs.2.2.1, wid (z := h 1 2 - 1) (by omega) (by omega), e7, Option.bind_some]
    simp only
    rw [pay_rf v rw2 r0 (by omega) (SOK_congr (fun i => by rw [k1 _ _ (by omega), i3 _ _ (by omega)]) s4) k2, Option.bind_some, wid (z := cdd + 1) (by omega) (by omega)]
    rcases wI_01 h hr cdd with z | z
    · rw [if_neg (not_not_intro z)]
      refine ⟨_, rfl, rfl, by show m = _; rw [sE, z]; omega, ?_, fun a i y => by show w a i = _; rw [k1 a i y]; exact i3 a i y, nd⟩
      rcases i2 with q | ⟨c1, q1, q2, q3, q4, q5, q6⟩
      · exact Or.inl q
      · exact Or.inr ⟨c1, q1, by omega, q3, q4, q5, q6⟩
    · rw [if_pos (show ¬ wI h hr cdd = 0 by omega)]
      have tv : ∃ tt : Int, (if p = -1 then some (-1 : Int) else (fx_rd La_167 w 133 (fx_w (fx_w (5 * p) + hr))).bind fun v109 => some v109) = some tt ∧ (¬ p = -1 → en tt = nwc h cdd p) := by
        by_cases y : p = -1
        · exact ⟨-1, by rw [if_pos y], fun q => absurd y q⟩
        · refine ⟨de (nwc h cdd p), ?_, fun _ => en_de (nwc_v (h := h) (code := cdd) (q := p) v1 v1').1⟩
          rw [if_neg y]
          exact rd_hand k2 (hp' y).1 (hp' y).2 v3' r0 r5'
      obtain ⟨tt, t1, t2⟩ := tv
      rw [t1, Option.bind_some, wid (z := m + 1) (by omega) (by omega)]
      by_cases y : 0 < m
      · rw [if_pos y, Option.bind_some]
        refine ⟨_, rfl, rfl, by show m + 1 = _; rw [sE, z]; omega, ?_, fun a i y => by show w a i = _; rw [k1 a i y]; exact i3 a i y, nd⟩
        rcases i2 with q | ⟨c1, q1, q2, q3, q4, q5, q6⟩
        · omega
        · exact Or.inr ⟨c1, q1, by omega, q3, q4, q5, by show 0 < m + 1; omega⟩
      · rw [if_neg y, show (if tt = -1 then some (9 : Int) else some tt) = some (en tt) by unfold en; split <;> rfl]
        simp only [Option.bind_some]
        refine ⟨_, rfl, rfl, by show m + 1 = _; rw [sE, z]; omega, Or.inr ⟨cdd, b1, by omega, z, fun c' a b => ?_, t2, by show 0 < m + 1; omega⟩, fun a i y => by show w a i = _; rw [k1 a i y]; exact i3 a i y, nd⟩
        rcases wI_01 h hr c' with q | q
        · exact q
        · exfalso
          have := sumI_nn (n := cdd.toNat) (f := fun i => if i = c' then 0 else wI h hr i) (fun i _ _ => by
            have := (wb i).1
            split <;> omega)
          rw [sumI_at (p := c') a (by omega), q] at i1
          omega
  · obtain ⟨m, f, cdd, s⟩ := s
    simp only at es
    unfold s_X6_did_2
    simp only
    rw [if_neg (by omega)]
    exact ⟨_, rfl, i.1, i.2.1, i.2.2.1⟩
  · obtain ⟨m, f, cdd, s⟩ := w
    obtain ⟨i1, i2, i3⟩ := hw
    simp only at i1 i2 i3 ⊢
    have fr : ∀ a i : Int, ¬ (131 ≤ a ∧ a ≤ 140) → s a i = g a i := fun a i z => by rw [i3 a i (by omega), e5 a i (by omega), e2 a i (by omega) (by omega)]
    by_cases z : p = -1
    · rw [if_pos z]
      exact Ret.ok ⟨fun _ => i1, fun q => absurd z q, fr⟩
    · rw [if_neg z]
      refine Ret.ok ⟨fun q => absurd q z, fun _ => ?_, fr⟩
      rcases i2 with ⟨q1, q2⟩ | ⟨c1, q1, q2, q3, q4, q5, q6⟩
      · exact Or.inl ⟨by rw [← i1]; exact q1, q2⟩
      · exact Or.inr ⟨c1, q1, q2, q3, q4, q5 z⟩
