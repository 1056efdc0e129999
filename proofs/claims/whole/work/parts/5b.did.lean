-- needs: 5a
/-! ===== what all did ===== -/
def mpT (T v : Int) : Int := if v = T then 9 else v
def NXA (k : Int) : Int := fx_tab 1 k.toNat
theorem NXA_v {k : Int} (h0 : 0 ≤ k) (h5 : k ≤ 5) : fx_rt 1 k = some (NXA k) := by
  unfold fx_rt NXA
  rw [if_pos (by omega)]
theorem NXA_c {k : Int} (h0 : 0 ≤ k) (h5 : k ≤ 5) : (k = 0 → NXA k = 1) ∧ (k = 1 → NXA k = 2) ∧ (k = 2 → NXA k = 8) ∧ (k = 3 → NXA k = 0) ∧ (k = 4 → NXA k = 2) ∧ (k = 5 → NXA k = 0) := by
  rcases (show k = 0 ∨ k = 1 ∨ k = 2 ∨ k = 3 ∨ k = 4 ∨ k = 5 by omega) with rfl | rfl | rfl | rfl | rfl | rfl <;> decide
/-- people up to last are told, others do nothing yet -/
theorem FI_some {sm ah n0 nw : Int → Int} {k P ri q last : Int} (k0 : 0 ≤ k) (k5 : k ≤ 5) (P5 : P ≤ 5) (q0 : 0 ≤ q) (ql : q ≤ last) (lP : last < P) (hri : 0 ≤ ri ∧ ri < P) (e1 : ∀ x : Int, 0 ≤ x → x ≤ last → n0 x = nw x) (e2 : ∀ x : Int, last < x → x < P → n0 x = 9) : FI sm k nw ah P ri q (nw q) ≤ FI sm k n0 ah P ri q (nw q) + (P - 1 - last) * NXA k ∧ (FI sm k n0 ah P ri q (nw q) ≤ FI sm k nw ah P ri q (nw q) ∨ k = 2 ∧ 0 < P - 1 - last) := by
  have g1 : ∀ x : Int, 0 ≤ x → x ≤ last → gr sm k n0 q (nw q) x = gr sm k nw q (nw q) x := fun x a b => by unfold gr; rw [e1 x a b]
  have g2 : ∀ x : Int, last < x → x < P → gr sm k n0 q (nw q) x = 0 := fun x a b => by
    unfold gr
    rw [if_neg (fun z => by have := z.2.2; rw [e2 x a b] at this; omega)]
  have o1 : oth sm k nw P q (nw q) = oth sm k n0 P q (nw q) + sumI P.toNat (fun x => if last < x then gr sm k nw q (nw q) x else 0) := by
    unfold oth
    rw [← sumI_add]
    refine sumI_congr (fun x a b => ?_)
    by_cases c : last < x
    · rw [if_pos c, g2 x c (by omega)]; omega
    · rw [if_neg c, g1 x a (by omega)]; omega
  have ex0 : 0 ≤ sumI P.toNat (fun x => if last < x then gr sm k nw q (nw q) x else 0) := sumI_nn (fun x _ _ => by
    have := gr_01 sm k nw q (nw q) x
    split <;> omega)
  have ex1 : sumI P.toNat (fun x => if last < x then gr sm k nw q (nw q) x else 0) ≤ P - 1 - last := by
    have h1 := sumI_mono (n := P.toNat) (f := fun x => if last < x then gr sm k nw q (nw q) x else 0) (g := fun x => if last < x then 1 else 0) (fun x _ _ => by
      have := gr_01 sm k nw q (nw q) x
      by_cases c : last < x
      · simp only [if_pos c]; omega
      · simp only [if_neg c]; omega)
    have h2 : ∀ m : Nat, (m : Int) ≤ P → sumI m (fun x => if last < x then (1 : Int) else 0) = if (m : Int) ≤ last then 0 else m - 1 - last := by
      intro m
      induction m with
      | zero => intro _; rw [if_pos (by omega)]; rfl
      | succ m ih =>
        intro hm
        rw [sumI_succ, ih (by omega)]
        by_cases c : last < (m : Int)
        · rw [if_pos c, if_neg (by omega), if_neg (by omega)]; omega
        · rw [if_neg c]
          split <;> split <;> omega
    rw [h2 P.toNat (by omega), if_neg (by omega)] at h1
    omega
  have l1 : les sm k n0 P q (nw q) = les sm k nw P q (nw q) := sumI_congr (fun x a b => by
    unfold gl
    by_cases c : x < q
    · rw [if_pos c, if_pos c, g1 x a (by omega)]
    · rw [if_neg c, if_neg c])
  have ol := oth_lt (sm := sm) (k := k) (nw := nw) (t := nw q) q0 (show q < P by omega)
  have ob := oth_b (sm := sm) (k := k) (nw := n0) (P := P) (p := q) (t := nw q) (by omega)
  obtain ⟨x0, x1, x2, x3, x4, x5⟩ := NXA_c k0 k5
  generalize hE : sumI P.toNat (fun x => if last < x then gr sm k nw q (nw q) x else 0) = e at *
  generalize hO : oth sm k n0 P q (nw q) = o at *
  unfold FI
  by_cases hf : fnd k (nw q)
  · rw [if_neg (not_not_intro hf), if_neg (not_not_intro hf), hO, o1, l1]
    by_cases c1 : k = 1 ∨ k = 4
    · rw [if_pos c1, if_pos c1]
      have : NXA k = 2 := by rcases c1 with c | c; exact x1 c; exact x4 c
      rw [this]; omega
    · rw [if_neg c1, if_neg c1]
      by_cases c2 : k = 2
      · rw [if_pos c2, if_pos c2, x2 c2]
        by_cases c3 : q = ri
        · rw [if_pos (Or.inl c3), if_pos c3, if_pos (Or.inl c3), if_pos c3]
          have hb : (o + e + 1) * (o + e) ≤ (o + 1) * o + (P - 1 - last) * 8 ∧ (o + 1) * o ≤ (o + e + 1) * (o + e) := by
            rcases (show o = 0 ∨ o = 1 ∨ o = 2 ∨ o = 3 ∨ o = 4 by omega) with rfl | rfl | rfl | rfl | rfl <;>
            rcases (show e = 0 ∨ e = 1 ∨ e = 2 ∨ e = 3 ∨ e = 4 by omega) with rfl | rfl | rfl | rfl | rfl <;> omega
          exact ⟨hb.1, Or.inl hb.2⟩
        · by_cases c4 : last < ri
          · rw [g2 ri c4 hri.2, if_neg (show ¬ (q = ri ∨ (0 : Int) = 1) by omega)]
            refine ⟨?_, Or.inr ⟨c2, by omega⟩⟩
            split <;> (try rw [if_neg c3]) <;> omega
          · rw [g1 ri hri.1 (by omega)]
            by_cases c5 : q = ri ∨ gr sm k nw q (nw q) ri = 1
            · rw [if_pos c5, if_pos c5, if_neg c3, if_neg c3]; omega
            · rw [if_neg c5, if_neg c5]; omega
      · rw [if_neg c2, if_neg c2]
        by_cases c3 : k = 3
        · rw [if_pos c3, if_pos c3, x3 c3]; omega
        · rw [if_neg c3, if_neg c3]
          by_cases c5 : k = 5
          · rw [if_pos c5, if_pos c5, x5 c5]; omega
          · rw [if_neg c5, if_neg c5, x0 (by omega)]; omega
  · rw [if_pos hf, if_pos hf]
    have : 0 ≤ (P - 1 - last) * NXA k := Int.mul_nonneg (by omega) (by omega)
    omega
/-- the thing of each, by a code -/
def nwc (h : fx_H) (code q : Int) : Int := mpT (h 1 0) (dq (fun _ => h 1 0 + 1) (h 1 2) code q)
def fnc (h : fx_H) (hr code p : Int) : Int := FI (smT h (h 1 1) (-1)) (kdF h hr) (nwc h code) (AH (dF h 4) hr) (h 1 2) (h 1 4) p (nwc h code p)
/-- 1, if a code's fines are as told -/
def wI (h : fx_H) (hr code : Int) : Int := if sumI (h 1 2).toNat (fun p => if fnc h hr code p = h 16 p then 0 else 1) = 0 then 1 else 0
theorem wI_01 (h : fx_H) (hr code : Int) : wI h hr code = 0 ∨ wI h hr code = 1 := by unfold wI; split <;> omega
theorem wI_1 {h : fx_H} {hr code : Int} : wI h hr code = 1 ↔ ∀ p : Int, 0 ≤ p → p < h 1 2 → fnc h hr code p = h 16 p := by
  have nn : ∀ x : Int, (0 : Int) ≤ (if fnc h hr code x = h 16 x then 0 else 1) := fun x => by split <;> omega
  constructor
  · intro w p p0 p1
    unfold wI at w
    by_cases c : sumI (h 1 2).toNat (fun p => if fnc h hr code p = h 16 p then 0 else 1) = 0
    · by_cases z : fnc h hr code p = h 16 p
      · exact z
      · exfalso
        rw [sumI_at (p := p) p0 (by omega), if_neg z] at c
        have := sumI_nn (n := (h 1 2).toNat) (f := fun i => if i = p then 0 else (if fnc h hr code i = h 16 i then (0 : Int) else 1)) (fun i _ _ => by
          by_cases y : i = p
          · rw [if_pos y]; exact Int.le_refl 0
          · rw [if_neg y]; exact nn i)
        omega
    · rw [if_neg c] at w; omega
  · intro w
    unfold wI
    rw [if_pos (sum_zero (fun i a b => by rw [if_pos (w i a (by omega))]))]
/-- the class's look at a beginning -/
def chk (h s : fx_H) (hr last : Int) : Prop := ∀ q : Int, 0 ≤ q → q ≤ last → ¬ (FI (smT h (h 1 1) (-1)) (kdF h hr) (s 86) (AH (dF h 4) hr) (h 1 2) (h 1 4) q (s 86 q) + (h 1 2 - 1 - last) * NXA (kdF h hr) < h 16 q) ∧ ¬ (h 16 q < FI (smT h (h 1 1) (-1)) (kdF h hr) (s 86) (AH (dF h 4) hr) (h 1 2) (h 1 4) q (s 86 q) ∧ ¬ (kdF h hr = 2 ∧ 0 < h 1 2 - 1 - last))
theorem mayHavePaid_ok {h s : fx_H} {hr last : Int} (v : TV 1 h) (hC : CT (smT h (h 1 1) (-1)) (h 1 0) (h 1 2) (h 1 4) s) (ef : ∀ a i : Int, 1 ≤ a → a ≤ 19 → s a i = h a i) (hs : ∀ q : Int, 0 ≤ q → q < 5 → 0 ≤ s 86 q ∧ s 86 q ≤ 9 ∧ (s 86 q = 9 ∨ s 86 q < h 1 0)) (r0 : 0 ≤ hr) (r5 : hr < 5) (l0 : 0 ≤ last) (l1 : last < h 1 2) : Ret (f_X2_mayHavePaid FU La_167 84 1 43 hr last s) (fun x => (x = 0 ∨ x = 1) ∧ (x = 1 ↔ chk h s hr last)) := by
  have vs : TV 1 s := TV_congr (fun a i _ _ => ef a i (by omega) (by omega)) v
  have kE : kdF s hr = kdF h hr := by unfold kdF; rw [ef _ _ (by omega) (by omega)]
  have kb := kdF_b (hr := hr) v
  have vv := v
  unfold TV at vv
  obtain ⟨⟨v1, v1'⟩, ⟨v2, v2'⟩, ⟨v3, v3'⟩, ⟨v4, v4'⟩, ⟨v5, v5'⟩, -, -, -, -, -, -, v12, -⟩ := vv
  have nb := NXA_c kb.1 kb.2
  unfold f_X2_mayHavePaid
  simp only [tc_tg_8 TC_1]
  rw [ev_kindOf vs, Option.bind_some, kE, show (1 : Int) + 3 = 4 from rfl, ev_aheadOf dc_4, Option.bind_some, ef 1 2 (by omega) (by omega), wid (z := h 1 2 - 1) (by omega) (by omega), wid (z := h 1 2 - 1 - last) (by omega) (by omega)]
  rw [show (if kdF h hr = 2 ∧ 0 < h 1 2 - 1 - last then some (1 : Int) else some 0) = some (if kdF h hr = 2 ∧ 0 < h 1 2 - 1 - last then 1 else 0) by split <;> rfl, Option.bind_some]
  obtain ⟨c1, c2, c3, c4⟩ := hC
  have D4 : DOK (h 1 0) s 4 := DOK_congr (h := h) (fun a i x y => ef a i (by omega) (by omega)) (DOK_town v)
  have fE : ∀ q : Int, 0 ≤ q → q < h 1 2 → f_X0_fine FU La_167 43 (kdF h hr) 86 (ahc 4 hr) q (s 86 q) s = some (FI (smT h (h 1 1) (-1)) (kdF h hr) (s 86) (AH (dF h 4) hr) (h 1 2) (h 1 4) q (s 86 q)) := fun q a b => by
    rw [ev_fine c1 c2 (by omega) v3' lb_ln_86 (ahc_ln dc_4) (fun x y z => by have := hs x y (by omega); omega) (fun x y z => by have := ahc_v D4 c3 r0 r5 y (show x < 5 by omega); omega) (by have := hs q a (by omega); omega) ⟨v5, v5'⟩]
    refine congrArg some (FI_congr (c4 _ (by have := hs q a (by omega); omega)) (fun x y z _ => ⟨rfl, c4 _ (by have := hs x y (by omega); omega)⟩) (fun x y z _ => ?_) ⟨v5, v5'⟩)
    have := ahc_v D4 c3 r0 r5 y (show x < 5 by omega)
    rw [this.1, c4 _ (by omega)]
    congr 1
    unfold AH dF
    by_cases w : 0 < hr
    · rw [if_pos w, if_pos w, ef _ _ (by omega) (by omega)]
    · rw [if_neg w, if_neg w]
  have key : Ret (fx_loop (s_X2_mayHavePaid_1 FU La_167 84 1 43 last (kdF h hr) (ahc 4 hr) (h 1 2 - 1 - last) (if kdF h hr = 2 ∧ 0 < h 1 2 - 1 - last then 1 else 0) s) FU 0) (fun e => (∃ r : Int, e = .inl r ∧ chk h s hr last) ∨ (e = .inr 0 ∧ ¬ chk h s hr last)) := by
    refine loop_ret (fun q => 0 ≤ q ∧ q ≤ last + 1 ∧ ∀ x : Int, 0 ≤ x → x < q → ¬ (FI (smT h (h 1 1) (-1)) (kdF h hr) (s 86) (AH (dF h 4) hr) (h 1 2) (h 1 4) x (s 86 x) + (h 1 2 - 1 - last) * NXA (kdF h hr) < h 16 x) ∧ ¬ (h 16 x < FI (smT h (h 1 1) (-1)) (kdF h hr) (s 86) (AH (dF h 4) hr) (h 1 2) (h 1 4) x (s 86 x) ∧ ¬ (kdF h hr = 2 ∧ 0 < h 1 2 - 1 - last))) (fun q => (last + 1 - q).toNat) (fun q hq => ?_) FU 0 ⟨by omega, by omega, fun x a b => by omega⟩ (FU_gt (by omega))
    obtain ⟨q0, q1, q2⟩ := hq
    unfold s_X2_mayHavePaid_1
    simp only [lb_tg_84_2, tc_tg_10 TC_1]
    by_cases z : q ≤ last
    · have fb := FI_b (sm := smT h (h 1 1) (-1)) (k := kdF h hr) (nw := s 86) (ah := AH (dF h 4) hr) (P := h 1 2) (ri := h 1 4) (p := q) (t := s 86 q) q0 (by omega) v3'
      have mb : 0 ≤ (h 1 2 - 1 - last) * NXA (kdF h hr) ∧ (h 1 2 - 1 - last) * NXA (kdF h hr) ≤ 5 * 8 := ⟨Int.mul_nonneg (by omega) (by omega), Int.mul_le_mul (by omega) (by omega) (by omega) (by omega)⟩
      rw [if_pos z, rdl lb_ln_86 q0 (by omega), Option.bind_some, fE q q0 (by omega), Option.bind_some, NXA_v kb.1 kb.2, Option.bind_some, show (1 : Int) + 15 = 16 from rfl, rdl lb_ln_16 q0 (by omega), Option.bind_some, Option.bind_some, ef 16 q (by omega) (by omega), wid (z := (h 1 2 - 1 - last) * NXA (kdF h hr)) (by omega) (by omega), wid (z := FI (smT h (h 1 1) (-1)) (kdF h hr) (s 86) (AH (dF h 4) hr) (h 1 2) (h 1 4) q (s 86 q) + (h 1 2 - 1 - last) * NXA (kdF h hr)) (by omega) (by omega), wid (z := q + 1) (by omega) (by omega)]
      by_cases y1 : FI (smT h (h 1 1) (-1)) (kdF h hr) (s 86) (AH (dF h 4) hr) (h 1 2) (h 1 4) q (s 86 q) + (h 1 2 - 1 - last) * NXA (kdF h hr) < h 16 q
      · rw [if_pos y1, Option.bind_some, if_pos rfl]
        exact Or.inr ⟨_, rfl, Or.inr ⟨rfl, fun w => (w q q0 z).1 y1⟩⟩
      · rw [if_neg y1]
        by_cases y2 : h 16 q < FI (smT h (h 1 1) (-1)) (kdF h hr) (s 86) (AH (dF h 4) hr) (h 1 2) (h 1 4) q (s 86 q)
        · rw [if_pos y2]
          by_cases y3 : kdF h hr = 2 ∧ 0 < h 1 2 - 1 - last
          · rw [if_pos y3, if_neg (show ¬ (1 : Int) = 0 by decide), Option.bind_some, if_neg (by decide)]
            refine Or.inl ⟨_, rfl, ⟨by omega, by omega, fun x a b => ?_⟩, by omega⟩
            by_cases e : x = q
            · rw [e]; exact ⟨y1, fun w => w.2 y3⟩
            · exact q2 x a (by omega)
          · rw [if_neg y3, if_pos rfl, Option.bind_some, if_pos rfl]
            exact Or.inr ⟨_, rfl, Or.inr ⟨rfl, fun w => (w q q0 z).2 ⟨y2, y3⟩⟩⟩
        · rw [if_neg y2, Option.bind_some, if_neg (by decide)]
          refine Or.inl ⟨_, rfl, ⟨by omega, by omega, fun x a b => ?_⟩, by omega⟩
          by_cases e : x = q
          · rw [e]; exact ⟨y1, fun w => y2 w.1⟩
          · exact q2 x a (by omega)
    · rw [if_neg z]
      exact Or.inr ⟨_, rfl, Or.inl ⟨q, rfl, fun x a b => q2 x a (by omega)⟩⟩
  obtain ⟨e, e1, k⟩ := key
  rw [e1, Option.bind_some]
  rcases k with ⟨r, rfl, k⟩ | ⟨rfl, k⟩
  · exact Ret.ok ⟨Or.inr rfl, ⟨fun _ => k, fun _ => rfl⟩⟩
  · exact Ret.ok ⟨Or.inl rfl, ⟨fun z => absurd (show (0 : Int) = 1 from z) (by decide), fun z => absurd z k⟩⟩
