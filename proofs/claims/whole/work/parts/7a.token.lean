-- needs: 6h
/-! ===== tokens ===== -/
abbrev LT (x : Int) : Prop := 97 ≤ x ∧ x ≤ 122
abbrev FG (x : Int) : Prop := 48 ≤ x ∧ x ≤ 57
theorem fxb_v {x : Int} (h0 : 0 ≤ x) (h1 : x ≤ 255) : (fx_b x = x ∧ x < 128) ∨ (fx_b x = x - 256 ∧ 128 ≤ x) := by
  rw [fxb_eq]
  have e : x % 256 = x := Int.emod_eq_of_lt h0 (by omega)
  unfold Int.bmod
  simp only
  by_cases c : x < 128
  · refine Or.inl ⟨?_, c⟩
    rw [if_pos (by omega)]; omega
  · refine Or.inr ⟨?_, by omega⟩
    rw [if_neg (by omega)]; omega
def TOK (b : Int → Int) (len pos a e ty : Int) : Prop := pos ≤ a ∧ a ≤ len ∧ (∀ i : Int, pos ≤ i → i < a → b i = 32) ∧ (a < len → ¬ b a = 32) ∧ ((a = len ∧ e = len ∧ ty = 0) ∨ (a < len ∧ LT (b a) ∧ a < e ∧ e ≤ len ∧ (∀ i : Int, a ≤ i → i < e → LT (b i)) ∧ (e < len → ¬ LT (b e)) ∧ ty = 1) ∨ (a < len ∧ FG (b a) ∧ a < e ∧ e ≤ len ∧ (∀ i : Int, a ≤ i → i < e → FG (b i)) ∧ (e < len → ¬ FG (b e)) ∧ ty = if e = a + 1 then 2 else 4) ∨ (a < len ∧ ¬ LT (b a) ∧ ¬ FG (b a) ∧ e = a + 1 ∧ ty = if b a = 59 then 3 else 4))
theorem run_one {Q : Int → Prop} {len a e e' : Int} (h1 : a < e) (h2 : e ≤ len) (h3 : ∀ i : Int, a ≤ i → i < e → Q i) (h4 : e < len → ¬ Q e) (h1' : a < e') (h2' : e' ≤ len) (h3' : ∀ i : Int, a ≤ i → i < e' → Q i) (h4' : e' < len → ¬ Q e') : e = e' := by
  by_cases c : e < e'
  · exact absurd (h3' e (by omega) c) (h4 (by omega))
  · by_cases c2 : e' < e
    · exact absurd (h3 e' (by omega) c2) (h4' (by omega))
    · omega
theorem TOK_one {b : Int → Int} {len pos a e ty a' e' ty' : Int} (h : TOK b len pos a e ty) (h' : TOK b len pos a' e' ty') : a = a' ∧ e = e' ∧ ty = ty' := by
  obtain ⟨x1, x2, x3, x4, x5⟩ := h
  obtain ⟨y1, y2, y3, y4, y5⟩ := h'
  have ae : a = a' := by
    by_cases c : a < a'
    · exact absurd (y3 a x1 c) (x4 (by omega))
    · by_cases c2 : a' < a
      · exact absurd (x3 a' y1 c2) (y4 (by omega))
      · omega
  subst ae
  refine ⟨rfl, ?_⟩
  rcases x5 with ⟨z1, z2, z3⟩ | ⟨z1, z2, z3, z4, z5, z6, z7⟩ | ⟨z1, z2, z3, z4, z5, z6, z7⟩ | ⟨z1, z2, z3, z4, z5⟩
  · rcases y5 with ⟨w1, w2, w3⟩ | ⟨w1, -⟩ | ⟨w1, -⟩ | ⟨w1, -⟩
    · exact ⟨by omega, by omega⟩
    · omega
    · omega
    · omega
  · rcases y5 with ⟨w1, -⟩ | ⟨w1, w2, w3, w4, w5, w6, w7⟩ | ⟨w1, w2, -⟩ | ⟨w1, w2, -⟩
    · omega
    · exact ⟨run_one (Q := fun i => LT (b i)) z3 z4 z5 z6 w3 w4 w5 w6, by omega⟩
    · omega
    · exact absurd z2 w2
  · rcases y5 with ⟨w1, -⟩ | ⟨w1, w2, -⟩ | ⟨w1, w2, w3, w4, w5, w6, w7⟩ | ⟨w1, w2, w3, -⟩
    · omega
    · omega
    · have e1 := run_one (Q := fun i => FG (b i)) z3 z4 z5 z6 w3 w4 w5 w6
      exact ⟨e1, by rw [z7, w7, e1]⟩
    · exact absurd z2 w3
  · rcases y5 with ⟨w1, -⟩ | ⟨w1, w2, -⟩ | ⟨w1, w2, -⟩ | ⟨w1, w2, w3, w4, w5⟩
    · omega
    · exact absurd w2 z2
    · exact absurd w2 z3
    · exact ⟨by omega, by rw [z5, w5]⟩
/-- the bytes, in the class and in the reference -/
def BC (b : Int → Int) (len : Int) (s : fx_H) : Prop := s 41 1 = len ∧ ∀ i : Int, 0 ≤ i → i < len → s 42 i = fx_b (b i)
def BR (b : Int → Int) (len : Int) (g : fx_H) : Prop := g 126 17 = len ∧ ∀ i : Int, 0 ≤ i → i < len → g 141 i = b i
def BB (b : Int → Int) (len : Int) : Prop := 0 ≤ len ∧ len ≤ 250 ∧ ∀ i : Int, 0 ≤ i → i < len → 0 ≤ b i ∧ b i ≤ 255
theorem BC_congr {b : Int → Int} {len : Int} {s s' : fx_H} (e1 : s' 41 1 = s 41 1) (e2 : ∀ i : Int, s' 42 i = s 42 i) (h : BC b len s) : BC b len s' := ⟨by rw [e1]; exact h.1, fun i x y => by rw [e2]; exact h.2 i x y⟩
theorem BR_congr {b : Int → Int} {len : Int} {s s' : fx_H} (e1 : s' 126 17 = s 126 17) (e2 : ∀ i : Int, s' 141 i = s 141 i) (h : BR b len s) : BR b len s' := ⟨by rw [e1]; exact h.1, fun i x y => by rw [e2]; exact h.2 i x y⟩
theorem ev_isLetter {Λ : fx_L} {x : Int} {h : fx_H} : f_X3_isLetter FU Λ x h = some (if LT x then 1 else 0) := by unfold f_X3_isLetter; split <;> rfl
theorem ev_isFigureC {Λ : fx_L} {x : Int} {h : fx_H} : f_X3_isFigure FU Λ x h = some (if FG x then 1 else 0) := by unfold f_X3_isFigure; split <;> rfl
theorem ev_isSmall {Λ : fx_L} {x : Int} {h : fx_H} : f_X6_isSmall FU Λ x h = some (if LT x then 1 else 0) := by unfold f_X6_isSmall; rw [ev_in, Option.bind_some, zb_ite]; rfl
theorem ev_isFigureR {Λ : fx_L} {x : Int} {h : fx_H} : f_X6_isFigure FU Λ x h = some (if FG x then 1 else 0) := by unfold f_X6_isFigure; rw [ev_in, Option.bind_some, zb_ite]; rfl
theorem rd42 {s : fx_H} {i : Int} (h0 : 0 ≤ i) (h1 : i < 250) : fx_rd La_167 s 42 i = some (s 42 i) := rd_ok h0 (by rw [lb_ln_42]; exact h1)
theorem rd141 {s : fx_H} {i : Int} (h0 : 0 ≤ i) (h1 : i < 250) : fx_rd La_167 s 141 i = some (s 141 i) := rd_ok h0 (by rw [lb_ln_141]; exact h1)
section TOKENS
variable {b : Int → Int} {len : Int}
theorem fb_LT (hb : BB b len) {i : Int} (i0 : 0 ≤ i) (i1 : i < len) : (LT (fx_b (b i)) ↔ LT (b i)) ∧ (FG (fx_b (b i)) ↔ FG (b i)) ∧ (∀ c : Int, 0 ≤ c → c < 128 → (fx_b (b i) = c ↔ b i = c)) := by
  obtain ⟨x, y⟩ := hb.2.2 i i0 i1
  have := fxb_v x y
  exact ⟨by omega, by omega, fun c a d => by omega⟩
/-- what nextToken changes -/
def NTF (s s' : fx_H) : Prop := ∀ a i : Int, ¬ (a = 41 ∧ (i = 2 ∨ i = 3 ∨ i = 4)) → s' a i = s a i
theorem nextToken_ok {s : fx_H} (hb : BB b len) (hc : BC b len s) (p0 : 0 ≤ s 41 2) (p1 : s 41 2 ≤ len) : ∃ s' : fx_H, f_X3_nextToken FU La_167 41 s = some s' ∧ NTF s s' ∧ TOK b len (s 41 2) (s' 41 4) (s' 41 2) (s' 41 3) := by
  obtain ⟨b1, b2, b3⟩ := id hb
  have runs : ∀ (Q : Int → Prop) (t : fx_H) (step : fx_H → Option (fx_H ⊕ fx_H)), 0 ≤ t 41 2 → t 41 2 ≤ len → (∀ w : fx_H, (∀ a i : Int, ¬ (a = 41 ∧ i = 2) → w a i = t a i) → 0 ≤ w 41 2 → w 41 2 ≤ len → (w 41 2 < len ∧ Q (w 41 2) ∧ step w = some (.inl (fx_up w 41 2 (w 41 2 + 1)))) ∨ ((w 41 2 < len → ¬ Q (w 41 2)) ∧ step w = some (.inr w))) → Ret (fx_loop step FU t) (fun w => (∀ a i : Int, ¬ (a = 41 ∧ i = 2) → w a i = t a i) ∧ t 41 2 ≤ w 41 2 ∧ w 41 2 ≤ len ∧ (∀ i : Int, t 41 2 ≤ i → i < w 41 2 → Q i) ∧ (w 41 2 < len → ¬ Q (w 41 2))) := fun Q t step t0 t1 hs => by
    refine loop_ret (fun w => (∀ a i : Int, ¬ (a = 41 ∧ i = 2) → w a i = t a i) ∧ t 41 2 ≤ w 41 2 ∧ w 41 2 ≤ len ∧ ∀ i : Int, t 41 2 ≤ i → i < w 41 2 → Q i) (fun w => (len - w 41 2).toNat) (fun w hw => ?_) FU t ⟨fun _ _ _ => rfl, Int.le_refl _, t1, fun i a d => by omega⟩ (FU_gt (by omega))
    obtain ⟨w1, w2, w3, w4⟩ := hw
    rcases hs w w1 (by omega) w3 with ⟨z1, z2, z3⟩ | ⟨z1, z2⟩
    · refine Or.inl ⟨_, z3, ⟨fun a i y => by rw [up_ne (by omega)]; exact w1 a i y, by rw [up_eq rfl rfl]; omega, by rw [up_eq rfl rfl]; omega, fun i x y => ?_⟩, by rw [up_eq rfl rfl]; omega⟩
      rw [up_eq rfl rfl] at y
      by_cases e : i = w 41 2
      · rw [e]; exact z2
      · exact w4 i x (by omega)
    · exact Or.inr ⟨w, z2, w1, w2, w3, w4, z1⟩
  unfold f_X3_nextToken
  obtain ⟨t, e1, t1, t2, t3, t4, t5⟩ := runs (fun i => b i = 32) s (s_X3_nextToken_1 FU La_167 41) p0 p1 (fun w w1 w2 w3 => by
    have wl : w 41 1 = len := by rw [w1 _ _ (by omega)]; exact hc.1
    unfold s_X3_nextToken_1
    simp only [lb_tg_41_0]
    rw [wl]
    by_cases c : w 41 2 < len
    · have f := fb_LT hb w2 c
      rw [if_pos c, rd42 w2 (by omega), Option.bind_some, w1 42 _ (by omega), hc.2 _ w2 c, wid (by omega) (by omega)]
      by_cases q : b (w 41 2) = 32
      · rw [if_pos ((f.2.2 32 (by decide) (by decide)).mpr q), Option.bind_some, if_pos rfl]
        exact Or.inl ⟨c, q, rfl⟩
      · rw [if_neg (fun z => q ((f.2.2 32 (by decide) (by decide)).mp z)), Option.bind_some, if_neg (by decide)]
        exact Or.inr ⟨fun _ => q, rfl⟩
    · rw [if_neg c, Option.bind_some, if_neg (by decide)]
      exact Or.inr ⟨fun z => absurd z c, rfl⟩)
  have tl : t 41 1 = len := by rw [t1 _ _ (by omega)]; exact hc.1
  rw [e1, Option.bind_some]
  have u0 : ∀ a i : Int, ¬ (a = 41 ∧ i = 4) → fx_up t 41 4 (t 41 2) a i = t a i := fun a i z => up_ne (by omega)
  have u4 : fx_up t 41 4 (t 41 2) 41 4 = t 41 2 := up_eq rfl rfl
  generalize fx_up t 41 4 (t 41 2) = w at u0 u4
  rw [u0 41 1 (by omega), u0 41 2 (by omega), tl]
  have wf : ∀ a i : Int, ¬ (a = 41 ∧ (i = 2 ∨ i = 4)) → w a i = s a i := fun a i z => by rw [u0 a i (by omega), t1 a i (by omega)]
  by_cases c : len ≤ t 41 2
  · rw [if_pos c]
    refine ⟨_, rfl, fun a i z => by rw [up_ne (by omega)]; exact wf a i (by omega), ?_⟩
    rw [up_ne (by omega), up_ne (by omega), up_eq rfl rfl, u4, u0 41 2 (by omega)]
    exact ⟨t2, t3, t4, fun z => by omega, Or.inl ⟨by omega, by omega, rfl⟩⟩
  · have cl : t 41 2 < len := by omega
    have t0 : 0 ≤ t 41 2 := by omega
    have f := fb_LT hb t0 cl
    have b32 := t5 cl
    rw [if_neg c, lb_tg_41_0, rd42 t0 (by omega), Option.bind_some, wf 42 _ (by omega), hc.2 _ t0 cl, wid (z := t 41 2 + 1) (by omega) (by omega), ev_isLetter, Option.bind_some, ev_isFigureC, Option.bind_some]
    have x0 : ∀ a i : Int, ¬ (a = 41 ∧ i = 2) → fx_up w 41 2 (t 41 2 + 1) a i = w a i := fun a i z => up_ne (by omega)
    have x2 : fx_up w 41 2 (t 41 2 + 1) 41 2 = t 41 2 + 1 := up_eq rfl rfl
    generalize fx_up w 41 2 (t 41 2 + 1) = y at x0 x2
    have yf : ∀ a i : Int, ¬ (a = 41 ∧ (i = 2 ∨ i = 4)) → y a i = s a i := fun a i z => by rw [x0 a i (by omega)]; exact wf a i z
    have y4 : y 41 4 = t 41 2 := by rw [x0 _ _ (by omega)]; exact u4
    by_cases q1 : LT (b (t 41 2))
    · rw [if_pos (f.1.mpr q1), if_pos (by decide)]
      have z0 : ∀ a i : Int, ¬ (a = 41 ∧ i = 3) → fx_up y 41 3 1 a i = y a i := fun a i z => up_ne (by omega)
      have z3 : fx_up y 41 3 1 41 3 = 1 := up_eq rfl rfl
      generalize fx_up y 41 3 1 = v at z0 z3
      obtain ⟨r, e2, r1, r2, r3, r4, r5⟩ := runs (fun i => LT (b i)) v (s_X3_nextToken_2 FU La_167 41) (by rw [z0 _ _ (by omega), x2]; omega) (by rw [z0 _ _ (by omega), x2]; omega) (fun k k1 k2 k3 => by
        have kl : k 41 1 = len := by rw [k1 _ _ (by omega), z0 _ _ (by omega), yf _ _ (by omega)]; exact hc.1
        unfold s_X3_nextToken_2
        simp only [lb_tg_41_0]
        rw [kl]
        by_cases c : k 41 2 < len
        · have f := fb_LT hb k2 c
          rw [if_pos c, rd42 k2 (by omega), Option.bind_some, k1 42 _ (by omega), z0 _ _ (by omega), yf _ _ (by omega), hc.2 _ k2 c, ev_isLetter, Option.bind_some, wid (by omega) (by omega)]
          by_cases q : LT (b (k 41 2))
          · rw [if_pos (f.1.mpr q), if_pos (by decide), Option.bind_some, if_pos rfl]
            exact Or.inl ⟨c, q, rfl⟩
          · rw [if_neg (fun z => q (f.1.mp z)), if_neg (by decide), Option.bind_some, if_neg (by decide)]
            exact Or.inr ⟨fun _ => q, rfl⟩
        · rw [if_neg c, Option.bind_some, if_neg (by decide)]
          exact Or.inr ⟨fun z => absurd z c, rfl⟩)
      rw [z0 41 2 (by omega), x2] at r2 r4
      rw [e2, Option.bind_some]
      refine ⟨r, rfl, fun a i z => by rw [r1 a i (by omega), z0 a i (by omega)]; exact yf a i (by omega), ?_⟩
      rw [r1 41 4 (by omega), z0 _ _ (by omega), y4, r1 41 3 (by omega), z3]
      refine ⟨t2, t3, t4, fun _ => b32, Or.inr (Or.inl ⟨cl, q1, by omega, r3, fun i a d => ?_, r5, rfl⟩)⟩
      by_cases e : i = t 41 2
      · rw [e]; exact q1
      · exact r4 i (by omega) d
    · rw [if_neg (fun z => q1 (f.1.mp z)), if_neg (show ¬ ¬ (0 : Int) = 0 by decide)]
      by_cases q2 : FG (b (t 41 2))
      · rw [if_pos (f.2.1.mpr q2), if_pos (by decide)]
        obtain ⟨r, e2, r1, r2, r3, r4, r5⟩ := runs (fun i => FG (b i)) y (s_X3_nextToken_3 FU La_167 41) (by rw [x2]; omega) (by rw [x2]; omega) (fun k k1 k2 k3 => by
          have kl : k 41 1 = len := by rw [k1 _ _ (by omega), yf _ _ (by omega)]; exact hc.1
          unfold s_X3_nextToken_3
          simp only [lb_tg_41_0]
          rw [kl]
          by_cases c : k 41 2 < len
          · have f := fb_LT hb k2 c
            rw [if_pos c, rd42 k2 (by omega), Option.bind_some, k1 42 _ (by omega), yf _ _ (by omega), hc.2 _ k2 c, ev_isFigureC, Option.bind_some, wid (by omega) (by omega)]
            by_cases q : FG (b (k 41 2))
            · rw [if_pos (f.2.1.mpr q), if_pos (by decide), Option.bind_some, if_pos rfl]
              exact Or.inl ⟨c, q, rfl⟩
            · rw [if_neg (fun z => q (f.2.1.mp z)), if_neg (by decide), Option.bind_some, if_neg (by decide)]
              exact Or.inr ⟨fun _ => q, rfl⟩
          · rw [if_neg c, Option.bind_some, if_neg (by decide)]
            exact Or.inr ⟨fun z => absurd z c, rfl⟩)
        rw [x2] at r2 r4
        have r4' : r 41 4 = t 41 2 := by rw [r1 _ _ (by omega)]; exact y4
        rw [e2, Option.bind_some, r4', wid (z := t 41 2 + 1) (by omega) (by omega), show (if r 41 2 = t 41 2 + 1 then some (2 : Int) else some 4) = some (if r 41 2 = t 41 2 + 1 then 2 else 4) by split <;> rfl, Option.bind_some]
        refine ⟨_, rfl, fun a i z => by rw [up_ne (by omega), r1 a i (by omega)]; exact yf a i (by omega), ?_⟩
        rw [up_ne (by omega), up_ne (by omega), up_eq rfl rfl, r4']
        refine ⟨t2, t3, t4, fun _ => b32, Or.inr (Or.inr (Or.inl ⟨cl, q2, by omega, r3, fun i a d => ?_, r5, rfl⟩))⟩
        by_cases e : i = t 41 2
        · rw [e]; exact q2
        · exact r4 i (by omega) d
      · rw [if_neg (fun z => q2 (f.2.1.mp z)), if_neg (show ¬ ¬ (0 : Int) = 0 by decide)]
        have e59 : (if fx_b (b (t 41 2)) = 59 then some (3 : Int) else some 4) = some (if b (t 41 2) = 59 then 3 else 4) := by
          by_cases q : b (t 41 2) = 59
          · rw [if_pos q, if_pos ((f.2.2 59 (by decide) (by decide)).mpr q)]
          · rw [if_neg q, if_neg (fun z => q ((f.2.2 59 (by decide) (by decide)).mp z))]
        rw [e59, Option.bind_some]
        refine ⟨_, rfl, fun a i z => by rw [up_ne (by omega)]; exact yf a i (by omega), ?_⟩
        rw [up_ne (by omega), up_ne (by omega), up_eq rfl rfl, y4, x2]
        exact ⟨t2, t3, t4, fun _ => b32, Or.inr (Or.inr (Or.inr ⟨cl, q1, q2, rfl, rfl⟩))⟩
/-- what look changes -/
def LKF (g g' : fx_H) : Prop := ∀ a i : Int, ¬ (a = 126 ∧ (i = 18 ∨ i = 19 ∨ i = 20 ∨ i = 21)) → g' a i = g a i
theorem look_ok {g : fx_H} {pos : Int} (hb : BB b len) (hr : BR b len g) (p0 : 0 ≤ pos) (p1 : pos ≤ len) : ∃ g' : fx_H, f_X6_look FU La_167 126 pos g = some g' ∧ LKF g g' ∧ TOK b len pos (g' 126 18) (g' 126 18 + g' 126 19) (g' 126 20) ∧ (g' 126 18 < len → g' 126 21 = b (g' 126 18) - 48) := by
  obtain ⟨b1, b2, b3⟩ := id hb
  unfold f_X6_look
  have k1 : Ret (fx_loop (s_X6_look_1 FU La_167 126) FU (fx_up g 126 18 pos)) (fun w => (∀ a i : Int, ¬ (a = 126 ∧ i = 18) → w a i = g a i) ∧ pos ≤ w 126 18 ∧ w 126 18 ≤ len ∧ (∀ i : Int, pos ≤ i → i < w 126 18 → b i = 32) ∧ (w 126 18 < len → ¬ b (w 126 18) = 32)) := by
    refine loop_ret (fun w => (∀ a i : Int, ¬ (a = 126 ∧ i = 18) → w a i = g a i) ∧ pos ≤ w 126 18 ∧ w 126 18 ≤ len ∧ ∀ i : Int, pos ≤ i → i < w 126 18 → b i = 32) (fun w => (len - w 126 18).toNat) (fun w hw => ?_) FU _ ⟨fun a i z => up_ne (by omega), by rw [up_eq rfl rfl]; omega, by rw [up_eq rfl rfl]; exact p1, fun i x y => by rw [up_eq rfl rfl] at y; omega⟩ (FU_gt (by rw [up_eq rfl rfl]; omega))
    obtain ⟨w1, w2, w3, w4⟩ := hw
    have wl : w 126 17 = len := by rw [w1 _ _ (by omega)]; exact hr.1
    unfold s_X6_look_1
    simp only [lb_tg_126_16]
    rw [wl]
    by_cases c : w 126 18 < len
    · rw [if_pos c, rd141 (by omega) (by omega), Option.bind_some, w1 141 _ (by omega), hr.2 _ (by omega) c, wid (by omega) (by omega)]
      by_cases q : b (w 126 18) = 32
      · rw [if_pos q, Option.bind_some, if_pos rfl]
        refine Or.inl ⟨_, rfl, ⟨fun a i y => by rw [up_ne (by omega)]; exact w1 a i y, by rw [up_eq rfl rfl]; omega, by rw [up_eq rfl rfl]; omega, fun i x y => ?_⟩, by rw [up_eq rfl rfl]; omega⟩
        rw [up_eq rfl rfl] at y
        by_cases e : i = w 126 18
        · rw [e]; exact q
        · exact w4 i x (by omega)
      · rw [if_neg q, Option.bind_some, if_neg (by decide)]
        exact Or.inr ⟨w, rfl, w1, w2, w3, w4, fun _ => q⟩
    · rw [if_neg c, Option.bind_some, if_neg (by decide)]
      exact Or.inr ⟨w, rfl, w1, w2, w3, w4, fun z => absurd z c⟩
  obtain ⟨t, e1, t1, t2, t3, t4, t5⟩ := k1
  rw [e1, Option.bind_some]
  have u0 : ∀ a i : Int, ¬ (a = 126 ∧ (i = 19 ∨ i = 20 ∨ i = 21)) → fx_up (fx_up (fx_up t 126 19 0) 126 20 0) 126 21 0 a i = t a i := fun a i z => by rw [up_ne (by omega), up_ne (by omega), up_ne (by omega)]
  have u19 : fx_up (fx_up (fx_up t 126 19 0) 126 20 0) 126 21 0 126 19 = 0 := by simp (disch := omega) only [up_ne, up_eq]
  have u20 : fx_up (fx_up (fx_up t 126 19 0) 126 20 0) 126 21 0 126 20 = 0 := by simp (disch := omega) only [up_ne, up_eq]
  generalize fx_up (fx_up (fx_up t 126 19 0) 126 20 0) 126 21 0 = w at u0 u19 u20
  have wf : ∀ a i : Int, ¬ (a = 126 ∧ (i = 18 ∨ i = 19 ∨ i = 20 ∨ i = 21)) → w a i = g a i := fun a i z => by rw [u0 a i (by omega), t1 a i (by omega)]
  rw [u0 126 18 (by omega), wf 126 17 (by omega), hr.1]
  by_cases c : t 126 18 = len
  · rw [if_pos c]
    refine ⟨w, rfl, wf, ?_, fun z => by rw [u0 126 18 (by omega)] at z; omega⟩
    rw [u0 126 18 (by omega), u19, u20]
    exact ⟨t2, t3, t4, fun z => by omega, Or.inl ⟨c, by omega, rfl⟩⟩
  · have cl : t 126 18 < len := by omega
    have t0 : 0 ≤ t 126 18 := by omega
    have b32 := t5 cl
    have bb := b3 _ t0 cl
    rw [if_neg c, lb_tg_126_16, rd141 t0 (by omega), Option.bind_some, wf 141 _ (by omega), hr.2 _ t0 cl, ev_isSmall, Option.bind_some, ev_isFigureR, Option.bind_some]
    generalize hx : b (t 126 18) = x at b32 bb
    have tyE : (if ¬ (if LT x then (1 : Int) else 0) = 0 then some (1 : Int) else ((if ¬ (if FG x then (1 : Int) else 0) = 0 then some (2 : Int) else ((if x = 59 then some (3 : Int) else some 4).bind fun v42 => some v42)).bind fun v36 => some v36)) = some (if LT x then 1 else if FG x then 2 else if x = 59 then 3 else 4) := by
      by_cases q1 : LT x
      · simp only [if_pos q1]; rfl
      · simp only [if_neg q1]
        by_cases q2 : FG x
        · simp only [if_pos q2]; rfl
        · simp only [if_neg q2]
          rw [if_neg (show ¬ ¬ True from fun z => z trivial), if_neg (show ¬ ¬ True from fun z => z trivial)]
          by_cases q3 : x = 59
          · simp only [if_pos q3]; rfl
          · simp only [if_neg q3]; rfl
    rw [tyE, Option.bind_some]
    generalize hty : (if LT x then (1 : Int) else if FG x then 2 else if x = 59 then 3 else 4) = ty
    have v0 : ∀ a i : Int, ¬ (a = 126 ∧ (i = 19 ∨ i = 20)) → fx_up (fx_up w 126 20 ty) 126 19 1 a i = w a i := fun a i z => by rw [up_ne (by omega), up_ne (by omega)]
    have v20 : fx_up (fx_up w 126 20 ty) 126 19 1 126 20 = ty := by simp (disch := omega) only [up_ne, up_eq]
    have v19 : fx_up (fx_up w 126 20 ty) 126 19 1 126 19 = 1 := up_eq rfl rfl
    generalize fx_up (fx_up w 126 20 ty) 126 19 1 = y at v0 v20 v19
    have y18 : y 126 18 = t 126 18 := by rw [v0 _ _ (by omega), u0 _ _ (by omega)]
    have yf : ∀ a i : Int, ¬ (a = 126 ∧ (i = 18 ∨ i = 19 ∨ i = 20 ∨ i = 21)) → y a i = g a i := fun a i z => by rw [v0 a i (by omega)]; exact wf a i z
    rw [v20, show (if ty < 3 then some (1 : Int) else some 0) = some (if ty < 3 then 1 else 0) by split <;> rfl, Option.bind_some]
    have QQ : ∃ Q : Int → Prop, (ty = 1 → Q = LT) ∧ (¬ ty = 1 → Q = FG) := by
      by_cases z : ty = 1
      · exact ⟨LT, fun _ => rfl, fun q => absurd z q⟩
      · exact ⟨FG, fun q => absurd q z, fun _ => rfl⟩
    obtain ⟨Q, Q1, Q2⟩ := QQ
    have k2 : Ret (fx_loop (s_X6_look_2 FU La_167 126) FU ((if ty < 3 then 1 else 0), y)) (fun e => (∀ a i : Int, ¬ (a = 126 ∧ i = 19) → e.2 a i = y a i) ∧ 1 ≤ e.2 126 19 ∧ t 126 18 + e.2 126 19 ≤ len ∧ (∀ i : Int, t 126 18 < i → i < t 126 18 + e.2 126 19 → Q (b i)) ∧ (ty < 3 → t 126 18 + e.2 126 19 < len → ¬ Q (b (t 126 18 + e.2 126 19))) ∧ (¬ ty < 3 → e.2 126 19 = 1)) := by
      refine loop_ret (fun s => (∀ a i : Int, ¬ (a = 126 ∧ i = 19) → s.2 a i = y a i) ∧ 1 ≤ s.2 126 19 ∧ t 126 18 + s.2 126 19 ≤ len ∧ (∀ i : Int, t 126 18 < i → i < t 126 18 + s.2 126 19 → Q (b i)) ∧ (¬ ty < 3 → s.1 = 0 ∧ s.2 126 19 = 1) ∧ (ty < 3 → ¬ s.1 = 0 ∨ (t 126 18 + s.2 126 19 < len ∧ ¬ Q (b (t 126 18 + s.2 126 19))))) (fun s => (len - s.2 126 19).toNat * 2 + (if s.1 = 0 then 0 else 1)) (fun s hs => ?_) FU _ ⟨fun _ _ _ => rfl, by show 1 ≤ y 126 19; omega, by show t 126 18 + y 126 19 ≤ len; omega, fun i p q => by have q : i < t 126 18 + y 126 19 := q; omega, fun z => ⟨by show (if ty < 3 then (1 : Int) else 0) = 0; rw [if_neg z], v19⟩, fun z => Or.inl (by show ¬ (if ty < 3 then (1 : Int) else 0) = 0; rw [if_pos z]; decide)⟩ (FU_gt (by
        show (len - y 126 19).toNat * 2 + (if (if ty < 3 then (1 : Int) else 0) = 0 then 0 else 1) < _
        have : (if (if ty < 3 then (1 : Int) else 0) = 0 then (0 : Nat) else 1) ≤ 1 := by
          by_cases z : (if ty < 3 then (1 : Int) else 0) = 0
          · rw [if_pos z]; omega
          · rw [if_neg z]; omega
        omega))
      obtain ⟨mo, s⟩ := s
      obtain ⟨s1, s2, s3, s4, s5, s6⟩ := hs
      simp only at s1 s2 s3 s4 s5 s6
      have s18 : s 126 18 = t 126 18 := by rw [s1 _ _ (by omega)]; exact y18
      have sl : s 126 17 = len := by rw [s1 _ _ (by omega), yf _ _ (by omega)]; exact hr.1
      have s20 : s 126 20 = ty := by rw [s1 _ _ (by omega)]; exact v20
      unfold s_X6_look_2
      simp only [lb_tg_126_16]
      rw [s18, sl, s20, wid (z := t 126 18 + s 126 19) (by omega) (by omega)]
      by_cases c : ¬ mo = 0 ∧ t 126 18 + s 126 19 < len
      · have ty3 : ty < 3 := by
          by_cases z : ty < 3
          · exact z
          · exact absurd (s5 z).1 c.1
        rw [if_pos c, rd141 (by omega) (by omega), Option.bind_some, s1 141 _ (by omega), yf _ _ (by omega), hr.2 _ (by omega) c.2, ev_isSmall, Option.bind_some, ev_isFigureR, Option.bind_some]
        have qE : ∃ q : Int, (if ty = 1 then some (if LT (b (t 126 18 + s 126 19)) then (1 : Int) else 0) else some (if FG (b (t 126 18 + s 126 19)) then (1 : Int) else 0)) = some q ∧ (Q (b (t 126 18 + s 126 19)) ∧ q = 1 ∨ ¬ Q (b (t 126 18 + s 126 19)) ∧ q = 0) := by
          by_cases z : ty = 1
          · rw [if_pos z, Q1 z]
            by_cases w : LT (b (t 126 18 + s 126 19))
            · exact ⟨1, by rw [if_pos w], Or.inl ⟨w, rfl⟩⟩
            · exact ⟨0, by rw [if_neg w], Or.inr ⟨w, rfl⟩⟩
          · rw [if_neg z, Q2 z]
            by_cases w : FG (b (t 126 18 + s 126 19))
            · exact ⟨1, by rw [if_pos w], Or.inl ⟨w, rfl⟩⟩
            · exact ⟨0, by rw [if_neg w], Or.inr ⟨w, rfl⟩⟩
        obtain ⟨q, q1, q2⟩ := qE
        rw [q1, Option.bind_some]
        rcases q2 with ⟨qa, qb⟩ | ⟨qa, qb⟩
        · rw [qb, if_pos (by decide), Option.bind_some, wid (by omega) (by omega)]
          refine Or.inl ⟨_, rfl, ⟨fun a i z => by show fx_up s 126 19 (s 126 19 + 1) a i = _; rw [up_ne (by omega)]; exact s1 a i z, by show 1 ≤ fx_up s 126 19 (s 126 19 + 1) 126 19; rw [up_eq rfl rfl]; omega, by show t 126 18 + fx_up s 126 19 (s 126 19 + 1) 126 19 ≤ len; rw [up_eq rfl rfl]; omega, fun i p r => ?_, fun z => absurd ty3 z, fun _ => Or.inl (by show ¬ (1 : Int) = 0; decide)⟩, ?_⟩
          · have r : i < t 126 18 + fx_up s 126 19 (s 126 19 + 1) 126 19 := r
            rw [up_eq rfl rfl] at r
            by_cases e : i = t 126 18 + s 126 19
            · rw [e]; exact qa
            · exact s4 i p (by omega)
          · show (len - fx_up s 126 19 (s 126 19 + 1) 126 19).toNat * 2 + (if (1 : Int) = 0 then 0 else 1) < (len - s 126 19).toNat * 2 + (if mo = 0 then 0 else 1)
            rw [up_eq rfl rfl, if_neg (by decide), if_neg c.1]
            omega
        · rw [qb, if_neg (by decide), Option.bind_some, wid (by omega) (by omega), Int.add_zero]
          refine Or.inl ⟨_, rfl, ⟨fun a i z => by show fx_up s 126 19 (s 126 19) a i = _; rw [up_ne (by omega)]; exact s1 a i z, by show 1 ≤ fx_up s 126 19 (s 126 19) 126 19; rw [up_eq rfl rfl]; exact s2, by show t 126 18 + fx_up s 126 19 (s 126 19) 126 19 ≤ len; rw [up_eq rfl rfl]; exact s3, fun i p r => ?_, fun z => absurd ty3 z, fun _ => Or.inr ?_⟩, ?_⟩
          · have r : i < t 126 18 + fx_up s 126 19 (s 126 19) 126 19 := r
            rw [up_eq rfl rfl] at r
            exact s4 i p r
          · show t 126 18 + fx_up s 126 19 (s 126 19) 126 19 < len ∧ ¬ Q (b (t 126 18 + fx_up s 126 19 (s 126 19) 126 19))
            rw [up_eq rfl rfl]
            exact ⟨c.2, qa⟩
          · show (len - fx_up s 126 19 (s 126 19) 126 19).toNat * 2 + (if (0 : Int) = 0 then 0 else 1) < (len - s 126 19).toNat * 2 + (if mo = 0 then 0 else 1)
            rw [up_eq rfl rfl, if_pos rfl, if_neg c.1]
            omega
      · rw [if_neg c]
        refine Or.inr ⟨_, rfl, s1, s2, s3, s4, fun z p => ?_, fun z => (s5 z).2⟩
        have p : t 126 18 + s 126 19 < len := p
        rcases s6 z with q | q
        · exact absurd ⟨q, p⟩ c
        · exact q.2
    obtain ⟨⟨mo, r⟩, e2, r1, r2, r3, r4, r5, r6⟩ := k2
    simp only at r1 r2 r3 r4 r5 r6
    rw [e2, Option.bind_some]
    simp only
    rw [up_ne (by omega), up_ne (by omega), r1 126 20 (by omega), v20, wid (z := x - 48) (by omega) (by omega), show (if ty = 2 ∧ 1 < r 126 19 then some (4 : Int) else some ty) = some (if ty = 2 ∧ 1 < r 126 19 then 4 else ty) by split <;> rfl, Option.bind_some]
    refine ⟨_, rfl, fun a i z => by rw [up_ne (by omega), up_ne (by omega), r1 a i (by omega)]; exact yf a i z, ?_, fun _ => ?_⟩
    · rw [up_ne (by omega), up_ne (by omega), up_eq rfl rfl, up_ne (by omega), up_ne (by omega), r1 126 18 (by omega), y18]
      refine ⟨t2, t3, t4, fun _ => by rw [hx]; exact b32, Or.inr ?_⟩
      rw [hx]
      by_cases q1 : LT x
      · have tyv : ty = 1 := by rw [← hty, if_pos q1]
        refine Or.inl ⟨cl, q1, by omega, r3, fun i a d => ?_, fun z => ?_, by rw [tyv, if_neg (fun z => absurd z.1 (by decide))]⟩
        · by_cases e : i = t 126 18
          · rw [e, hx]; exact q1
          · have := r4 i (by omega) d
            rw [Q1 tyv] at this
            exact this
        · have := r5 (by omega) z
          rw [Q1 tyv] at this
          exact this
      · by_cases q2 : FG x
        · have tyv : ty = 2 := by rw [← hty, if_neg q1, if_pos q2]
          refine Or.inr (Or.inl ⟨cl, q2, by omega, r3, fun i a d => ?_, fun z => ?_, ?_⟩)
          · by_cases e : i = t 126 18
            · rw [e, hx]; exact q2
            · have := r4 i (by omega) d
              rw [Q2 (by omega)] at this
              exact this
          · have := r5 (by omega) z
            rw [Q2 (by omega)] at this
            exact this
          · by_cases z : 1 < r 126 19
            · rw [if_pos ⟨tyv, z⟩, if_neg (by omega)]
            · rw [if_neg (fun y => z y.2), if_pos (by omega), tyv]
        · have tyv : ty = if x = 59 then 3 else 4 := by rw [← hty, if_neg q1, if_neg q2]
          have ty3 : ¬ ty < 3 := by rw [tyv]; split <;> omega
          refine Or.inr (Or.inr ⟨cl, q1, q2, by rw [r6 ty3], ?_⟩)
          rw [if_neg (fun y => ty3 (by omega)), tyv]
    · rw [up_ne (by omega), up_eq rfl rfl, up_ne (by omega), up_ne (by omega), r1 126 18 (by omega), y18, hx]
end TOKENS
