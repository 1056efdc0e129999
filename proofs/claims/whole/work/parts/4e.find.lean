-- needs: 4d
/-! ===== the reference finds its rows ===== -/
def Rch {S E : Type} (step : S → Option (S ⊕ E)) (k : Nat) (s s' : S) : Prop := ∀ F : Nat, fx_loop step (F + k) s = fx_loop step F s'
theorem Rch.refl {S E : Type} {step : S → Option (S ⊕ E)} (s : S) : Rch step 0 s s := fun _ => rfl
theorem Rch.one {S E : Type} {step : S → Option (S ⊕ E)} {s s' : S} (e : step s = some (.inl s')) : Rch step 1 s s' := fun F => by
  show fx_loop step (F + 1) s = _
  simp only [fx_loop, e]
theorem Rch.trans {S E : Type} {step : S → Option (S ⊕ E)} {k m : Nat} {s s' s'' : S} (h1 : Rch step k s s') (h2 : Rch step m s' s'') : Rch step (k + m) s s'' := fun F => by
  rw [show F + (k + m) = (F + m) + k by omega, h1, h2]
theorem Rch.fin {S E : Type} {step : S → Option (S ⊕ E)} {k Fu : Nat} {s s' : S} {e : E} (h : Rch step k s s') (he : step s' = some (.inr e)) (hk : k < Fu) : fx_loop step Fu s = some e := by
  rw [show Fu = (Fu - k - 1 + 1) + k by omega, h]
  simp only [fx_loop, he]
def cn (r : Int → Int) (lo n u : Int) : Int := rs5 (fun k => if r k = u then 1 else 0) lo n
theorem cn_b (r : Int → Int) (lo n u : Int) : 0 ≤ cn r lo n u ∧ cn r lo n u ≤ 5 := by
  unfold cn
  refine ⟨rs5_nn (fun k _ _ _ => by split <;> omega), ?_⟩
  have := sumI_le (n := 5) (f := fun k => if lo ≤ k ∧ k < n then (if r k = u then (1 : Int) else 0) else 0) (c := 1) (fun i _ _ => by split <;> (try split) <;> omega)
  show sumI 5 (fun k => if lo ≤ k ∧ k < n then (if r k = u then (1 : Int) else 0) else 0) ≤ 5
  omega
theorem cn_pos {r : Int → Int} {lo n u : Int} (h : ¬ cn r lo n u = 0) : ∃ k : Int, 0 ≤ k ∧ lo ≤ k ∧ k < n ∧ r k = u := by
  refine Classical.byContradiction (fun z => h ?_)
  refine sum_zero (fun k a b => ?_)
  by_cases c : lo ≤ k ∧ k < n
  · rw [if_pos c]
    simp only
    rw [if_neg (fun q => z ⟨k, a, c.1, c.2, q⟩)]
  · rw [if_neg c]
theorem cn_first {r : Int → Int} {lo n u : Int} (h0 : 0 ≤ lo) (h1 : lo < n) (n5 : n ≤ 5) : cn r lo n u = (if r lo = u then 1 else 0) + cn r (lo + 1) n u := rs5_first h0 h1 n5
theorem cn_ge {r : Int → Int} {lo n k : Int} (k0 : 0 ≤ k) (a : lo ≤ k) (b : k < n) (n5 : n ≤ 5) : 1 ≤ cn r lo n (r k) := by
  have e2 : rs5 (fun j => if j = k then 1 else 0) lo n = rs5 (fun _ => 0) lo n - 0 + 1 := rs5_set (f := fun _ => 0) k0 a b n5
  have e3 : rs5 (fun _ => 0) lo n = 0 := sum_zero (fun k _ _ => by split <;> rfl)
  have := rs5_mono (f := fun j => if j = k then 1 else 0) (g := fun j => if r j = r k then 1 else 0) (lo := lo) (hi := n) (fun j _ _ _ => by
    by_cases c : j = k
    · rw [if_pos c, if_pos (by rw [c])]; exact Int.le_refl 1
    · rw [if_neg c]; split <;> omega)
  unfold cn
  omega
theorem cn_congr {r r' : Int → Int} {lo n u : Int} (e : ∀ k : Int, 0 ≤ k → lo ≤ k → k < n → r k = r' k) : cn r lo n u = cn r' lo n u := rs5_congr (fun k a b c => by rw [e k a b c])
theorem takeNeeds_ok {g : fx_H} {nd : Int → Int} {p n : Int} (p0 : 0 ≤ p) (p5 : p < 5) (n0 : 0 ≤ n) (n5 : n ≤ 5) (hd : ∀ t : Int, 0 ≤ t → t < 9 → g 127 (44 + 9 * p + t) = nd t ∧ 0 ≤ nd t) (hb : sumI 9 nd ≤ 1000) : Ret (f_X6_takeNeeds FU La_167 126 p n g) (fun g' => (∀ a i : Int, a ≠ 136 → g' a i = g a i) ∧ (∀ t : Int, 0 ≤ t → t < 9 → g' 136 t = nd t) ∧ g' 136 9 = n - sumI 9 nd) := by
  unfold f_X6_takeNeeds
  refine Ret.bind (Ret.mono (loop_ix (fun s => s.2.1) (fun t s => s.1 = sumI t.toNat nd ∧ (∀ a i : Int, a ≠ 136 → s.2.2 a i = g a i) ∧ ∀ u : Int, 0 ≤ u → u < t → s.2.2 136 u = nd u) 9 (i := 0) (Q := fun e => e.1 = sumI 9 nd ∧ (∀ a i : Int, a ≠ 136 → e.2.2 a i = g a i) ∧ ∀ u : Int, 0 ≤ u → u < 9 → e.2.2 136 u = nd u) (FU_gt (by omega)) rfl (by omega) ⟨rfl, fun _ _ _ => rfl, fun u _ _ => by omega⟩ (fun t s et b1 b2 ⟨i1, i2, i3⟩ => ?_) (fun s es ⟨i1, i2, i3⟩ => ?_)) (fun r hr => ?_))
  · obtain ⟨z, t', s⟩ := s
    simp only at et i1 i2 i3
    subst et
    obtain ⟨d1, d2⟩ := hd t' b1 b2
    have s1 : sumI (t' + 1).toNat nd = sumI t'.toNat nd + nd t' := by rw [show (t' + 1).toNat = t'.toNat + 1 by omega, sumI_succ, show ((t'.toNat : Nat) : Int) = t' by omega]
    have s0 : 0 ≤ sumI t'.toNat nd := sumI_nn (fun i a b => (hd i a (by omega)).2)
    have s9 : sumI (t' + 1).toNat nd ≤ sumI 9 nd := by
      have := sumI_inc (nd := nd) (fun t a b => (hd t a b).2) (9 - (t' + 1).toNat) (t' + 1).toNat (by omega)
      rw [show (t' + 1).toNat + (9 - (t' + 1).toNat) = 9 by omega] at this
      exact this
    unfold s_X6_takeNeeds_1
    simp only [lb_tg_126_0, lb_tg_126_11]
    rw [if_pos b2, wid (z := 9 * p) (by omega) (by omega), wid (z := 44 + 9 * p) (by omega) (by omega), wid (z := 44 + 9 * p + t') (by omega) (by omega), rd127 (by omega) (by omega), Option.bind_some, i2 127 _ (by omega), d1, wrl lb_ln_136 b1 (by omega), Option.bind_some, rdl lb_ln_136 b1 (by omega), Option.bind_some, up_eq rfl rfl, wid (by omega) (by omega), wid (by omega) (by omega)]
    refine ⟨_, rfl, rfl, by show z + nd t' = _; omega, fun a i q => ?_, fun u a b => ?_⟩
    · show fx_up s 136 t' (nd t') a i = _
      rw [up_ne (Or.inl q)]; exact i2 a i q
    · show fx_up s 136 t' (nd t') 136 u = _
      by_cases e : u = t'
      · rw [up_eq rfl e, e]
      · rw [up_ne (Or.inr e)]; exact i3 u a (by omega)
  · obtain ⟨z, t', s⟩ := s
    simp only at es i1 i2 i3
    subst es
    unfold s_X6_takeNeeds_1
    simp only
    rw [if_neg (by omega)]
    exact ⟨_, rfl, i1, i2, i3⟩
  · obtain ⟨z, t', s⟩ := r
    obtain ⟨i1, i2, i3⟩ := hr
    simp only at i1 i2 i3 ⊢
    have s0 : 0 ≤ sumI 9 nd := sumI_nn (fun i a b => (hd i a (by omega)).2)
    rw [lb_tg_126_11, wrl lb_ln_136 (by omega) (by omega), Option.bind_some, i1, wid (by omega) (by omega)]
    refine Ret.ok ⟨fun a i q => ?_, fun t a b => ?_, up_eq rfl rfl⟩
    · rw [up_ne (Or.inl q)]; exact i2 a i q
    · rw [up_ne (by omega)]; exact i3 t a b
/-- the next thing that is left -/
def NXT (lf : Int → Int) (d t : Int) : Prop := d < t ∧ t ≤ 10 ∧ (t ≤ 9 → ¬ lf t = 0) ∧ ∀ u : Int, d < u → u < t → lf u = 0
theorem adv_ok {s : fx_H} {hh d : Int} (h0 : 0 ≤ hh) (h5 : hh < 5) (hd : s 137 hh = d) (d0 : -1 ≤ d) (d9 : d ≤ 9) : Ret (fx_loop (s_X6_findRows_2 FU La_167 126 hh) FU s) (fun s' => (∀ a i : Int, ¬ (a = 137 ∧ i = hh) → s' a i = s a i) ∧ NXT (s 136) d (s' 137 hh)) := by
  refine loop_ret (fun w => (∀ a i : Int, ¬ (a = 137 ∧ i = hh) → w a i = s a i) ∧ d ≤ w 137 hh ∧ w 137 hh ≤ 9 ∧ ∀ u : Int, d < u → u ≤ w 137 hh → s 136 u = 0) (fun w => (10 - w 137 hh).toNat) (fun w hw => ?_) FU s ⟨fun _ _ _ => rfl, by omega, by omega, fun u a b => by omega⟩ (FU_gt (by omega))
  obtain ⟨w1, w2, w3, w4⟩ := hw
  unfold s_X6_findRows_2
  simp only [lb_tg_126_11, lb_tg_126_12]
  rw [rdl lb_ln_137 h0 h5, Option.bind_some, wrl lb_ln_137 h0 h5, Option.bind_some, rdl lb_ln_137 h0 h5, Option.bind_some, up_eq rfl rfl, wid (by omega) (by omega)]
  have u1 : ∀ a i : Int, ¬ (a = 137 ∧ i = hh) → fx_up w 137 hh (w 137 hh + 1) a i = s a i := fun a i z => by rw [up_ne (by omega)]; exact w1 a i z
  by_cases c : w 137 hh + 1 ≤ 9
  · rw [if_pos c, Option.bind_some, rdl lb_ln_136 (by omega) (by omega), Option.bind_some, u1 136 _ (by omega)]
    by_cases c2 : s 136 (w 137 hh + 1) = 0
    · rw [if_pos c2, Option.bind_some, if_pos rfl]
      refine Or.inl ⟨_, rfl, ⟨u1, by rw [up_eq rfl rfl]; omega, by rw [up_eq rfl rfl]; exact c, fun u a b => ?_⟩, by rw [up_eq rfl rfl]; omega⟩
      rw [up_eq rfl rfl] at b
      by_cases e : u = w 137 hh + 1
      · rw [e]; exact c2
      · exact w4 u a (by omega)
    · rw [if_neg c2, Option.bind_some, if_neg (by decide)]
      refine Or.inr ⟨_, rfl, u1, by rw [up_eq rfl rfl]; exact ⟨by omega, by omega, fun _ => c2, fun u a b => w4 u a (by omega)⟩⟩
  · rw [if_neg c, Option.bind_some, if_neg (by decide)]
    refine Or.inr ⟨_, rfl, u1, by rw [up_eq rfl rfl]; exact ⟨by omega, by omega, fun q => absurd q c, fun u a b => w4 u a (by omega)⟩⟩
theorem keepRow_ok {s : fx_H} {p n c : Int} (p0 : 0 ≤ p) (p5 : p < 5) (n0 : 0 ≤ n) (n5 : n ≤ 5) (hc : s 135 p = c) (c0 : 0 ≤ c) (c1 : c < 120) : Ret (f_X6_keepRow FU La_167 126 p n s) (fun s' => (∀ a i : Int, ¬ (a = 135 ∧ i = p) → ¬ (a = 134 ∧ 600 * p + 5 * c ≤ i ∧ i < 600 * p + 5 * c + n) → s' a i = s a i) ∧ s' 135 p = c + 1 ∧ ∀ j : Int, 0 ≤ j → j < n → s' 134 (600 * p + 5 * c + j) = de (s 137 j)) := by
  unfold f_X6_keepRow
  rw [lb_tg_126_10, rdl lb_ln_135 p0 p5, Option.bind_some, hc, wid (z := 120 * p) (by omega) (by omega), wid (z := 120 * p + c) (by omega) (by omega), wid (z := 5 * (120 * p + c)) (by omega) (by omega)]
  refine Ret.bind (Ret.mono (loop_for (fun j w => (∀ a i : Int, ¬ (a = 134 ∧ 600 * p + 5 * c ≤ i ∧ i < 600 * p + 5 * c + j) → w a i = s a i) ∧ ∀ k : Int, 0 ≤ k → k < j → w 134 (600 * p + 5 * c + k) = de (s 137 k)) n (FU_gt (by omega)) n0 ⟨fun _ _ _ => rfl, fun _ _ _ => by omega⟩ (fun j w b1 b2 ⟨i1, i2⟩ => ?_) (fun w _ => ?_)) (fun r hr => ?_))
  · unfold s_X6_keepRow_1
    simp only [lb_tg_126_9, lb_tg_126_12]
    rw [if_pos b2, rdl lb_ln_137 b1 (by omega), Option.bind_some, Option.bind_some, show (if w 137 j = 9 then some (-1 : Int) else some (w 137 j)) = some (de (s 137 j)) by rw [i1 137 j (by omega)]; unfold de; split <;> rfl, Option.bind_some, wid (z := 5 * (120 * p + c) + j) (by omega) (by omega), wrl lb_ln_134 (by omega) (by omega), Option.bind_some, wid (by omega) (by omega)]
    refine ⟨_, rfl, fun a i z => ?_, fun k a b => ?_⟩
    · rw [up_ne (by omega)]; exact i1 a i (by omega)
    · by_cases e : k = j
      · rw [up_eq rfl (by omega), e]
      · rw [up_ne (by omega)]; exact i2 k a (by omega)
  · unfold s_X6_keepRow_1
    simp only
    rw [if_neg (by omega)]
  · obtain ⟨x, w⟩ := r
    obtain ⟨-, i1, i2⟩ := hr
    simp only at i1 i2 ⊢
    rw [rdl lb_ln_135 p0 p5, Option.bind_some, wrl lb_ln_135 p0 p5, Option.bind_some, i1 135 p (by omega), hc, wid (by omega) (by omega)]
    refine Ret.ok ⟨fun a i y z => ?_, up_eq rfl rfl, fun j a b => ?_⟩
    · rw [up_ne (by omega)]; exact i1 a i (by omega)
    · rw [up_ne (by omega)]; exact i2 j a b
/-- one turn of the search -/
theorem iter_ok {s : fx_H} {p n hh d : Int} (n5 : n ≤ 5) (h0 : 0 ≤ hh) (h1 : hh < n) (hd : s 137 hh = d) (d0 : -1 ≤ d) (d9 : d ≤ 9) (hl : ∀ u : Int, 0 ≤ u → u ≤ 9 → 0 ≤ s 136 u ∧ s 136 u ≤ 100) :
    ∃ (t : Int) (s' : fx_H), NXT (fun u => s 136 u + (if u = d then 1 else 0)) d t ∧ (∀ a i : Int, ¬ (a = 137 ∧ i = hh) → a ≠ 136 → s' a i = s a i) ∧ s' 137 hh = t ∧
      (t = 10 → (∀ u : Int, 0 ≤ u → u ≤ 9 → s' 136 u = s 136 u + (if u = d then 1 else 0)) ∧ s_X6_findRows_1 FU La_167 126 p n (hh, s) = some (.inl (hh - 1, s'))) ∧
      (t ≤ 9 → (∀ u : Int, 0 ≤ u → u ≤ 9 → s' 136 u = s 136 u + (if u = d then 1 else 0) - (if u = t then 1 else 0)) ∧ (hh = n - 1 → s_X6_findRows_1 FU La_167 126 p n (hh, s) = (f_X6_keepRow FU La_167 126 p n s').bind fun w => some (.inl (hh, w))) ∧ (hh < n - 1 → s_X6_findRows_1 FU La_167 126 p n (hh, s) = some (.inl (hh + 1, fx_up s' 137 (hh + 1) (-1))))) := by
  unfold s_X6_findRows_1
  simp only [lb_tg_126_11, lb_tg_126_12]
  rw [if_pos h0, rdl lb_ln_137 h0 (by omega), Option.bind_some, hd]
  have k1 : ∃ w : fx_H, (if ¬ d = -1 then (some d).bind fun v23 => (fx_rd La_167 s 136 v23).bind fun v25 => (fx_wr La_167 s 136 v23 (fx_w (v25 + 1))).bind fun h27 => some h27 else some s) = some w ∧ (∀ a i : Int, a ≠ 136 → w a i = s a i) ∧ ∀ u : Int, 0 ≤ u → u ≤ 9 → w 136 u = s 136 u + (if u = d then 1 else 0) := by
    by_cases c : d = -1
    · refine ⟨s, by rw [if_neg (not_not_intro c)], fun _ _ _ => rfl, fun u a b => ?_⟩
      rw [if_neg (by omega), Int.add_zero]
    · have := hl d (by omega) (by omega)
      refine ⟨fx_up s 136 d (s 136 d + 1), ?_, fun a i z => up_ne (Or.inl z), fun u a b => ?_⟩
      · rw [if_pos c, Option.bind_some, rdl lb_ln_136 (by omega) (by omega), Option.bind_some, wrl lb_ln_136 (by omega) (by omega), Option.bind_some, wid (by omega) (by omega)]
      · by_cases e : u = d
        · rw [up_eq rfl e, if_pos e, e]
        · rw [up_ne (Or.inr e), if_neg e, Int.add_zero]
  obtain ⟨w, e1, w1, w2⟩ := k1
  rw [e1, Option.bind_some]
  obtain ⟨w', e2, w3, w4⟩ := adv_ok (s := w) h0 (show hh < 5 by omega) (by rw [w1 _ _ (by omega)]; exact hd) d0 d9
  obtain ⟨x1, x2, x3, x4⟩ := w4
  rw [e2, Option.bind_some, rdl lb_ln_137 h0 (by omega), Option.bind_some]
  generalize ht : w' 137 hh = t at x1 x2 x3 x4
  have N : NXT (fun u => s 136 u + (if u = d then 1 else 0)) d t := ⟨x1, x2, fun q => by have := x3 q; rw [w2 t (by omega) q] at this; exact this, fun u a b => by have := x4 u a b; rw [w2 u (by omega) (by omega)] at this; exact this⟩
  by_cases c : 9 < t
  · rw [if_pos c]
    refine ⟨t, w', N, fun a i x y => by rw [w3 a i x, w1 a i y], ht, fun _ => ⟨fun u a b => by rw [w3 136 u (by omega)]; exact w2 u a b, by rw [wid (by omega) (by omega)]; rfl⟩, fun q => by omega⟩
  · have l1 : w' 136 t = s 136 t + (if t = d then 1 else 0) := by rw [w3 136 t (by omega)]; exact w2 t (by omega) (by omega)
    have l2 := hl t (by omega) (by omega)
    have l3 : (0 : Int) ≤ (if t = d then 1 else 0) ∧ (if t = d then (1 : Int) else 0) ≤ 1 := by split <;> omega
    rw [if_neg c, Option.bind_some, rdl lb_ln_136 (by omega) (by omega), Option.bind_some, wrl lb_ln_136 (by omega) (by omega), Option.bind_some, wid (z := w' 136 t - 1) (by omega) (by omega), wid (z := n - 1) (by omega) (by omega)]
    refine ⟨t, fx_up w' 136 t (w' 136 t - 1), N, fun a i x y => by rw [up_ne (Or.inl y), w3 a i x, w1 a i y], by rw [up_ne (by omega)]; exact ht, fun q => by omega, fun _ => ⟨fun u a b => ?_, fun q => ?_, fun q => ?_⟩⟩
    · by_cases e : u = t
      · rw [up_eq rfl e, if_pos e, l1, e]
      · rw [up_ne (Or.inr e), if_neg e, w3 136 u (by omega), w2 u a b]; omega
    · rw [if_pos q]
    · rw [if_neg (by omega), wid (by omega) (by omega), wrl lb_ln_137 (by omega) (by omega), Option.bind_some]
