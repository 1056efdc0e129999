-- needs: 3p
/-! ===== what is the same ===== -/
def dpF (u : Int → Int) : Nat → Int → Int
  | 0, _ => 0
  | n + 1, t => if u t < 0 then 0 else dpF u n (u t) + 1
def DP (u : Int → Int) (t : Int) : Int := dpF u (t.toNat + 1) t
def saF (u : Int → Int) (line : Int) : Nat → Int → Int
  | 0, t => t
  | n + 1, t => if 0 ≤ u t ∧ line < DP u t then saF u line n (u t) else t
def SA (u : Int → Int) (line t : Int) : Int := saF u line (t.toNat + 1) t
def UOK (u : Int → Int) (T : Int) : Prop := ∀ t : Int, 0 ≤ t → t < T → -1 ≤ u t ∧ u t < t
theorem dpF_st {u : Int → Int} {T : Int} (hu : UOK u T) : ∀ (n m : Nat) (t : Int), 0 ≤ t → t < T → t.toNat < n → t.toNat < m → dpF u n t = dpF u m t
  | 0, _, _, _, _, h, _ => by omega
  | n + 1, 0, _, _, _, _, h => by omega
  | n + 1, m + 1, t, h0, h1, h2, h3 => by
    show (if u t < 0 then 0 else dpF u n (u t) + 1) = (if u t < 0 then 0 else dpF u m (u t) + 1)
    by_cases c : u t < 0
    · rw [if_pos c, if_pos c]
    · have := hu t h0 h1
      rw [if_neg c, if_neg c, dpF_st hu n m (u t) (by omega) (by omega) (by omega) (by omega)]
theorem DP_eq {u : Int → Int} {T t : Int} (hu : UOK u T) (h0 : 0 ≤ t) (h1 : t < T) : DP u t = if u t < 0 then 0 else DP u (u t) + 1 := by
  show (if u t < 0 then 0 else dpF u t.toNat (u t) + 1) = _
  by_cases c : u t < 0
  · rw [if_pos c, if_pos c]
  · have := hu t h0 h1
    rw [if_neg c, if_neg c]
    show dpF u t.toNat (u t) + 1 = dpF u ((u t).toNat + 1) (u t) + 1
    rw [dpF_st hu t.toNat ((u t).toNat + 1) (u t) (by omega) (by omega) (by omega) (by omega)]
theorem saF_st {u : Int → Int} {T line : Int} (hu : UOK u T) : ∀ (n m : Nat) (t : Int), 0 ≤ t → t < T → t.toNat < n → t.toNat < m → saF u line n t = saF u line m t
  | 0, _, _, _, _, h, _ => by omega
  | n + 1, 0, _, _, _, _, h => by omega
  | n + 1, m + 1, t, h0, h1, h2, h3 => by
    show (if 0 ≤ u t ∧ line < DP u t then saF u line n (u t) else t) = (if 0 ≤ u t ∧ line < DP u t then saF u line m (u t) else t)
    by_cases c : 0 ≤ u t ∧ line < DP u t
    · have := hu t h0 h1
      rw [if_pos c, if_pos c, saF_st hu n m (u t) (by omega) (by omega) (by omega) (by omega)]
    · rw [if_neg c, if_neg c]
theorem SA_eq {u : Int → Int} {T line t : Int} (hu : UOK u T) (h0 : 0 ≤ t) (h1 : t < T) : SA u line t = if 0 ≤ u t ∧ line < DP u t then SA u line (u t) else t := by
  show (if 0 ≤ u t ∧ line < DP u t then saF u line t.toNat (u t) else t) = _
  by_cases c : 0 ≤ u t ∧ line < DP u t
  · have := hu t h0 h1
    rw [if_pos c, if_pos c]
    exact saF_st hu t.toNat ((u t).toNat + 1) (u t) (by omega) (by omega) (by omega) (by omega)
  · rw [if_neg c, if_neg c]
theorem DP_b {u : Int → Int} {T : Int} (hu : UOK u T) : ∀ (n : Nat) (t : Int), t.toNat < n → 0 ≤ t → t < T → 0 ≤ DP u t ∧ DP u t ≤ t
  | 0, _, h, _, _ => by omega
  | n + 1, t, h, h0, h1 => by
    rw [DP_eq hu h0 h1]
    have := hu t h0 h1
    by_cases c : u t < 0
    · rw [if_pos c]; omega
    · have := DP_b hu n (u t) (by omega) (by omega) (by omega)
      rw [if_neg c]; omega
theorem SA_b {u : Int → Int} {T line : Int} (hu : UOK u T) : ∀ (n : Nat) (t : Int), t.toNat < n → 0 ≤ t → t < T → 0 ≤ SA u line t ∧ SA u line t ≤ t
  | 0, _, h, _, _ => by omega
  | n + 1, t, h, h0, h1 => by
    rw [SA_eq hu h0 h1]
    have := hu t h0 h1
    by_cases c : 0 ≤ u t ∧ line < DP u t
    · have := SA_b (line := line) hu n (u t) (by omega) (by omega) (by omega)
      rw [if_pos c]; omega
    · rw [if_neg c]; omega
theorem DP_bb {u : Int → Int} {T t : Int} (hu : UOK u T) (h0 : 0 ≤ t) (h1 : t < T) : 0 ≤ DP u t ∧ DP u t ≤ t := DP_b hu (t.toNat + 1) t (by omega) h0 h1
theorem SA_bb {u : Int → Int} {T line t : Int} (hu : UOK u T) (h0 : 0 ≤ t) (h1 : t < T) : 0 ≤ SA u line t ∧ SA u line t ≤ t := SA_b hu (t.toNat + 1) t (by omega) h0 h1
/-- what things are under, one of them freed -/
def uF (w : Int → Int) (fr t : Int) : Int := if t = fr then -1 else w t
theorem uF_ok {w : Int → Int} {fr T : Int} (h : ∀ t : Int, 0 ≤ t → t < T → -1 ≤ w t ∧ w t < t) : UOK (uF w fr) T := fun t a b => by
  have := h t a b
  unfold uF
  split <;> omega
theorem ev_sit {h : fx_H} {line fr : Int} (v : TV 1 h) : Ret (f_X0_sit FU La_167 43 1 line fr h) (fun h' => (∀ a i : Int, ¬ (a = 43 ∧ (i = 4 ∨ i = 5)) → a ≠ 44 → a ≠ 45 → h' a i = h a i) ∧ h' 43 4 = h 1 2 ∧ h' 43 5 = h 1 4 ∧ h' 44 9 = -1 ∧ ∀ t : Int, 0 ≤ t → t < h 1 0 → h' 44 t = SA (uF (h 2) fr) line t) := by
  unfold TV at v
  obtain ⟨⟨v1, v1'⟩, ⟨v2, v2'⟩, ⟨v3, v3'⟩, ⟨v4, v4'⟩, ⟨v5, v5'⟩, ⟨v6, v6'⟩, v7, v8, v9, v10, v11, v12, v13⟩ := v
  have hu : UOK (uF (h 2) fr) (h 1 0) := uF_ok v7
  unfold f_X0_sit
  rw [lb_tg_43_0, ev_fill lb_ln_44 (by omega) (by omega), Option.bind_some]
  generalize hg : fl (fx_up (fx_up h 43 4 (h 1 2)) 43 5 (fx_up h 43 4 (h 1 2) 1 4)) 44 10 (-1) = g
  have g1 : ∀ a i : Int, ¬ (a = 43 ∧ (i = 4 ∨ i = 5)) → a ≠ 44 → g a i = h a i := fun a i b1 b2 => by
    subst hg
    rw [fl_out (by omega)]; simp (disch := omega) only [up_ne, up_eq]
  have g2 : g 43 4 = h 1 2 := by subst hg; rw [fl_out (by omega)]; simp (disch := omega) only [up_ne, up_eq]
  have g3 : g 43 5 = h 1 4 := by subst hg; rw [fl_out (by omega)]; simp (disch := omega) only [up_ne, up_eq]
  have g4 : ∀ i : Int, 0 ≤ i → i < 10 → g 44 i = -1 := fun i a b => by subst hg; rw [fl_in rfl a b]
  have gT : g 1 0 = h 1 0 := g1 _ _ (by omega) (by omega)
  refine Ret.bind (Ret.mono (loop_for (fun j s => (∀ a i : Int, a ≠ 44 → a ≠ 45 → s a i = g a i) ∧ (∀ i : Int, j ≤ i → i < 10 → s 44 i = -1) ∧ ∀ t : Int, 0 ≤ t → t < j → s 45 t = DP (uF (h 2) fr) t ∧ s 44 t = SA (uF (h 2) fr) line t) (h 1 0) (FU_gt (by omega)) (by omega) ⟨fun _ _ _ _ => rfl, fun i a b => g4 i a b, fun t _ _ => by omega⟩ (fun j s b1 b2 ⟨i1, i2, i3⟩ => ?_) (fun s ⟨i1, i2, i3⟩ => ?_)) (fun r hr => ?_))
  · have s0 : s 1 0 = h 1 0 := by rw [i1 _ _ (by omega) (by omega)]; exact gT
    have s2 : s 2 j = h 2 j := by rw [i1 _ _ (by omega) (by omega)]; exact g1 _ _ (by omega) (by omega)
    obtain ⟨u0, u1⟩ := hu j b1 b2
    have dj := DP_eq hu b1 b2
    have sj := SA_eq (line := line) hu b1 b2
    have db := DP_bb hu b1 b2
    unfold s_X0_sit_1
    simp only [lb_tg_43_0, lb_tg_43_1, tc_tg_6 TC_1]
    rw [if_pos (by omega), show (if j = fr then some (-1 : Int) else (fx_rd La_167 s (1 + 1) j).bind fun v15 => some v15) = some (uF (h 2) fr j) by
      unfold uF
      rw [show (1 : Int) + 1 = 2 from rfl, rdl lb_ln_2 b1 (by omega), Option.bind_some, s2]
      split <;> rfl, Option.bind_some, ev_within, Option.bind_some, wid (z := j - 1) (by omega) (by omega), wid (z := j + 1) (by omega) (by omega)]
    generalize uF (h 2) fr j = x at u0 u1 dj sj
    by_cases c : 0 ≤ x
    · obtain ⟨i4, i5⟩ := i3 x c (by omega)
      have xb := DP_bb hu c (by omega)
      rw [if_neg (by omega)] at dj
      rw [if_pos (show 0 ≤ x ∧ x ≤ j - 1 by omega), if_pos (by decide), rdl lb_ln_45 c (by omega), Option.bind_some, Option.bind_some, wrl lb_ln_45 b1 (by omega), Option.bind_some, if_pos (by decide), rdl lb_ln_45 b1 (by omega), Option.bind_some, i4, wid (by omega) (by omega), up_eq rfl rfl, ← dj]
      by_cases c2 : line < DP (uF (h 2) fr) j
      · rw [if_pos ⟨c, c2⟩] at sj
        rw [if_pos c2, Option.bind_some, if_pos rfl, rdl lb_ln_44 c (by omega), Option.bind_some, Option.bind_some, wrl lb_ln_44 b1 (by omega), Option.bind_some, up_ne (by omega), i5, ← sj]
        refine ⟨_, rfl, fun a i b b' => ?_, fun i b b' => ?_, fun t b b' => ?_⟩
        · rw [up_ne (by omega), up_ne (by omega)]; exact i1 a i b b'
        · rw [up_ne (by omega), up_ne (by omega)]; exact i2 i (by omega) b'
        · by_cases e : t = j
          · subst e; simp (disch := omega) only [up_ne, up_eq]; exact ⟨trivial, trivial⟩
          · simp (disch := omega) only [up_ne, up_eq]; exact i3 t b (by omega)
      · rw [if_neg (fun z => c2 z.2)] at sj
        rw [if_neg c2, Option.bind_some, if_neg (by decide), Option.bind_some, wrl lb_ln_44 b1 (by omega), Option.bind_some]
        refine ⟨_, rfl, fun a i b b' => ?_, fun i b b' => ?_, fun t b b' => ?_⟩
        · rw [up_ne (by omega), up_ne (by omega)]; exact i1 a i b b'
        · rw [up_ne (by omega), up_ne (by omega)]; exact i2 i (by omega) b'
        · by_cases e : t = j
          · subst e; simp (disch := omega) only [up_ne, up_eq]; exact ⟨trivial, sj.symm⟩
          · simp (disch := omega) only [up_ne, up_eq]; exact i3 t b (by omega)
    · rw [if_pos (by omega)] at dj
      rw [if_neg (by omega)] at sj
      rw [if_neg (show ¬ (0 ≤ x ∧ x ≤ j - 1) by omega), if_neg (by decide), Option.bind_some, wrl lb_ln_45 b1 (by omega), Option.bind_some, if_neg (by decide), Option.bind_some, if_neg (by decide), Option.bind_some, wrl lb_ln_44 b1 (by omega), Option.bind_some]
      refine ⟨_, rfl, fun a i b b' => ?_, fun i b b' => ?_, fun t b b' => ?_⟩
      · rw [up_ne (by omega), up_ne (by omega)]; exact i1 a i b b'
      · rw [up_ne (by omega), up_ne (by omega)]; exact i2 i (by omega) b'
      · by_cases e : t = j
        · subst e; simp (disch := omega) only [up_ne, up_eq]; exact ⟨dj.symm, sj.symm⟩
        · simp (disch := omega) only [up_ne, up_eq]; exact i3 t b (by omega)
  · have s0 : s 1 0 = h 1 0 := by rw [i1 _ _ (by omega) (by omega)]; exact gT
    unfold s_X0_sit_1
    simp only
    rw [if_neg (by omega)]
  · obtain ⟨r1, s⟩ := r
    obtain ⟨-, i1, i2, i3⟩ := hr
    simp only at i1 i2 i3 ⊢
    refine Ret.ok ⟨fun a i b b' b2 => by rw [i1 a i b' b2]; exact g1 a i b b', ?_, ?_, i2 9 (by omega) (by omega), fun t a b => (i3 t a b).2⟩
    · rw [i1 _ _ (by omega) (by omega)]; exact g2
    · rw [i1 _ _ (by omega) (by omega)]; exact g3
theorem ev_depth {g : fx_H} {u : Int → Int} {T t : Int} (T9 : T ≤ 9) (hu : UOK u T) (hg : ∀ s : Int, 0 ≤ s → s < T → g 131 s = u s) (h0 : 0 ≤ t) (h1 : t < T) : f_X6_depth FU La_167 126 t g = some (DP u t) := by
  unfold f_X6_depth
  rw [lb_tg_126_6, rdl lb_ln_131 h0 (by omega), Option.bind_some, hg t h0 h1]
  obtain ⟨u0, u1⟩ := hu t h0 h1
  have db := DP_bb hu h0 h1
  have key : Ret (fx_loop (s_X6_depth_1 FU La_167 126 g) FU (0, u t)) (fun r => r.1 = DP u t) := by
    refine loop_ret (fun q => -1 ≤ q.2 ∧ q.2 < T ∧ 0 ≤ q.1 ∧ q.1 + (if q.2 < 0 then 0 else DP u q.2 + 1) = DP u t) (fun q => (q.2 + 1).toNat) (fun q hq => ?_) FU _ ⟨u0, by show u t < T; omega, Int.le_refl 0, by show 0 + (if u t < 0 then 0 else DP u (u t) + 1) = _; rw [DP_eq hu h0 h1]; omega⟩ (FU_gt (by show (u t + 1).toNat < _; omega))
    obtain ⟨n, up⟩ := q
    obtain ⟨q1, q2, q3, q4⟩ := hq
    simp only at q1 q2 q3 q4
    unfold s_X6_depth_1
    simp only [lb_tg_126_6]
    by_cases c : up = -1
    · rw [if_neg (not_not_intro c)]
      refine Or.inr ⟨_, rfl, ?_⟩
      rw [if_pos (by omega)] at q4
      show n = _
      omega
    · rw [if_neg (by omega)] at q4
      obtain ⟨w0, w1⟩ := hu up (by omega) q2
      have w2 := DP_eq hu (show 0 ≤ up by omega) q2
      have w3 := DP_bb hu (show 0 ≤ up by omega) q2
      rw [if_pos c, rdl lb_ln_131 (by omega) (by omega), Option.bind_some, hg up (by omega) q2, wid (by omega) (by omega)]
      refine Or.inl ⟨_, rfl, ⟨w0, by show u up < T; omega, by show 0 ≤ n + 1; omega, ?_⟩, by show (u up + 1).toNat < (up + 1).toNat; omega⟩
      show n + 1 + (if u up < 0 then 0 else DP u (u up) + 1) = DP u t
      rw [← w2]; omega
  obtain ⟨⟨n, up⟩, e, hr⟩ := key
  rw [e, Option.bind_some]
  simp only at hr ⊢
  rw [hr]
theorem ev_layLine {g : fx_H} {w : Int → Int} {T line fr : Int} (hT : g 127 0 = T) (T0 : 0 ≤ T) (T9 : T ≤ 9) (l0 : 0 ≤ line) (hw : ∀ t : Int, 0 ≤ t → t < T → g 127 (1 + t) = w t ∧ -1 ≤ w t ∧ w t < t) : Ret (f_X6_layLine FU La_167 126 line fr g) (fun g' => (∀ a i : Int, a ≠ 131 → a ≠ 132 → g' a i = g a i) ∧ SOK (SA (uF w fr) line) T g') := by
  have hu : UOK (uF w fr) T := uF_ok (fun t a b => (hw t a b).2)
  unfold f_X6_layLine
  refine Ret.bind (Ret.mono (loop_for (fun j s => (∀ a i : Int, a ≠ 131 → s a i = g a i) ∧ ∀ t : Int, 0 ≤ t → t < j → s 131 t = uF w fr t) T (FU_gt (by omega)) (by omega) ⟨fun _ _ _ => rfl, fun t _ _ => by omega⟩ (fun j s b1 b2 ⟨i1, i2⟩ => ?_) (fun s ⟨i1, i2⟩ => ?_)) (fun r hr => ?_))
  · unfold s_X6_layLine_1
    simp only [lb_tg_126_0, lb_tg_126_6]
    rw [ev_things, Option.bind_some, i1 127 0 (by omega), hT, if_pos b2, wid (z := 1 + j) (by omega) (by omega), rd127 (by omega) (by omega), Option.bind_some, i1 127 (1 + j) (by omega), (hw j b1 b2).1, show (if j = fr then some (-1 : Int) else some (w j)) = some (uF w fr j) by unfold uF; split <;> rfl, Option.bind_some, wrl lb_ln_131 b1 (by omega), Option.bind_some, wid (z := j + 1) (by omega) (by omega)]
    refine ⟨_, rfl, fun a i b => ?_, fun t b b' => ?_⟩
    · rw [up_ne (by omega)]; exact i1 a i b
    · by_cases e : t = j
      · subst e; simp (disch := omega) only [up_ne, up_eq]
      · simp (disch := omega) only [up_ne, up_eq]; exact i2 t b (by omega)
  · unfold s_X6_layLine_1
    simp only
    rw [ev_things, Option.bind_some, i1 127 0 (by omega), hT, if_neg (by omega)]
  · obtain ⟨r1, g1⟩ := r
    obtain ⟨-, j1, j2⟩ := hr
    simp only at j1 j2 ⊢
    refine Ret.bind (Ret.mono (loop_for (fun j s => (∀ a i : Int, a ≠ 132 → s a i = g1 a i) ∧ ∀ t : Int, 0 ≤ t → t < j → s 132 t = SA (uF w fr) line t) T (FU_gt (by omega)) (by omega) ⟨fun _ _ _ => rfl, fun t _ _ => by omega⟩ (fun j s b1 b2 ⟨i1, i2⟩ => ?_) (fun s ⟨i1, i2⟩ => ?_)) (fun r hr => ?_))
    · have su : ∀ t : Int, 0 ≤ t → t < T → s 131 t = uF w fr t := fun t a b => by rw [i1 _ _ (by omega)]; exact j2 t a b
      unfold s_X6_layLine_2
      simp only [lb_tg_126_7]
      rw [ev_things, Option.bind_some, i1 127 0 (by omega), j1 127 0 (by omega), hT, if_pos b2, ev_depth T9 hu su b1 b2, Option.bind_some, wid (z := j + 1) (by omega) (by omega)]
      have key : Ret (fx_loop (s_X6_layLine_3 FU La_167 126 line s) FU (j, DP (uF w fr) j)) (fun r => r.1 = SA (uF w fr) line j) := by
        refine loop_ret (fun q => 0 ≤ q.1 ∧ q.1 < T ∧ q.2 = DP (uF w fr) q.1 ∧ SA (uF w fr) line q.1 = SA (uF w fr) line j) (fun q => q.2.toNat) (fun q hq => ?_) FU _ ⟨b1, b2, rfl, rfl⟩ (FU_gt (by have := DP_bb hu b1 b2; show (DP (uF w fr) j).toNat < _; omega))
        obtain ⟨is, d⟩ := q
        obtain ⟨q1, q2, q3, q4⟩ := hq
        simp only at q1 q2 q3 q4
        unfold s_X6_layLine_3
        simp only [lb_tg_126_6]
        have e1 := DP_eq hu q1 q2
        have e2 := SA_eq (line := line) hu q1 q2
        obtain ⟨e3, e4⟩ := hu is q1 q2
        have e5 := DP_bb hu q1 q2
        by_cases c : line < d
        · by_cases c2 : uF w fr is < 0
          · rw [if_pos c2] at e1; omega
          · rw [if_neg c2] at e1
            rw [if_pos ⟨by omega, by omega⟩] at e2
            rw [if_pos c, rdl lb_ln_131 q1 (by omega), Option.bind_some, su is q1 q2, wid (by omega) (by omega)]
            refine Or.inl ⟨_, rfl, ⟨by show 0 ≤ uF w fr is; omega, by show uF w fr is < T; omega, by show d + -1 = DP (uF w fr) (uF w fr is); omega, by show SA (uF w fr) line (uF w fr is) = _; rw [← e2]; exact q4⟩, by show (d + -1).toNat < d.toNat; omega⟩
        · rw [if_neg c]
          refine Or.inr ⟨_, rfl, ?_⟩
          rw [if_neg (by omega)] at e2
          show is = _
          omega
      obtain ⟨⟨is, d⟩, e, hr⟩ := key
      rw [e, Option.bind_some]
      simp only at hr ⊢
      rw [wrl lb_ln_132 b1 (by omega), Option.bind_some, hr]
      refine ⟨_, rfl, fun a i b => ?_, fun t b b' => ?_⟩
      · rw [up_ne (by omega)]; exact i1 a i b
      · by_cases e : t = j
        · subst e; simp (disch := omega) only [up_ne, up_eq]
        · simp (disch := omega) only [up_ne, up_eq]; exact i2 t b (by omega)
    · unfold s_X6_layLine_2
      simp only
      rw [ev_things, Option.bind_some, i1 127 0 (by omega), j1 127 0 (by omega), hT, if_neg (by omega)]
    · obtain ⟨r2, g2⟩ := r
      obtain ⟨-, j3, j4⟩ := hr
      simp only at j3 j4 ⊢
      exact Ret.ok ⟨fun a i b b' => by rw [j3 a i b', j1 a i b], fun t a b => ⟨j4 t a b, (SA_bb hu a b).1⟩⟩
