-- needs: 7a
def WDm (b : Int → Int) (w a e : Int) : Prop := e - a = (fx_sN w : Int) ∧ ∀ k : Int, 0 ≤ k → k < (fx_sN w : Int) → b (a + k) = fx_sB w k
section WORDS
variable {b : Int → Int} {len : Int}
theorem spells_ok {s : fx_H} {w : Int} (hb : BB b len) (hc : BC b len s) (hw : 10 ≤ w ∧ w < 18) (a0 : 0 ≤ s 41 4) (ae : s 41 4 ≤ s 41 2) (el : s 41 2 ≤ len) : ∃ v : Int, f_X3_spells FU La_167 41 w s = some v ∧ (v = 0 ∨ v = 1) ∧ (v = 1 ↔ WDm b w (s 41 4) (s 41 2)) := by
  obtain ⟨b1, b2, b3⟩ := id hb
  have n6 := fx_sN_le w hw
  have sl : fx_slen w = some (fx_sN w : Int) := by unfold fx_slen; rw [if_pos hw]
  unfold f_X3_spells
  rw [sl, Option.bind_some, wid (by omega) (by omega)]
  by_cases c : (fx_sN w : Int) = s 41 2 - s 41 4
  · rw [if_neg (not_not_intro c)]
    have key : Ret (fx_loop (s_X3_spells_1 FU La_167 41 w s) FU 0) (fun e => (∃ i : Int, e = .inl i ∧ ∀ k : Int, 0 ≤ k → k < (fx_sN w : Int) → b (s 41 4 + k) = fx_sB w k) ∨ (e = .inr 0 ∧ ¬ ∀ k : Int, 0 ≤ k → k < (fx_sN w : Int) → b (s 41 4 + k) = fx_sB w k)) := by
      refine loop_ret (fun i => 0 ≤ i ∧ i ≤ (fx_sN w : Int) ∧ ∀ k : Int, 0 ≤ k → k < i → b (s 41 4 + k) = fx_sB w k) (fun i => ((fx_sN w : Int) - i).toNat) (fun i hi => ?_) FU 0 ⟨by omega, by omega, fun k x y => by omega⟩ (FU_gt (by omega))
      obtain ⟨i0, i1, i2⟩ := hi
      unfold s_X3_spells_1
      simp only [lb_tg_41_0]
      rw [sl, Option.bind_some]
      by_cases d : i < (fx_sN w : Int)
      · have f := fb_LT hb (i := s 41 4 + i) (by omega) (by omega)
        have ch : fx_sch w i = some (fx_sB w i) := by unfold fx_sch; rw [if_pos ⟨hw, i0, d⟩]
        have cb := (fx_sB_ok hw ⟨i0, d⟩).2.2
        rw [if_pos d, wid (z := s 41 4 + i) (by omega) (by omega), rd42 (by omega) (by omega), Option.bind_some, ch, Option.bind_some, hc.2 _ (by omega) (by omega), wid (z := i + 1) (by omega) (by omega)]
        by_cases q : b (s 41 4 + i) = fx_sB w i
        · rw [if_neg (not_not_intro ((f.2.2 _ cb.1 (by omega)).mpr q))]
          refine Or.inl ⟨_, rfl, ⟨by omega, by omega, fun k x y => ?_⟩, by omega⟩
          by_cases e : k = i
          · rw [e]; exact q
          · exact i2 k x (by omega)
        · rw [if_pos (fun z => q ((f.2.2 _ cb.1 (by omega)).mp z))]
          exact Or.inr ⟨_, rfl, Or.inr ⟨rfl, fun z => q (z i i0 d)⟩⟩
      · rw [if_neg d]
        exact Or.inr ⟨_, rfl, Or.inl ⟨i, rfl, fun k x y => i2 k x (by omega)⟩⟩
    obtain ⟨e, e1, k⟩ := key
    rw [e1, Option.bind_some]
    rcases k with ⟨i, rfl, k⟩ | ⟨rfl, k⟩
    · exact ⟨1, rfl, Or.inr rfl, ⟨fun _ => ⟨by omega, k⟩, fun _ => rfl⟩⟩
    · exact ⟨0, rfl, Or.inl rfl, ⟨fun z => absurd z (by decide), fun z => absurd z.2 k⟩⟩
  · rw [if_pos c]
    exact ⟨0, rfl, Or.inl rfl, ⟨fun z => absurd z (by decide), fun z => absurd z.1.symm c⟩⟩
def selW (a b c d e f k : Int) : Int := if k = 0 then a else if k = 1 then b else if k = 2 then c else if k = 3 then d else if k = 4 then e else f
theorem isWord_ok {g : fx_H} {w x0 x1 x2 x3 x4 x5 : Int} (hb : BB b len) (hr : BR b len g) (hw : 10 ≤ w ∧ w < 18) (t1 : g 126 20 = 1) (a0 : 0 ≤ g 126 18) (ae : 0 ≤ g 126 19) (el : g 126 18 + g 126 19 ≤ len) (hz : (if x4 = 0 then (4 : Int) else if x5 = 0 then 5 else 6) = (fx_sN w : Int)) (hs : ∀ k : Nat, k < fx_sN w → selW x0 x1 x2 x3 x4 x5 k = fx_sB w k) : ∃ v : Int, f_X6_isWord FU La_167 126 x0 x1 x2 x3 x4 x5 g = some v ∧ (v = 0 ∨ v = 1) ∧ (v = 1 ↔ WDm b w (g 126 18) (g 126 18 + g 126 19)) := by
  obtain ⟨b1, b2, b3⟩ := id hb
  have n6 := fx_sN_le w hw
  unfold f_X6_isWord
  have e0 : (if x4 = 0 then some (4 : Int) else ((if x5 = 0 then some (5 : Int) else some 6).bind fun v5 => some v5)) = some (fx_sN w : Int) := by
    rw [← hz]
    by_cases q1 : x4 = 0
    · rw [if_pos q1, if_pos q1]
    · rw [if_neg q1, if_neg q1]
      split <;> rfl
  rw [e0, Option.bind_some, t1]
  by_cases c : g 126 19 = (fx_sN w : Int)
  · rw [if_pos ⟨rfl, c⟩, Option.bind_some]
    have key : Ret (fx_loop (s_X6_isWord_1 FU La_167 126 x0 x1 x2 x3 x4 x5 (fx_sN w : Int) g) FU (1, 0)) (fun e => (e.1 = 1 ∧ ∀ k : Int, 0 ≤ k → k < (fx_sN w : Int) → b (g 126 18 + k) = fx_sB w k) ∨ (e.1 = 0 ∧ ¬ ∀ k : Int, 0 ≤ k → k < (fx_sN w : Int) → b (g 126 18 + k) = fx_sB w k)) := by
      refine loop_ret (fun s => 0 ≤ s.2 ∧ s.2 ≤ (fx_sN w : Int) ∧ (s.1 = 1 ∧ (∀ k : Int, 0 ≤ k → k < s.2 → b (g 126 18 + k) = fx_sB w k) ∨ s.1 = 0 ∧ ¬ ∀ k : Int, 0 ≤ k → k < (fx_sN w : Int) → b (g 126 18 + k) = fx_sB w k)) (fun s => ((fx_sN w : Int) - s.2).toNat) (fun s hs' => ?_) FU _ ⟨Int.le_refl 0, by show (0 : Int) ≤ _; omega, Or.inl ⟨rfl, fun k x y => by have : k < 0 := y; omega⟩⟩ (FU_gt (by show ((fx_sN w : Int) - 0).toNat < _; omega))
      obtain ⟨is, i⟩ := s
      obtain ⟨i0, i1, i2⟩ := hs'
      simp only at i0 i1 i2
      unfold s_X6_isWord_1
      simp only [lb_tg_126_16]
      rcases i2 with ⟨z1, z2⟩ | ⟨z1, z2⟩
      · by_cases d : i < (fx_sN w : Int)
        · have sE : (if i = 0 then some x0 else ((if i = 1 then some x1 else ((if i = 2 then some x2 else ((if i = 3 then some x3 else ((if i = 4 then some x4 else some x5).bind fun v54 => some v54)).bind fun v50 => some v50)).bind fun v46 => some v46)).bind fun v42 => some v42)) = some (fx_sB w i) := by
            have h1 := hs i.toNat (by omega)
            rw [show ((i.toNat : Nat) : Int) = i by omega] at h1
            rw [← h1]
            unfold selW
            rcases (show i = 0 ∨ i = 1 ∨ i = 2 ∨ i = 3 ∨ i = 4 ∨ i = 5 by omega) with rfl | rfl | rfl | rfl | rfl | rfl <;> rfl
          rw [if_pos ⟨d, by omega⟩, wid (z := g 126 18 + i) (by omega) (by omega), rd141 (by omega) (by omega), Option.bind_some, hr.2 _ (by omega) (by omega), sE, Option.bind_some, wid (z := i + 1) (by omega) (by omega)]
          by_cases q : b (g 126 18 + i) = fx_sB w i
          · rw [if_pos q, Option.bind_some]
            refine Or.inl ⟨_, rfl, ⟨by show 0 ≤ i + 1; omega, by show i + 1 ≤ _; omega, Or.inl ⟨rfl, fun k x y => ?_⟩⟩, by show ((fx_sN w : Int) - (i + 1)).toNat < ((fx_sN w : Int) - i).toNat; omega⟩
            have y : k < i + 1 := y
            by_cases e : k = i
            · rw [e]; exact q
            · exact z2 k x (by omega)
          · rw [if_neg q, Option.bind_some]
            exact Or.inl ⟨_, rfl, ⟨by show 0 ≤ i + 1; omega, by show i + 1 ≤ _; omega, Or.inr ⟨rfl, fun z => q (z i i0 d)⟩⟩, by show ((fx_sN w : Int) - (i + 1)).toNat < ((fx_sN w : Int) - i).toNat; omega⟩
        · rw [if_neg (fun y => d y.1)]
          exact Or.inr ⟨_, rfl, Or.inl ⟨z1, fun k x y => z2 k x (by omega)⟩⟩
      · rw [if_neg (fun y => y.2 z1)]
        exact Or.inr ⟨_, rfl, Or.inr ⟨z1, z2⟩⟩
    obtain ⟨⟨is, i⟩, e1, k⟩ := key
    simp only at k
    rw [e1, Option.bind_some]
    simp only
    rcases k with ⟨k1, k2⟩ | ⟨k1, k2⟩
    · rw [k1, zb_1]
      exact ⟨1, rfl, Or.inr rfl, ⟨fun _ => ⟨by omega, k2⟩, fun _ => rfl⟩⟩
    · rw [k1, zb_0]
      exact ⟨0, rfl, Or.inl rfl, ⟨fun z => absurd z (by decide), fun z => absurd z.2 k2⟩⟩
  · rw [if_neg (fun y => c y.2), Option.bind_some]
    have : fx_loop (s_X6_isWord_1 FU La_167 126 x0 x1 x2 x3 x4 x5 (fx_sN w : Int) g) FU (0, 0) = some (0, 0) := by
      refine loop_seq (fun _ => ((0 : Int), (0 : Int))) 0 (fun j hj => by omega) ?_ (FU_gt (by omega))
      unfold s_X6_isWord_1
      simp only
      rw [if_neg (fun y => y.2 trivial)]
    rw [this]
    exact ⟨0, rfl, Or.inl rfl, ⟨fun z => absurd z (by decide), fun z => absurd (show g 126 19 = _ by have := z.1; omega) c⟩⟩
/-- the reference stands one token ahead -/
def AHD (b : Int → Int) (len pos : Int) (g : fx_H) : Prop := TOK b len pos (g 126 18) (g 126 18 + g 126 19) (g 126 20) ∧ (g 126 18 < len → g 126 21 = b (g 126 18) - 48)
theorem AHD_congr {pos : Int} {g g' : fx_H} (e : ∀ i : Int, 18 ≤ i → i ≤ 21 → g' 126 i = g 126 i) (h : AHD b len pos g) : AHD b len pos g' := by
  unfold AHD
  rw [e 18 (by omega) (by omega), e 19 (by omega) (by omega), e 20 (by omega) (by omega), e 21 (by omega) (by omega)]
  exact h
theorem TOK_b {pos a e ty : Int} (h : TOK b len pos a e ty) : pos ≤ a ∧ a ≤ e ∧ e ≤ len ∧ (ty = 0 ↔ a = len) ∧ (¬ ty = 0 → a < e) ∧ (ty = 2 → a < len ∧ FG (b a)) := by
  obtain ⟨x1, x2, x3, x4, x5⟩ := h
  rcases x5 with ⟨z1, z2, z3⟩ | ⟨z1, z2, z3, z4, z5, z6, z7⟩ | ⟨z1, z2, z3, z4, z5, z6, z7⟩ | ⟨z1, z2, z3, z4, z5⟩
  · exact ⟨x1, by omega, by omega, by omega, by omega, by omega⟩
  · exact ⟨x1, by omega, by omega, by omega, by omega, by omega⟩
  · have : ty = 2 ∨ ty = 4 := by rw [z7]; split <;> omega
    exact ⟨x1, by omega, by omega, by omega, by omega, fun _ => ⟨z1, z2⟩⟩
  · have : ty = 3 ∨ ty = 4 := by rw [z5]; split <;> omega
    exact ⟨x1, by omega, by omega, by omega, by omega, by omega⟩
/-- a number stands there, as told -/
def GN (g : fx_H) (lo hi : Int) : Prop := g 126 20 = 2 ∧ lo ≤ g 126 21 ∧ g 126 21 ≤ hi
/-- what the class's reading of a number changes -/
def NMF (s s' : fx_H) : Prop := ∀ a i : Int, ¬ (a = 41 ∧ 2 ≤ i ∧ i ≤ 5) → s' a i = s a i
theorem number_ok {s g : fx_H} {lo hi : Int} (hb : BB b len) (hc : BC b len s) (f : s 41 5 = -1) (p0 : 0 ≤ s 41 2) (p1 : s 41 2 ≤ len) (ah : AHD b len (s 41 2) g) : ∃ (v : Int) (s' : fx_H), f_X3_number FU La_167 41 lo hi s = some (v, s') ∧ NMF s s' ∧ (GN g lo hi ∧ s' 41 5 = -1 ∧ v = g 126 21 ∧ s' 41 2 = g 126 18 + g 126 19 ∨ ¬ GN g lo hi ∧ s' 41 5 = g 126 18 ∧ v = -1 ∧ s' 41 2 = g 126 18 + g 126 19) := by
  obtain ⟨b1, b2, b3⟩ := id hb
  obtain ⟨t, e1, t1, t2⟩ := nextToken_ok hb hc p0 p1
  obtain ⟨q1, q2, q3⟩ := TOK_one t2 ah.1
  have tb := TOK_b ah.1
  have tl : t 41 1 = len := by rw [t1 _ _ (by omega)]; exact hc.1
  have tf : t 41 5 = -1 := by rw [t1 _ _ (by omega)]; exact f
  unfold f_X3_number
  rw [if_neg (not_not_intro f), e1, Option.bind_some, q3]
  have fail : f_X3_fail FU La_167 41 t = some (fx_up t 41 5 (g 126 18)) := by unfold f_X3_fail; rw [if_pos tf, q1]
  rw [fail]
  have bad : ¬ GN g lo hi → ∃ (v : Int) (s' : fx_H), ((some (fx_up t 41 5 (g 126 18))).bind fun h15 => some ((-1 : Int), h15)) = some (v, s') ∧ NMF s s' ∧ (GN g lo hi ∧ s' 41 5 = -1 ∧ v = g 126 21 ∧ s' 41 2 = g 126 18 + g 126 19 ∨ ¬ GN g lo hi ∧ s' 41 5 = g 126 18 ∧ v = -1 ∧ s' 41 2 = g 126 18 + g 126 19) := fun z => ⟨-1, _, rfl, fun a i y => by rw [up_ne (by omega)]; exact t1 a i (by omega), Or.inr ⟨z, up_eq rfl rfl, rfl, by rw [up_ne (by omega)]; exact q2⟩⟩
  by_cases c : g 126 20 = 2
  · obtain ⟨al, af⟩ := tb.2.2.2.2.2 c
    have f2 := fb_LT hb (i := g 126 18) (by omega) al
    have ff := (f2.2.2 (b (g 126 18)) (by omega) (by omega)).mpr rfl
    have fg : f_X3_figure FU La_167 41 t = some (g 126 21) := by
      unfold f_X3_figure
      rw [q1, tl, if_pos al, lb_tg_41_0, rd42 (by omega) (by omega), Option.bind_some, t1 42 _ (by omega), hc.2 _ (by omega) al, ff, ah.2 al, wid (by omega) (by omega)]; rfl
    rw [if_neg (not_not_intro c), fg, Option.bind_some, ev_within, Option.bind_some]
    by_cases d : lo ≤ g 126 21 ∧ g 126 21 ≤ hi
    · rw [if_pos d, if_neg (by decide), Option.bind_some, if_neg (by decide), Option.bind_some]
      exact ⟨_, t, rfl, fun a i y => t1 a i (by omega), Or.inl ⟨⟨c, d⟩, tf, rfl, q2⟩⟩
    · rw [if_neg d, if_pos rfl, Option.bind_some, if_pos rfl]
      exact bad (fun z => d z.2)
  · rw [if_pos c, Option.bind_some, if_pos rfl]
    exact bad (fun z => c z.1)
theorem number_dead {s : fx_H} {lo hi : Int} (f : ¬ s 41 5 = -1) : f_X3_number FU La_167 41 lo hi s = some (-1, s) := by unfold f_X3_number; rw [if_pos f]
theorem stops_ok {s g : fx_H} (hb : BB b len) (hc : BC b len s) (f : s 41 5 = -1) (p0 : 0 ≤ s 41 2) (p1 : s 41 2 ≤ len) (ah : AHD b len (s 41 2) g) : ∃ (v : Int) (s' : fx_H), f_X3_stops FU La_167 41 s = some (v, s') ∧ NMF s s' ∧ (g 126 20 = 3 ∧ v = 1 ∧ s' 41 5 = -1 ∧ s' 41 4 = g 126 18 ∧ s' 41 2 = g 126 18 + g 126 19 ∧ s' 41 3 = 3 ∨ ¬ g 126 20 = 3 ∧ v = 0 ∧ s' 41 5 = g 126 18 ∧ s' 41 2 = g 126 18 + g 126 19) := by
  obtain ⟨t, e1, t1, t2⟩ := nextToken_ok hb hc p0 p1
  obtain ⟨q1, q2, q3⟩ := TOK_one t2 ah.1
  have tb := TOK_b ah.1
  have tf : t 41 5 = -1 := by rw [t1 _ _ (by omega)]; exact f
  unfold f_X3_stops
  rw [if_pos f, e1, Option.bind_some, q3]
  by_cases c : g 126 20 = 3
  · rw [if_neg (not_not_intro c)]
    simp only [Option.bind_some]
    rw [if_pos tf, Option.bind_some, zb_1]
    exact ⟨1, t, rfl, fun a i y => t1 a i (by omega), Or.inl ⟨c, rfl, tf, q1, q2, by rw [q3]; exact c⟩⟩
  · have fail : f_X3_fail FU La_167 41 t = some (fx_up t 41 5 (g 126 18)) := by unfold f_X3_fail; rw [if_pos tf, q1]
    rw [if_pos c, fail]
    simp only [Option.bind_some]
    rw [up_eq rfl rfl, if_neg (by omega), Option.bind_some, zb_0]
    exact ⟨0, _, rfl, fun a i y => by rw [up_ne (by omega)]; exact t1 a i (by omega), Or.inr ⟨c, rfl, up_eq rfl rfl, by rw [up_ne (by omega)]; exact q2⟩⟩
theorem stops_dead {s : fx_H} (f : ¬ s 41 5 = -1) : f_X3_stops FU La_167 41 s = some (0, s) := by
  unfold f_X3_stops
  rw [if_neg f, Option.bind_some, if_neg f]
  rfl
theorem goOn_ok {g : fx_H} {pos : Int} (hb : BB b len) (hr : BR b len g) (p0 : 0 ≤ pos) (ah : TOK b len pos (g 126 18) (g 126 18 + g 126 19) (g 126 20)) : ∃ g' : fx_H, f_X6_goOn FU La_167 126 g = some g' ∧ LKF g g' ∧ AHD b len (g 126 18 + g 126 19) g' := by
  obtain ⟨b1, b2, b3⟩ := id hb
  have tb := TOK_b ah
  obtain ⟨g', e1, k1, k2, k3⟩ := look_ok (pos := g 126 18 + g 126 19) hb hr (by omega) (by omega)
  unfold f_X6_goOn
  rw [wid (by omega) (by omega), e1]
  exact ⟨g', rfl, k1, k2, k3⟩
/-- what the reference's taking of a number changes -/
def TKF (k : Int) (g g' : fx_H) : Prop := ∀ a i : Int, ¬ (a = 126 ∧ (i = 18 ∨ i = 19 ∨ i = 20 ∨ i = 21)) → ¬ (a = 143 ∧ i = k) → g' a i = g a i
theorem takes_ok {g : fx_H} {pos k lo hi : Int} (hb : BB b len) (hr : BR b len g) (p0 : 0 ≤ pos) (k0 : 0 ≤ k) (k3 : k < 3) (ah : AHD b len pos g) (gn : GN g lo hi) : ∃ g' : fx_H, f_X6_takes FU La_167 126 k lo hi g = some (1, g') ∧ TKF k g g' ∧ g' 143 k = g 126 21 ∧ AHD b len (g 126 18 + g 126 19) g' := by
  unfold f_X6_takes
  rw [if_neg (not_not_intro gn.1), ev_in, Option.bind_some, if_pos gn.2, if_neg (by decide), Option.bind_some, if_neg (by decide), lb_tg_126_24, wrl lb_ln_143 k0 k3, Option.bind_some]
  have u0 : ∀ a i : Int, ¬ (a = 143 ∧ i = k) → fx_up g 143 k (g 126 21) a i = g a i := fun a i z => up_ne (by omega)
  have u1 : fx_up g 143 k (g 126 21) 143 k = g 126 21 := up_eq rfl rfl
  generalize fx_up g 143 k (g 126 21) = w at u0 u1
  obtain ⟨g', e1, m1, m2⟩ := goOn_ok (g := w) (pos := pos) hb (BR_congr (u0 _ _ (by omega)) (fun i => u0 _ _ (by omega)) hr) p0 (by rw [u0 _ _ (by omega), u0 _ _ (by omega), u0 _ _ (by omega)]; exact ah.1)
  rw [u0 126 18 (by omega), u0 126 19 (by omega)] at m2
  rw [e1, Option.bind_some]
  exact ⟨g', rfl, fun a i x y => by rw [m1 a i x]; exact u0 a i y, by rw [m1 _ _ (by omega)]; exact u1, m2⟩
theorem takes_no {g : fx_H} {k lo hi : Int} (gn : ¬ GN g lo hi) : f_X6_takes FU La_167 126 k lo hi g = some (0, g) := by
  unfold f_X6_takes
  by_cases c : g 126 20 = 2
  · rw [if_neg (not_not_intro c), ev_in, Option.bind_some, if_neg (fun z => gn ⟨c, z⟩), if_pos rfl, Option.bind_some, if_pos rfl]
  · rw [if_pos c, Option.bind_some, if_pos rfl]
end WORDS
