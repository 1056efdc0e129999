-- needs: 3a 3b 3c 3d 3e 3f
theorem fxb_eq (x : Int) : fx_b x = x.bmod 256 := by
  unfold fx_b
  rw [Int8.toInt_toInt32, Int32.toInt_toInt8, fx_ti]
  unfold fx_w
  exact Int.bmod_bmod_of_dvd (by decide)
theorem land255 (y : Int) : fx_land y 255 = y % 256 := by
  unfold fx_land
  have h1 : (Int64.ofInt y &&& Int64.ofInt 255).toBitVec = BitVec.ofInt 64 y &&& 255#64 := rfl
  have h2 : (BitVec.ofInt 64 y &&& 255#64).toNat = ((y % 256).toNat) := by
    rw [BitVec.toNat_and, BitVec.toNat_ofInt]
    show ((y % (2 ^ 64 : Nat)).toNat) &&& (2 ^ 8 - 1) = _
    rw [Nat.and_two_pow_sub_one_eq_mod]
    omega
  show (Int64.ofInt y &&& Int64.ofInt 255).toBitVec.toInt = _
  rw [h1, BitVec.toInt_eq_toNat_of_lt (by rw [h2]; omega), h2]
  omega
theorem byte_rel (y : Int) : 0 ≤ fx_w (fx_land y 255) ∧ fx_w (fx_land y 255) ≤ 255 ∧ fx_b (fx_b (fx_w y)) = fx_b (fx_w (fx_land y 255)) := by
  rw [land255, wid (by omega) (by omega)]
  refine ⟨by omega, by omega, ?_⟩
  rw [fxb_eq, fxb_eq, fxb_eq]
  unfold fx_w
  rw [Int.bmod_bmod_of_dvd (by decide), Int.bmod_bmod_of_dvd (by decide)]
  have := Int.emod_bmod (x := y) (n := 256)
  exact this.symm
section SIM
variable {CL CP : fx_H → Prop} {k : Int} {h : fx_H} {x : Option (Int × fx_H)} {y : fx_H → Option (Int × fx_H)}
theorem Rel_text {h' : fx_H} (hL : FrC CL) (hP : FrC CP) (R : Rel CL CP k h) (e : ∀ a i : Int, ¬ (a = 41 ∧ i = 1) → a ≠ 42 → a ≠ 141 → ¬ (a = 126 ∧ i = 17) → h' a i = h a i) (rt : RT h') : Rel CL CP (k + 1) h' := by
  obtain ⟨r1, r2, r3, ⟨r4, r4'⟩, r5, r6, ⟨r7, r8⟩, ⟨r9, r10⟩, r11, r12⟩ := R
  have hb := r1
  unfold TV at hb
  refine ⟨TV_congr (fun a i _ _ => e a i (by omega) (by omega) (by omega) (by omega)) r1, TR_congr (fun a i _ _ => e a i (by omega) (by omega) (by omega) (by omega)) (fun i _ _ => e 127 i (by omega) (by omega) (by omega) (by omega)) ⟨hb.1.2, hb.2.2.2.2.2.1.2⟩ r2, RI_congr (fun a i q => e a i (by omega) (by omega) (by omega) (by omega)) r3, ?_, rt, RS_congr (fun a i q => e a i (by omega) (by omega) (by omega) (by omega)) r6, ?_⟩
  · unfold RN
    simp (disch := omega) only [e]
    exact ⟨r4, r4'⟩
  · unfold RC
    rw [e 0 13 (by omega) (by omega) (by omega) (by omega), e 48 5 (by omega) (by omega) (by omega) (by omega), e 84 4 (by omega) (by omega) (by omega) (by omega)]
    exact ⟨⟨r7, by omega⟩, ⟨r9, fun q => hL h h' (fun a i q => e a i (by omega) (by omega) (by omega) (by omega)) (r10 q)⟩, ⟨r11, fun q => hP h h' (fun a i q => e a i (by omega) (by omega) (by omega) (by omega)) (r12 q)⟩⟩
/-- nothing has changed at all -/
theorem sm_same (R : Rel CL CP k h) {z : Int} (hx : x = some (z, h)) (hy : y h = some (z, h)) : Sm CL CP k x y := Ret.eq hx (Ret.eq hy ⟨rfl, Rel_inc R⟩)
theorem sim_clear (hL : FrC CL) (hP : FrC CP) (R : Rel CL CP k h) (hk : k ≤ 1000) : Sm CL CP k (f_X5_clear FU La_167 0 h) (f_X6_clear FU La_167 126) := by
  obtain ⟨⟨t1, t2, t3⟩, t4⟩ := R.2.2.2.2.1
  unfold f_X5_clear
  rw [lb_tg_0_4]
  refine Ret.ok ?_
  unfold f_X6_clear
  refine Ret.ok ⟨?_, Rel_text hL hP R (fun a i b1 b2 b3 b4 => ?_) ?_⟩
  · simp (disch := omega) only [up_ne, up_eq]; exact t1
  · simp (disch := omega) only [up_ne, up_eq]
  · unfold RT
    simp (disch := omega) only [up_ne, up_eq]
    exact ⟨⟨trivial, by omega, by omega⟩, fun i a b => by omega⟩
theorem sim_part (hL : FrC CL) (hP : FrC CP) (R : Rel CL CP k h) (hk : k ≤ 1000) (w : Int) : Sm CL CP k (f_X5_part FU La_167 0 w h) (f_X6_part FU La_167 126 w) := by
  obtain ⟨⟨a1, a2, a3⟩, a4, a5⟩ := R.2.2.2.1
  by_cases w0 : w = 0
  · subst w0
    exact sm_same R rfl (by unfold f_X6_part; rw [if_pos rfl, Option.bind_some, a4])
  · by_cases w1 : w = 1
    · subst w1
      exact sm_same R rfl (by unfold f_X6_part; rw [if_neg w0, if_pos rfl, Option.bind_some, Option.bind_some, a5])
    · refine sm_bad hL hP R (z := -2) ?_ (fun g hg => ?_)
      · unfold f_X5_part
        rw [if_neg w0, if_neg w1]; rfl
      · unfold f_X6_part
        rw [if_neg w0, if_neg w1, ev_bad]; rfl
theorem sim_status (hL : FrC CL) (hP : FrC CP) (R : Rel CL CP k h) (hk : k ≤ 1000) (w : Int) : Sm CL CP k (f_X5_status FU La_167 0 w h) (f_X6_status FU La_167 126 w) := by
  obtain ⟨⟨a1, a2, a3⟩, a4, a5⟩ := R.2.2.2.1
  have key : ∀ w : Int, 0 ≤ w → w ≤ 2 → f_X6_status FU La_167 126 w h = some (h 130 w, h) := fun w h0 h1 => by
    unfold f_X6_status
    rw [ev_in, Option.bind_some, lb_tg_126_3, rd_ok h0 (by rw [lb_ln_130]; omega)]
    simp [h0, h1]
  by_cases w0 : w = 0
  · subst w0
    exact sm_same R rfl (by rw [key 0 (by omega) (by omega), a1])
  · by_cases w1 : w = 1
    · subst w1
      exact sm_same R rfl (by rw [key 1 (by omega) (by omega), a2])
    · by_cases w2 : w = 2
      · subst w2
        exact sm_same R rfl (by rw [key 2 (by omega) (by omega), a3])
      · refine sm_bad hL hP R (z := -1) ?_ (fun g hg => ?_)
        · unfold f_X5_status
          rw [if_neg w0, if_neg w1, if_neg w2]; rfl
        · unfold f_X6_status
          have : ¬ (0 ≤ w ∧ w ≤ 2) := by omega
          rw [ev_in, Option.bind_some, ev_bad]
          simp [this]
/-- amounts: the same on both sides -/
theorem amount_ok (R : Rel CL CP k h) {w : Int} (w0 : 0 ≤ w) (w4 : w ≤ 4) : ∃ v : Int, f_X5_amount FU La_167 0 w h = some v ∧ (∀ g : fx_H, (∀ i : Int, g 127 i = h 127 i) → g 126 17 = h 126 17 → f_X6_counted FU La_167 126 w g = some v) ∧ 0 ≤ v ∧ v ≤ 250 := by
  obtain ⟨RV, RR, R3, R4, R5, R6, R7⟩ := id R
  have RV' := RV
  have RR' := RR
  unfold TV at RV'
  unfold TR at RR'
  obtain ⟨⟨v1, v1'⟩, ⟨v2, v2'⟩, ⟨v3, v3'⟩, ⟨v4, v4'⟩, ⟨v5, v5'⟩, ⟨v6, v6'⟩, v7, v8, v9, v10, v11, v12, v13⟩ := RV'
  obtain ⟨r1, r2, r3, r4, r5, r6, r7, r8, r9, r10, r11, r12⟩ := RR'
  simp only [Int.zero_add] at r1 r2 r3 r4 r5 r6 r7 r8 r9 r10 r11 r12
  obtain ⟨⟨k1, k2⟩, -⟩ := id R7
  obtain ⟨⟨t1, t2, t3⟩, t4⟩ := R5
  unfold f_X5_amount f_X6_counted
  simp only [lb_tg_0_0, lb_tg_0_4, ev_things, ev_people, ev_hours, lb_tg_126_0]
  rcases (show w = 0 ∨ w = 1 ∨ w = 2 ∨ w = 3 ∨ w = 4 by omega) with rfl | rfl | rfl | rfl | rfl
  · exact ⟨_, rfl, fun g hg _ => by simp [hg, r1], by omega, by omega⟩
  · exact ⟨_, rfl, fun g hg _ => by simp [hg, r3], by omega, by omega⟩
  · exact ⟨_, rfl, fun g hg _ => by simp [hg, r4], by omega, by omega⟩
  · exact ⟨_, rfl, fun g hg _ => by rw [rd127 (by omega) (by omega)]; simp [hg, r6], by omega, by omega⟩
  · exact ⟨_, rfl, fun g hg h17 => by simp [h17, t1], by omega, by omega⟩
theorem sim_count (hL : FrC CL) (hP : FrC CP) (R : Rel CL CP k h) (hk : k ≤ 1000) (w : Int) : Sm CL CP k (f_X5_count FU La_167 0 w h) (f_X6_count FU La_167 126 w) := by
  by_cases c : 0 ≤ w ∧ w ≤ 4
  · obtain ⟨v, e1, e2, -⟩ := amount_ok R c.1 c.2
    refine sm_same R (z := v) ?_ ?_
    · unfold f_X5_count
      rw [ev_within, Option.bind_some, e1]
      simp [c]
    · unfold f_X6_count
      rw [ev_in, Option.bind_some, e2 h (fun _ => rfl) rfl]
      simp [c]
  · refine sm_bad hL hP R (z := -2) ?_ (fun g hg => ?_)
    · unfold f_X5_count
      rw [ev_within, Option.bind_some, if_neg c, if_neg (by decide)]; rfl
    · unfold f_X6_count
      rw [ev_in, Option.bind_some, if_neg c, if_neg (by decide), ev_bad]; rfl
theorem sim_type (hL : FrC CL) (hP : FrC CP) (R : Rel CL CP k h) (hk : k ≤ 1000) (v n : Int) : Sm CL CP k (f_X5_type FU La_167 0 v n h) (f_X6_type FU La_167 126 v n) := by
  obtain ⟨⟨t1, t2, t3⟩, t4⟩ := id R.2.2.2.2.1
  by_cases c : 1 ≤ n ∧ n ≤ 8
  · by_cases c2 : 250 < h 41 1 + n
    · refine sm_full hL hP R ?_ (fun g hg => ?_)
      · unfold f_X5_type
        rw [ev_within, Option.bind_some, if_pos c, if_neg (by decide), lb_tg_0_4, wid (by omega) (by omega), if_pos c2]; rfl
      · unfold f_X6_type
        rw [ev_in, Option.bind_some, if_pos c, if_neg (by decide), hg 126 17 (by omega), t1, wid (by omega) (by omega), if_pos c2, ev_full]; rfl
    · -- the class's loop
      have L1 : Ret (fx_loop (s_X5_type_1 FU La_167 0 v) FU (n - 1, h)) (fun r => (∀ a i : Int, a ≠ 42 → ¬ (a = 41 ∧ i = 1) → r.2 a i = h a i) ∧ r.2 41 1 = h 41 1 + n ∧ (∀ i : Int, i < h 41 1 → r.2 42 i = h 42 i) ∧ ∀ j : Int, 0 ≤ j → j < n → r.2 42 (h 41 1 + (n - 1 - j)) = fx_b (fx_b (fx_w (fx_lushr v (8 * j))))) := by
        refine loop_ret (fun (s : Int × fx_H) => -1 ≤ s.1 ∧ s.1 ≤ n - 1 ∧ (∀ a i : Int, a ≠ 42 → ¬ (a = 41 ∧ i = 1) → s.2 a i = h a i) ∧ s.2 41 1 = h 41 1 + (n - 1 - s.1) ∧ (∀ i : Int, i < h 41 1 → s.2 42 i = h 42 i) ∧ ∀ j : Int, s.1 < j → j < n → s.2 42 (h 41 1 + (n - 1 - j)) = fx_b (fx_b (fx_w (fx_lushr v (8 * j))))) (fun s => (s.1 + 1).toNat) (fun s hs => ?_) FU (n - 1, h) ⟨by show -1 ≤ n - 1; omega, Int.le_refl _, fun _ _ _ _ => rfl, by show h 41 1 = h 41 1 + (n - 1 - (n - 1)); omega, fun _ _ => rfl, fun j a b => by have : n - 1 < j := a; omega⟩ (FU_gt (by show (n - 1 + 1).toNat < _; omega))
        obtain ⟨i, g⟩ := s
        obtain ⟨i0, i1, i2, i3, i4, i5⟩ := hs
        simp only at i0 i1 i2 i3 i4 i5
        unfold s_X5_type_1 f_X3_append
        simp only [lb_tg_0_4, lb_tg_41_0]
        by_cases e : 0 ≤ i
        · refine Or.inl ⟨(i - 1, fx_up (fx_up g 42 (h 41 1 + (n - 1 - i)) (fx_b (fx_b (fx_w (fx_lushr v (8 * i)))))) 41 1 (h 41 1 + (n - 1 - i) + 1)), ?_, ⟨by show -1 ≤ i - 1; omega, by show i - 1 ≤ n - 1; omega, fun a i' b1 b2 => ?_, ?_, fun i' b => ?_, fun j b1 b2 => ?_⟩, by show (i - 1 + 1).toNat < (i + 1).toNat; omega⟩
          · rw [if_pos e, i3, if_pos (by omega), wid (z := 8 * i) (by omega) (by omega), wr_ok (by omega) (by rw [lb_ln_42]; omega), Option.bind_some, up_ne (by omega), i3, wid (z := h 41 1 + (n - 1 - i) + 1) (by omega) (by omega), Option.bind_some, wid (z := i + -1) (by omega) (by omega)]
            rfl
          · simp only; simp (disch := omega) only [up_ne, up_eq]; exact i2 a i' b1 b2
          · simp only; simp (disch := omega) only [up_ne, up_eq]; omega
          · simp only; simp (disch := omega) only [up_ne, up_eq]; exact i4 i' b
          · simp only at b1 ⊢
            by_cases e2 : j = i
            · subst e2; simp (disch := omega) only [up_ne, up_eq]
            · simp (disch := omega) only [up_ne, up_eq]; exact i5 j (by omega) b2
        · have : i = -1 := by omega
          subst this
          exact Or.inr ⟨(-1, g), by rw [if_neg e], i2, i3.trans (by omega), i4, fun j a b => i5 j (by omega) b⟩
      obtain ⟨⟨i1, h1⟩, e1, p1, p2, p3, p4⟩ := L1
      simp only at p1 p2 p3 p4
      have hx : f_X5_type FU La_167 0 v n h = some (h 41 1 + n, h1) := by
        unfold f_X5_type
        rw [ev_within, Option.bind_some, if_pos c, if_neg (by decide), lb_tg_0_4, wid (by omega) (by omega), if_neg c2, wid (by omega) (by omega), e1, Option.bind_some]
        simp only
        rw [p2]
      have L2 : Ret (fx_loop (s_X6_type_1 FU La_167 126 v) FU (n - 1, h1)) (fun r => (∀ a i : Int, a ≠ 141 → ¬ (a = 126 ∧ i = 17) → r.2 a i = h1 a i) ∧ r.2 126 17 = h 41 1 + n ∧ (∀ i : Int, i < h 41 1 → r.2 141 i = h1 141 i) ∧ ∀ j : Int, 0 ≤ j → j < n → r.2 141 (h 41 1 + (n - 1 - j)) = fx_w (fx_land (fx_lushr v (8 * j)) 255)) := by
        refine loop_ret (fun (s : Int × fx_H) => -1 ≤ s.1 ∧ s.1 ≤ n - 1 ∧ (∀ a i : Int, a ≠ 141 → ¬ (a = 126 ∧ i = 17) → s.2 a i = h1 a i) ∧ s.2 126 17 = h 41 1 + (n - 1 - s.1) ∧ (∀ i : Int, i < h 41 1 → s.2 141 i = h1 141 i) ∧ ∀ j : Int, s.1 < j → j < n → s.2 141 (h 41 1 + (n - 1 - j)) = fx_w (fx_land (fx_lushr v (8 * j)) 255)) (fun s => (s.1 + 1).toNat) (fun s hs => ?_) FU (n - 1, h1) ⟨by show -1 ≤ n - 1; omega, Int.le_refl _, fun _ _ _ _ => rfl, by show h1 126 17 = h 41 1 + (n - 1 - (n - 1)); rw [p1 _ _ (by omega) (by omega)]; omega, fun _ _ => rfl, fun j a b => by have : n - 1 < j := a; omega⟩ (FU_gt (by show (n - 1 + 1).toNat < _; omega))
        obtain ⟨i, g⟩ := s
        obtain ⟨i0, i1, i2, i3, i4, i5⟩ := hs
        simp only at i0 i1 i2 i3 i4 i5
        unfold s_X6_type_1
        simp only [lb_tg_126_16]
        by_cases e : 0 ≤ i
        · refine Or.inl ⟨(i - 1, fx_up (fx_up g 141 (h 41 1 + (n - 1 - i)) (fx_w (fx_land (fx_lushr v (8 * i)) 255))) 126 17 (h 41 1 + (n - 1 - i) + 1)), ?_, ⟨by show -1 ≤ i - 1; omega, by show i - 1 ≤ n - 1; omega, fun a i' b1 b2 => ?_, ?_, fun i' b => ?_, fun j b1 b2 => ?_⟩, by show (i - 1 + 1).toNat < (i + 1).toNat; omega⟩
          · rw [if_pos e, i3, wid (z := 8 * i) (by omega) (by omega), wr_ok (by omega) (by rw [lb_ln_141]; omega), Option.bind_some, up_ne (by omega), i3, wid (z := h 41 1 + (n - 1 - i) + 1) (by omega) (by omega), wid (z := i + -1) (by omega) (by omega)]
            rfl
          · simp only; simp (disch := omega) only [up_ne, up_eq]; exact i2 a i' b1 b2
          · simp only; simp (disch := omega) only [up_ne, up_eq]; omega
          · simp only; simp (disch := omega) only [up_ne, up_eq]; exact i4 i' b
          · simp only at b1 ⊢
            by_cases e2 : j = i
            · subst e2; simp (disch := omega) only [up_ne, up_eq]
            · simp (disch := omega) only [up_ne, up_eq]; exact i5 j (by omega) b2
        · have : i = -1 := by omega
          subst this
          exact Or.inr ⟨(-1, g), by rw [if_neg e], i2, i3.trans (by omega), i4, fun j a b => i5 j (by omega) b⟩
      obtain ⟨⟨i2, h2⟩, e2, q1, q2, q3, q4⟩ := L2
      simp only at q1 q2 q3 q4
      have hy : f_X6_type FU La_167 126 v n h1 = some (h 41 1 + n, h2) := by
        unfold f_X6_type
        rw [ev_in, Option.bind_some, if_pos c, if_neg (by decide), p1 _ _ (by omega) (by omega), t1, wid (by omega) (by omega), if_neg c2, wid (by omega) (by omega), e2, Option.bind_some]
        simp only
        rw [q2]
      refine Ret.eq hx (Ret.eq hy ⟨rfl, Rel_text hL hP R (fun a i b1 b2 b3 b4 => ?_) ?_⟩)
      · show h2 a i = h a i
        rw [q1 a i b3 b4, p1 a i b2 b1]
      · show RT h2
        unfold RT
        have m1 : h2 41 1 = h 41 1 + n := by rw [q1 _ _ (by omega) (by omega), p2]
        simp only [m1]
        refine ⟨⟨q2, by omega, by omega⟩, fun i a b => ?_⟩
        by_cases e : i < h 41 1
        · rw [q3 i e, p1 _ _ (by omega) (by omega), q1 42 _ (by omega) (by omega), p3 i e]
          exact t4 i a e
        · obtain ⟨z1, z2, z3⟩ := byte_rel (fx_lushr v (8 * (h 41 1 + n - 1 - i)))
          have ei : i = h 41 1 + (n - 1 - (h 41 1 + n - 1 - i)) := by omega
          have w1 := p4 (h 41 1 + n - 1 - i) (by omega) (by omega)
          have w2 := q4 (h 41 1 + n - 1 - i) (by omega) (by omega)
          rw [← ei] at w1 w2
          rw [w2, q1 42 _ (by omega) (by omega), w1]
          exact ⟨z1, z2, z3⟩
  · refine sm_bad hL hP R (z := -2) ?_ (fun g hg => ?_)
    · unfold f_X5_type
      rw [ev_within, Option.bind_some, if_neg c, if_pos rfl]; rfl
    · unfold f_X6_type
      rw [ev_in, Option.bind_some, if_neg c, if_pos rfl, ev_bad]; rfl
end SIM
