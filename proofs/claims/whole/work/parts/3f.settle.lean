-- needs: 3a 3b 3c 3d 3e
theorem FU_gt {n : Nat} (h : n < 1000000000000) : n < FU := Nat.lt_of_lt_of_le h FU_big
def fl (h : fx_H) (a n v : Int) : fx_H := fun a' i => if a' = a ∧ 0 ≤ i ∧ i < n then v else h a' i
theorem fl_in {h : fx_H} {a n v a' i : Int} (e : a' = a) (h0 : 0 ≤ i) (h1 : i < n) : fl h a n v a' i = v := by unfold fl; rw [if_pos ⟨e, h0, h1⟩]
theorem fl_out {h : fx_H} {a n v a' i : Int} (e : a' ≠ a ∨ i < 0 ∨ n ≤ i) : fl h a n v a' i = h a' i := by
  unfold fl
  rw [if_neg (fun q => by omega)]
theorem ev_fill {Λ : fx_L} {a v : Int} {h : fx_H} {n : Int} (hn : fx_ln Λ a = n) (h0 : 0 ≤ n) (h1 : n ≤ 1000000) : f_J7_fill_53178 FU Λ a v h = some (fl h a n v) := by
  unfold f_J7_fill_53178
  rw [hn]
  obtain ⟨⟨i, g⟩, e, -, rfl⟩ := loop_for (step := s_J7_fill_53178_1 FU Λ a v n) (Fu := FU) (fun j g => g = fl h a j v) n (i := 0) (s := h) (FU_gt (by omega)) h0 (by
    funext a' i
    exact (fl_out (by omega)).symm) (fun j s b1 b2 e => by
    subst e
    refine ⟨fl h a (j + 1) v, ?_, rfl⟩
    unfold s_J7_fill_53178_1
    simp only
    rw [if_pos b2, wr_ok b1 (by omega), Option.bind_some, wid (by omega) (by omega)]
    congr 3
    funext a' i
    by_cases c : a' = a ∧ i = j
    · rw [up_eq c.1 c.2, fl_in c.1 (by omega) (by omega)]
    · rw [up_ne (by omega)]
      by_cases c2 : a' = a ∧ 0 ≤ i ∧ i < j
      · rw [fl_in c2.1 c2.2.1 c2.2.2, fl_in c2.1 (by omega) (by omega)]
      · rw [fl_out (by omega), fl_out (by omega)]) (fun s e => by
    unfold s_J7_fill_53178_1
    simp only
    rw [if_neg (by omega)])
  rw [e]
  rfl
theorem settle_ok {c n m : Int} {h : fx_H} (hc : TC c) : Ret (f_X4_settle FU La_167 c n m h) (fun h' => (∀ a i : Int, ¬ (c ≤ a ∧ a ≤ c + 18) → h' a i = h a i) ∧ (h' c 0 = h c 0 ∧ h' c 1 = h c 1 ∧ h' c 2 = n ∧ h' c 3 = m ∧ h' c 4 = 0 ∧ h' c 5 = 0) ∧ (∀ t : Int, h' (c + 1) t = h (c + 1) t) ∧ (∀ q : Int, 0 ≤ q → q < 5 → h' (c + 2) q = 0) ∧ (∀ q p : Int, 0 ≤ q → q < 5 → 0 ≤ p → p < 5 → h' (c + 4 + q) p = 9) ∧ (∀ p t : Int, 0 ≤ p → p < 5 → 0 ≤ t → t < 9 → h' (c + 10 + p) t = 0) ∧ (∀ p : Int, 0 ≤ p → p < 5 → h' (c + 15) p = 0)) := by
  unfold f_X4_settle
  rw [tc_tg_7 hc, ev_fill (tc_ln_2 hc) (by omega) (by omega), Option.bind_some, tc_tg_10 hc, ev_fill (tc_ln_15 hc) (by omega) (by omega), Option.bind_some]
  generalize hg : fl (fl (fx_up (fx_up (fx_up (fx_up h c 2 n) c 3 m) c 4 0) c 5 0) (c + 2) 5 0) (c + 15) 5 0 = g
  refine Ret.bind (Ret.mono (loop_for (fun j s => (∀ a i : Int, ¬ (c + 4 ≤ a ∧ a < c + 4 + j) → s a i = g a i) ∧ (∀ q p : Int, 0 ≤ q → q < j → 0 ≤ p → p < 5 → s (c + 4 + q) p = 9)) 5 (FU_gt (by omega)) (by omega) ⟨fun _ _ _ => rfl, fun q p _ _ => by omega⟩ (fun j s b1 b2 ⟨i1, i2⟩ => ?_) (fun s _ => ?_)) (fun r hr => ?_))
  · refine ⟨fl s (c + 4 + j) 5 9, ?_, fun a i b => ?_, fun q p b3 b4 b5 b6 => ?_⟩
    · unfold s_X4_settle_1
      simp only
      rw [if_pos b2, tc_tg_8 hc, rr_ok b1 (by rw [tc_ln_3 hc]; exact b2), Option.bind_some, tc_doing hc b1 b2, ev_fill (tc_lnD hc b1 b2) (by omega) (by omega), Option.bind_some, wid (by omega) (by omega)]
    · rw [fl_out (by omega)]; exact i1 a i (by omega)
    · by_cases e : q = j
      · subst e; rw [fl_in rfl b5 b6]
      · rw [fl_out (by omega)]; exact i2 q p b3 (by omega) b5 b6
  · unfold s_X4_settle_1
    simp only
    rw [if_neg (by omega)]
  · obtain ⟨r1, g1⟩ := r
    obtain ⟨-, j1, j2⟩ := hr
    simp only at j1 j2 ⊢
    refine Ret.bind (Ret.mono (loop_for (fun j s => (∀ a i : Int, ¬ (c + 10 ≤ a ∧ a < c + 10 + j) → s a i = g1 a i) ∧ (∀ p t : Int, 0 ≤ p → p < j → 0 ≤ t → t < 9 → s (c + 10 + p) t = 0)) 5 (FU_gt (by omega)) (by omega) ⟨fun _ _ _ => rfl, fun q p _ _ => by omega⟩ (fun j s b1 b2 ⟨i1, i2⟩ => ?_) (fun s _ => ?_)) (fun r hr => ?_))
    · refine ⟨fl s (c + 10 + j) 9 0, ?_, fun a i b => ?_, fun q p b3 b4 b5 b6 => ?_⟩
      · unfold s_X4_settle_2
        simp only
        rw [if_pos b2, tc_tg_9 hc, rr_ok b1 (by rw [tc_ln_9 hc]; exact b2), Option.bind_some, tc_needs hc b1 b2, ev_fill (tc_lnN hc b1 b2) (by omega) (by omega), Option.bind_some, wid (by omega) (by omega)]
      · rw [fl_out (by omega)]; exact i1 a i (by omega)
      · by_cases e : q = j
        · subst e; rw [fl_in rfl b5 b6]
        · rw [fl_out (by omega)]; exact i2 q p b3 (by omega) b5 b6
    · unfold s_X4_settle_2
      simp only
      rw [if_neg (by omega)]
    · obtain ⟨r2, g2⟩ := r
      obtain ⟨-, j3, j4⟩ := hr
      simp only at j3 j4 ⊢
      have k : ∀ a i : Int, ¬ (c + 4 ≤ a ∧ a < c + 15) → g2 a i = g a i := fun a i b => by rw [j3 a i (by omega), j1 a i (by omega)]
      subst hg
      refine Ret.ok ⟨fun a i b => ?_, ⟨?_, ?_, ?_, ?_, ?_, ?_⟩, fun t => ?_, fun q a b => ?_, fun q p a b a' b' => ?_, fun p t a b a' b' => ?_, fun p a b => ?_⟩
      · rw [k a i (by omega), fl_out (by omega), fl_out (by omega)]; simp (disch := omega) only [up_ne, up_eq]
      · rw [k _ _ (by omega), fl_out (by omega), fl_out (by omega)]; simp (disch := omega) only [up_ne, up_eq]
      · rw [k _ _ (by omega), fl_out (by omega), fl_out (by omega)]; simp (disch := omega) only [up_ne, up_eq]
      · rw [k _ _ (by omega), fl_out (by omega), fl_out (by omega)]; simp (disch := omega) only [up_ne, up_eq]
      · rw [k _ _ (by omega), fl_out (by omega), fl_out (by omega)]; simp (disch := omega) only [up_ne, up_eq]
      · rw [k _ _ (by omega), fl_out (by omega), fl_out (by omega)]; simp (disch := omega) only [up_ne, up_eq]
      · rw [k _ _ (by omega), fl_out (by omega), fl_out (by omega)]; simp (disch := omega) only [up_ne, up_eq]
      · rw [k _ _ (by omega), fl_out (by omega), fl_out (by omega)]; simp (disch := omega) only [up_ne, up_eq]
      · rw [k _ _ (by omega), fl_out (by omega), fl_in rfl a b]
      · rw [j3 _ _ (by omega)]; exact j2 q p a b a' b'
      · exact j4 p t a b a' b'
      · rw [k _ _ (by omega), fl_in rfl a b]
theorem begin_ok {a n m : Int} {g : fx_H} (hl : 95 ≤ fx_ln La_167 a) : Ret (f_X6_begin FU La_167 a n m g) (fun g' => (∀ b i : Int, b ≠ a → g' b i = g b i) ∧ (g' a 10 = n ∧ g' a 11 = m ∧ g' a 13 = 0 ∧ g' a 94 = 0) ∧ (∀ i : Int, (0 ≤ i ∧ i < 10) ∨ i = 12 → g' a i = g a i) ∧ (∀ q : Int, 0 ≤ q → q < 5 → g' a (14 + q) = 0 ∧ g' a (89 + q) = 0) ∧ (∀ q : Int, 0 ≤ q → q < 25 → g' a (19 + q) = -1) ∧ (∀ q : Int, 0 ≤ q → q < 45 → g' a (44 + q) = 0)) := by
  unfold f_X6_begin
  rw [wr_ok (by omega) (by omega), Option.bind_some, wr_ok (by omega) (by omega), Option.bind_some, wr_ok (by omega) (by omega), Option.bind_some]
  generalize hg : fx_up (fx_up (fx_up g a 10 n) a 11 m) a 13 0 = g0
  refine Ret.bind (Ret.mono (loop_for (fun j s => (∀ b i : Int, b ≠ a ∨ ¬ ((14 ≤ i ∧ i < 14 + j) ∨ (89 ≤ i ∧ i < 89 + j)) → s b i = g0 b i) ∧ (∀ q : Int, 0 ≤ q → q < j → s a (14 + q) = 0 ∧ s a (89 + q) = 0)) 5 (FU_gt (by omega)) (by omega) ⟨fun _ _ _ => rfl, fun q _ _ => by omega⟩ (fun j s b1 b2 ⟨i1, i2⟩ => ?_) (fun s _ => ?_)) (fun r hr => ?_))
  · refine ⟨fx_up (fx_up s a (14 + j) 0) a (89 + j) 0, ?_, fun b i c => ?_, fun q b3 b4 => ?_⟩
    · unfold s_X6_begin_1
      simp only
      rw [if_pos b2, wid (by omega) (by omega), wr_ok (by omega) (by omega), Option.bind_some, wid (by omega) (by omega), wr_ok (by omega) (by omega), Option.bind_some, wid (by omega) (by omega)]
    · rw [up_ne (by omega), up_ne (by omega)]; exact i1 b i (by omega)
    · by_cases e : q = j
      · subst e; simp (disch := omega) only [up_ne, up_eq]; exact ⟨trivial, trivial⟩
      · simp (disch := omega) only [up_ne, up_eq]; exact i2 q b3 (by omega)
  · unfold s_X6_begin_1
    simp only
    rw [if_neg (by omega)]
  · obtain ⟨r1, g1⟩ := r
    obtain ⟨-, j1, j2⟩ := hr
    simp only at j1 j2 ⊢
    refine Ret.bind (Ret.mono (loop_for (fun j s => (∀ b i : Int, b ≠ a ∨ ¬ (19 ≤ i ∧ i < 19 + j) → s b i = g1 b i) ∧ (∀ q : Int, 0 ≤ q → q < j → s a (19 + q) = -1)) 25 (FU_gt (by omega)) (by omega) ⟨fun _ _ _ => rfl, fun q _ _ => by omega⟩ (fun j s b1 b2 ⟨i1, i2⟩ => ?_) (fun s _ => ?_)) (fun r hr => ?_))
    · refine ⟨fx_up s a (19 + j) (-1), ?_, fun b i c => ?_, fun q b3 b4 => ?_⟩
      · unfold s_X6_begin_2
        simp only
        rw [if_pos b2, wid (by omega) (by omega), wr_ok (by omega) (by omega), Option.bind_some, wid (by omega) (by omega)]
      · rw [up_ne (by omega)]; exact i1 b i (by omega)
      · by_cases e : q = j
        · subst e; simp (disch := omega) only [up_ne, up_eq]
        · simp (disch := omega) only [up_ne, up_eq]; exact i2 q b3 (by omega)
    · unfold s_X6_begin_2
      simp only
      rw [if_neg (by omega)]
    · obtain ⟨r2, g2⟩ := r
      obtain ⟨-, j3, j4⟩ := hr
      simp only at j3 j4 ⊢
      refine Ret.bind (Ret.mono (loop_for (fun j s => (∀ b i : Int, b ≠ a ∨ ¬ (44 ≤ i ∧ i < 44 + j) → s b i = g2 b i) ∧ (∀ q : Int, 0 ≤ q → q < j → s a (44 + q) = 0)) 45 (FU_gt (by omega)) (by omega) ⟨fun _ _ _ => rfl, fun q _ _ => by omega⟩ (fun j s b1 b2 ⟨i1, i2⟩ => ?_) (fun s _ => ?_)) (fun r hr => ?_))
      · refine ⟨fx_up s a (44 + j) 0, ?_, fun b i c => ?_, fun q b3 b4 => ?_⟩
        · unfold s_X6_begin_3
          simp only
          rw [if_pos b2, wid (by omega) (by omega), wr_ok (by omega) (by omega), Option.bind_some, wid (by omega) (by omega)]
        · rw [up_ne (by omega)]; exact i1 b i (by omega)
        · by_cases e : q = j
          · subst e; simp (disch := omega) only [up_ne, up_eq]
          · simp (disch := omega) only [up_ne, up_eq]; exact i2 q b3 (by omega)
      · unfold s_X6_begin_3
        simp only
        rw [if_neg (by omega)]
      · obtain ⟨r3, g3⟩ := r
        obtain ⟨-, j5, j6⟩ := hr
        simp only at j5 j6 ⊢
        rw [wr_ok (by omega) (by omega), Option.bind_some]
        have k : ∀ b i : Int, b ≠ a ∨ ¬ (14 ≤ i ∧ i < 94) → g3 b i = g0 b i := fun b i c => by rw [j5 b i (by omega), j3 b i (by omega), j1 b i (by omega)]
        subst hg
        refine Ret.ok ⟨fun b i c => ?_, ⟨?_, ?_, ?_, ?_⟩, fun i c => ?_, fun q b c => ?_, fun q b c => ?_, fun q b c => ?_⟩
        · rw [up_ne (by omega), k _ _ (by omega)]; simp (disch := omega) only [up_ne, up_eq]
        · rw [up_ne (by omega), k _ _ (by omega)]; simp (disch := omega) only [up_ne, up_eq]
        · rw [up_ne (by omega), k _ _ (by omega)]; simp (disch := omega) only [up_ne, up_eq]
        · rw [up_ne (by omega), k _ _ (by omega)]; simp (disch := omega) only [up_ne, up_eq]
        · simp (disch := omega) only [up_ne, up_eq]
        · rw [up_ne (by omega), k _ _ (by omega)]; simp (disch := omega) only [up_ne, up_eq]
        · rw [up_ne (by omega), up_ne (by omega), j5 _ _ (by omega), j3 _ _ (by omega), j5 a (89 + q) (by omega), j3 _ _ (by omega)]; exact j2 q b c
        · rw [up_ne (by omega), j5 _ _ (by omega)]; exact j4 q b c
        · rw [up_ne (by omega)]; exact j6 q b c
theorem sum_zero {f : Int → Int} : ∀ {n : Nat}, (∀ i : Int, 0 ≤ i → i < n → f i = 0) → sumI n f = 0
  | 0, _ => rfl
  | n + 1, h => by
    show sumI n f + f n = 0
    rw [sum_zero (n := n) (fun i h0 h1 => h i h0 (by omega)), h n (by omega) (by omega)]; rfl
section SIM
variable {CL CP : fx_H → Prop} {k : Int} {h : fx_H}
theorem sim_town (hL : FrC CL) (hP : FrC CP) (R : Rel CL CP k h) (hk : k ≤ 1000) (n m : Int) : Sm CL CP k (f_X5_town FU La_167 0 n m h) (f_X6_town FU La_167 126 n m) := by
  obtain ⟨RV, RR, R3, R4, R5, R6, R7⟩ := id R
  have RV' := RV
  have RR' := RR
  unfold TV at RV'
  unfold TR at RR'
  obtain ⟨⟨v1, v1'⟩, ⟨v2, v2'⟩, ⟨v3, v3'⟩, ⟨v4, v4'⟩, ⟨v5, v5'⟩, ⟨v6, v6'⟩, v7, v8, v9, v10, v11, v12, v13⟩ := RV'
  obtain ⟨r1, r2, r3, r4, r5, r6, r7, r8, r9, r10, r11, r12⟩ := RR'
  simp only [Int.zero_add] at r1 r2 r3 r4 r5 r6 r7 r8 r9 r10 r11 r12
  obtain ⟨⟨k1, k2⟩, -⟩ := id R7
  by_cases c1 : (1 ≤ n ∧ n ≤ 5) ∧ (1 ≤ m ∧ m ≤ 5)
  · obtain ⟨h1, e1, p1, ⟨p2, p3, p4, p5, p6, p7⟩, p8, p9, p10, p11, p12⟩ := settle_ok (n := n) (m := m) (h := fx_up h 0 13 (h 0 13 + 1)) TC_1
    obtain ⟨h2, e2, q1, ⟨q2, q3, q4, q5⟩, q6, q7, q8, q9⟩ := begin_ok (a := 127) (n := n) (m := m) (g := h1) (by rw [lb_ln_127]; omega)
    have hx : f_X5_town FU La_167 0 n m h = some (1, h1) := by
      unfold f_X5_town
      simp (disch := omega) only [lb_tg_0_0, ev_within, Option.bind_some, ite10, wid, e1]
      simp [c1]
    have hy : f_X6_town FU La_167 126 n m h1 = some (1, h2) := by
      unfold f_X6_town
      simp (disch := omega) only [lb_tg_126_0, ev_in, Option.bind_some, ite10, e2]
      simp [c1]
    refine sm_town R hx (y' := fun _ => h2) hy (fun a i b1 b2 b3 => ?_) ?_ ?_ ?_
    · rw [q1 a i b2, p1 a i (by omega)]; simp (disch := omega) only [up_ne, up_eq]
    · rw [q1 _ _ (by omega), p1 _ _ (by omega)]; simp (disch := omega) only [up_ne, up_eq]
    · have q1' : ∀ b i : Int, b ≠ 127 → h2 b i = h1 b i := q1
      unfold TV
      simp (disch := omega) only [q1', p2, p3, p4, p5, p6, p7, p8]
      refine ⟨?_, ?_, c1.1, c1.2, by omega, by omega, fun t a b => ?_, fun q a b => ?_, fun q p a b a' b' => ?_, fun p t a b a' b' => ?_, fun p a b => ?_, fun p a b => ?_, fun j a b => by omega⟩
      · simp (disch := omega) only [up_ne, up_eq]; omega
      · simp (disch := omega) only [up_ne, up_eq]; omega
      · (try simp (disch := omega) only [up_ne, up_eq] at b); (try simp (disch := omega) only [up_ne, up_eq]); exact v7 t a b
      · (try rw [q1' _ _ (by omega)]); rw [p9 q a b]; omega
      · rw [q1' _ _ (by omega), p10 q p a b a' b']; omega
      · rw [q1' _ _ (by omega), p11 p t a b a' b']; omega
      · rw [sum_zero (fun t a' b' => by rw [q1' _ _ (by omega), p11 p t a b a' (by omega)])]; omega
      · (try rw [q1' _ _ (by omega)]); rw [p12 p a b]; omega
    · have q1' : ∀ b i : Int, b ≠ 127 → h2 b i = h1 b i := q1
      have z0 : h2 1 0 = h 1 0 := by rw [q1' _ _ (by omega), p2]; simp (disch := omega) only [up_ne, up_eq]
      have z1 : h2 1 1 = h 1 1 := by rw [q1' _ _ (by omega), p3]; simp (disch := omega) only [up_ne, up_eq]
      unfold TR
      simp only [Int.zero_add]
      refine ⟨?_, ?_, ?_, ?_, ?_, ?_, fun t a b => ?_, fun q a b => ?_, fun q p a b a' b' => ?_, fun p t a b a' b' => ?_, fun p a b => ?_, fun j a b => ?_⟩
      · rw [z0, q6 0 (by omega), p1 _ _ (by omega)]; simp (disch := omega) only [up_ne, up_eq]; exact r1
      · rw [z1, q6 12 (by omega), p1 _ _ (by omega)]; simp (disch := omega) only [up_ne, up_eq]; exact r2
      · rw [q2, q1' _ _ (by omega), p4]
      · rw [q3, q1' _ _ (by omega), p5]
      · rw [q4, q1' _ _ (by omega), p6]
      · rw [q5, q1' _ _ (by omega), p7]
      · rw [z0] at b; rw [q6 (1 + t) (by omega), q1' _ _ (by omega), p8, p1 _ _ (by omega)]; simp (disch := omega) only [up_ne, up_eq]; exact r7 t a b
      · rw [(q7 q a b).1, q1' _ _ (by omega), p9 q a b]
      · rw [show (19 : Int) + 5 * p + q = 19 + (5 * p + q) by omega, q8 _ (by omega) (by omega), q1' _ _ (by omega), p10 q p a b a' b']; rfl
      · rw [show (44 : Int) + 9 * p + t = 44 + (9 * p + t) by omega, q9 _ (by omega) (by omega), q1' _ _ (by omega), p11 p t a b a' b']
      · rw [(q7 p a b).2, q1' _ _ (by omega), p12 p a b]
      · rw [q1' _ _ (by omega), p7] at b; omega
  · refine sm_bad hL hP R (z := -2) ?_ (fun g hg => ?_)
    · unfold f_X5_town
      simp (disch := omega) only [ev_within, Option.bind_some, ite10]
      by_cases c2 : 1 ≤ n ∧ n ≤ 5
      · have c3 : ¬ (1 ≤ m ∧ m ≤ 5) := fun q => c1 ⟨c2, q⟩
        simp [c2, c3, f_X5_refuseBad]
      · simp [c2, f_X5_refuseBad]
    · unfold f_X6_town
      simp (disch := omega) only [ev_in, Option.bind_some, ite10, ev_bad]
      by_cases c2 : 1 ≤ n ∧ n ≤ 5
      · have c3 : ¬ (1 ≤ m ∧ m ≤ 5) := fun q => c1 ⟨c2, q⟩
        simp [c2, c3]
      · simp [c2]
end SIM
