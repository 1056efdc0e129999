-- needs: 3a 3b 3c 3d 3e 3f
section SIM
variable {CL CP : fx_H → Prop} {k : Int} {h : fx_H}
theorem sim_put (hL : FrC CL) (hP : FrC CP) (R : Rel CL CP k h) (hk : k ≤ 1000) (w i v : Int) : Sm CL CP k (f_X5_put FU La_167 0 w i v h) (f_X6_put FU La_167 126 w i v) := by
  obtain ⟨RV, RR, R3, R4, R5, R6, R7⟩ := id R
  have RV' := RV
  have RR' := RR
  unfold TV at RV'
  unfold TR at RR'
  obtain ⟨⟨v1, v1'⟩, ⟨v2, v2'⟩, ⟨v3, v3'⟩, ⟨v4, v4'⟩, ⟨v5, v5'⟩, ⟨v6, v6'⟩, v7, v8, v9, v10, v11, v12, v13⟩ := RV'
  obtain ⟨r1, r2, r3, r4, r5, r6, r7, r8, r9, r10, r11, r12⟩ := RR'
  simp only [Int.zero_add] at r1 r2 r3 r4 r5 r6 r7 r8 r9 r10 r11 r12
  obtain ⟨⟨k1, k2⟩, -⟩ := id R7
  by_cases c0 : w = 0 ∧ (0 ≤ i ∧ i < h 1 3) ∧ (0 ≤ v ∧ v ≤ 5)
  · obtain ⟨rfl, c1, c2⟩ := c0
    have hx : f_X5_put FU La_167 0 0 i v h = some (h 3 i, fx_up (fx_up h 0 13 (h 0 13 + 1)) 3 i v) := by
      unfold f_X5_put f_X5_putKind
      simp (disch := omega) only [lb_tg_0_0, ev_hasHour, ev_within, Option.bind_some, ite10, tc_tg_7 TC_1, wid]
      rw [rd_ok (by omega) (by rw [show (1 : Int) + 2 = 3 from rfl, lb_ln_3]; omega), wr_ok (by omega) (by rw [show (1 : Int) + 2 = 3 from rfl, lb_ln_3]; omega)]
      simp (disch := omega) [c1, c2, up_ne]
    have hy : f_X6_put FU La_167 126 0 i v (fx_up (fx_up h 0 13 (h 0 13 + 1)) 3 i v) = some (h 3 i, fx_up (fx_up (fx_up h 0 13 (h 0 13 + 1)) 3 i v) 127 (14 + i) v) := by
      unfold f_X6_put
      simp (disch := (simp (disch := omega) only [up_ne]; omega)) only [ev_isHour, ev_in, Option.bind_some, ite10, lb_tg_126_0]
      simp (disch := omega) only [up_ne, r4, wid]
      have := r8 i c1.1 (by omega)
      simp (disch := omega) [c1, c2, up_ne, this, rd127, wr127]
    refine sm_town R hx (y' := fun g => fx_up g 127 (14 + i) v) hy (fun a i b1 b2 b3 => ?_) ?_ ?_ ?_
    · simp (disch := omega) only [up_ne, up_eq]
    · simp (disch := omega) only [up_ne, up_eq]
    · unfold TV
      refine ⟨?_, ?_, ?_, ?_, ?_, ?_, fun t a b => ?_, fun q a b => ?_, fun q p a b a' b' => ?_, fun p t a b a' b' => ?_, fun p a b => ?_, fun p a b => ?_, fun j a b => ?_⟩
      · simp (disch := omega) only [up_ne, up_eq]; omega
      · simp (disch := omega) only [up_ne, up_eq]; omega
      · simp (disch := omega) only [up_ne, up_eq]; omega
      · simp (disch := omega) only [up_ne, up_eq]; omega
      · simp (disch := omega) only [up_ne, up_eq]; omega
      · simp (disch := omega) only [up_ne, up_eq]; omega
      · (try simp (disch := omega) only [up_ne, up_eq] at b); (try simp (disch := omega) only [up_ne, up_eq]); exact v7 t a b
      · by_cases e : q = i
        · subst e; simp (disch := omega) only [up_ne, up_eq]; omega
        · simp (disch := omega) only [up_ne, up_eq]; exact v8 q a b
      · simp (disch := omega) only [up_ne, up_eq]; exact v9 q p a b a' b'
      · simp (disch := omega) only [up_ne, up_eq]; exact v10 p t a b a' b'
      · simp (disch := omega) only [up_ne, up_eq]; exact v11 p a b
      · simp (disch := omega) only [up_ne, up_eq]; exact v12 p a b
      · (try simp (disch := omega) only [up_ne, up_eq] at b); (try simp (disch := omega) only [up_ne, up_eq]); exact v13 j a b
    · unfold TR
      simp only [Int.zero_add]
      refine ⟨?_, ?_, ?_, ?_, ?_, ?_, fun t a b => ?_, fun q a b => ?_, fun q p a b a' b' => ?_, fun p t a b a' b' => ?_, fun p a b => ?_, fun j a b => ?_⟩
      · simp (disch := omega) only [up_ne, up_eq]; exact r1
      · simp (disch := omega) only [up_ne, up_eq]; exact r2
      · simp (disch := omega) only [up_ne, up_eq]; exact r3
      · simp (disch := omega) only [up_ne, up_eq]; exact r4
      · simp (disch := omega) only [up_ne, up_eq]; exact r5
      · simp (disch := omega) only [up_ne, up_eq]; exact r6
      · (try simp (disch := omega) only [up_ne, up_eq] at b); (try simp (disch := omega) only [up_ne, up_eq]); exact r7 t a b
      · by_cases e : q = i
        · subst e; simp (disch := omega) only [up_ne, up_eq]
        · simp (disch := omega) only [up_ne, up_eq]; exact r8 q a b
      · simp (disch := omega) only [up_ne, up_eq]; exact r9 q p a b a' b'
      · simp (disch := omega) only [up_ne, up_eq]; exact r10 p t a b a' b'
      · simp (disch := omega) only [up_ne, up_eq]; exact r11 p a b
      · (try simp (disch := omega) only [up_ne, up_eq] at b); (try simp (disch := omega) only [up_ne, up_eq]); exact r12 j a b
  · by_cases c1 : w = 1 ∧ i = 0 ∧ (0 ≤ v ∧ v ≤ 4)
    · obtain ⟨rfl, rfl, c2⟩ := c1
      have hx : f_X5_put FU La_167 0 1 0 v h = some (h 1 1, fx_up (fx_up h 0 13 (h 0 13 + 1)) 1 1 v) := by
        unfold f_X5_put f_X5_putLine
        simp (disch := omega) only [lb_tg_0_0, ev_within, Option.bind_some, ite10, wid]
        simp (disch := omega) [c2, up_ne]
      have hy : f_X6_put FU La_167 126 1 0 v (fx_up (fx_up h 0 13 (h 0 13 + 1)) 1 1 v) = some (h 1 1, fx_up (fx_up (fx_up h 0 13 (h 0 13 + 1)) 1 1 v) 127 12 v) := by
        unfold f_X6_put
        simp (disch := omega) only [ev_in, Option.bind_some, ite10, lb_tg_126_0]
        simp (disch := omega) [c2, up_ne, r2, rd127, wr127]
      refine sm_town R hx (y' := fun g => fx_up g 127 12 v) hy (fun a i b1 b2 b3 => ?_) ?_ ?_ ?_
      · simp (disch := omega) only [up_ne, up_eq]
      · simp (disch := omega) only [up_ne, up_eq]
      · unfold TV
        refine ⟨?_, ?_, ?_, ?_, ?_, ?_, fun t a b => ?_, fun q a b => ?_, fun q p a b a' b' => ?_, fun p t a b a' b' => ?_, fun p a b => ?_, fun p a b => ?_, fun j a b => ?_⟩
        · simp (disch := omega) only [up_ne, up_eq]; omega
        · simp (disch := omega) only [up_ne, up_eq]; omega
        · simp (disch := omega) only [up_ne, up_eq]; omega
        · simp (disch := omega) only [up_ne, up_eq]; omega
        · simp (disch := omega) only [up_ne, up_eq]; omega
        · simp (disch := omega) only [up_ne, up_eq]; omega
        · (try simp (disch := omega) only [up_ne, up_eq] at b); (try simp (disch := omega) only [up_ne, up_eq]); exact v7 t a b
        · simp (disch := omega) only [up_ne, up_eq]; exact v8 q a b
        · simp (disch := omega) only [up_ne, up_eq]; exact v9 q p a b a' b'
        · simp (disch := omega) only [up_ne, up_eq]; exact v10 p t a b a' b'
        · simp (disch := omega) only [up_ne, up_eq]; exact v11 p a b
        · simp (disch := omega) only [up_ne, up_eq]; exact v12 p a b
        · (try simp (disch := omega) only [up_ne, up_eq] at b); (try simp (disch := omega) only [up_ne, up_eq]); exact v13 j a b
      · unfold TR
        simp only [Int.zero_add]
        refine ⟨?_, ?_, ?_, ?_, ?_, ?_, fun t a b => ?_, fun q a b => ?_, fun q p a b a' b' => ?_, fun p t a b a' b' => ?_, fun p a b => ?_, fun j a b => ?_⟩
        · simp (disch := omega) only [up_ne, up_eq]; exact r1
        · simp (disch := omega) only [up_ne, up_eq]
        · simp (disch := omega) only [up_ne, up_eq]; exact r3
        · simp (disch := omega) only [up_ne, up_eq]; exact r4
        · simp (disch := omega) only [up_ne, up_eq]; exact r5
        · simp (disch := omega) only [up_ne, up_eq]; exact r6
        · (try simp (disch := omega) only [up_ne, up_eq] at b); (try simp (disch := omega) only [up_ne, up_eq]); exact r7 t a b
        · simp (disch := omega) only [up_ne, up_eq]; exact r8 q a b
        · simp (disch := omega) only [up_ne, up_eq]; exact r9 q p a b a' b'
        · simp (disch := omega) only [up_ne, up_eq]; exact r10 p t a b a' b'
        · simp (disch := omega) only [up_ne, up_eq]; exact r11 p a b
        · (try simp (disch := omega) only [up_ne, up_eq] at b); (try simp (disch := omega) only [up_ne, up_eq]); exact r12 j a b
    · by_cases c2 : w = 2 ∧ i = 0 ∧ (0 ≤ v ∧ v < h 1 2)
      · obtain ⟨rfl, rfl, c3⟩ := c2
        have hx : f_X5_put FU La_167 0 2 0 v h = some (h 1 4, fx_up (fx_up h 0 13 (h 0 13 + 1)) 1 4 v) := by
          unfold f_X5_put f_X5_putRich
          simp (disch := omega) only [lb_tg_0_0, ev_hasPerson, Option.bind_some, ite10, wid]
          simp (disch := omega) [c3, up_ne]
        have hy : f_X6_put FU La_167 126 2 0 v (fx_up (fx_up h 0 13 (h 0 13 + 1)) 1 4 v) = some (h 1 4, fx_up (fx_up (fx_up h 0 13 (h 0 13 + 1)) 1 4 v) 127 13 v) := by
          unfold f_X6_put
          simp (disch := (simp (disch := omega) only [up_ne]; omega)) only [ev_isOne, ev_in, Option.bind_some, ite10, lb_tg_126_0]
          simp (disch := omega) only [up_ne, r3]
          simp (disch := omega) [c3, up_ne, r5, rd127, wr127]
        refine sm_town R hx (y' := fun g => fx_up g 127 13 v) hy (fun a i b1 b2 b3 => ?_) ?_ ?_ ?_
        · simp (disch := omega) only [up_ne, up_eq]
        · simp (disch := omega) only [up_ne, up_eq]
        · unfold TV
          refine ⟨?_, ?_, ?_, ?_, ?_, ?_, fun t a b => ?_, fun q a b => ?_, fun q p a b a' b' => ?_, fun p t a b a' b' => ?_, fun p a b => ?_, fun p a b => ?_, fun j a b => ?_⟩
          · simp (disch := omega) only [up_ne, up_eq]; omega
          · simp (disch := omega) only [up_ne, up_eq]; omega
          · simp (disch := omega) only [up_ne, up_eq]; omega
          · simp (disch := omega) only [up_ne, up_eq]; omega
          · simp (disch := omega) only [up_ne, up_eq]; omega
          · simp (disch := omega) only [up_ne, up_eq]; omega
          · (try simp (disch := omega) only [up_ne, up_eq] at b); (try simp (disch := omega) only [up_ne, up_eq]); exact v7 t a b
          · simp (disch := omega) only [up_ne, up_eq]; exact v8 q a b
          · simp (disch := omega) only [up_ne, up_eq]; exact v9 q p a b a' b'
          · simp (disch := omega) only [up_ne, up_eq]; exact v10 p t a b a' b'
          · simp (disch := omega) only [up_ne, up_eq]; exact v11 p a b
          · simp (disch := omega) only [up_ne, up_eq]; exact v12 p a b
          · (try simp (disch := omega) only [up_ne, up_eq] at b); (try simp (disch := omega) only [up_ne, up_eq]); exact v13 j a b
        · unfold TR
          simp only [Int.zero_add]
          refine ⟨?_, ?_, ?_, ?_, ?_, ?_, fun t a b => ?_, fun q a b => ?_, fun q p a b a' b' => ?_, fun p t a b a' b' => ?_, fun p a b => ?_, fun j a b => ?_⟩
          · simp (disch := omega) only [up_ne, up_eq]; exact r1
          · simp (disch := omega) only [up_ne, up_eq]; exact r2
          · simp (disch := omega) only [up_ne, up_eq]; exact r3
          · simp (disch := omega) only [up_ne, up_eq]; exact r4
          · simp (disch := omega) only [up_ne, up_eq]
          · simp (disch := omega) only [up_ne, up_eq]; exact r6
          · (try simp (disch := omega) only [up_ne, up_eq] at b); (try simp (disch := omega) only [up_ne, up_eq]); exact r7 t a b
          · simp (disch := omega) only [up_ne, up_eq]; exact r8 q a b
          · simp (disch := omega) only [up_ne, up_eq]; exact r9 q p a b a' b'
          · simp (disch := omega) only [up_ne, up_eq]; exact r10 p t a b a' b'
          · simp (disch := omega) only [up_ne, up_eq]; exact r11 p a b
          · (try simp (disch := omega) only [up_ne, up_eq] at b); (try simp (disch := omega) only [up_ne, up_eq]); exact r12 j a b
      · refine sm_bad hL hP R (z := -2) ?_ (fun g hg => ?_)
        · unfold f_X5_put
          simp (disch := omega) only [lb_tg_0_0, ev_hasHour, ev_hasPerson, ev_within, Option.bind_some, ite10, f_X5_refuseBad]
          by_cases w0 : w = 0
          · simp only [w0, if_true]
            by_cases d : 0 ≤ i ∧ i < h 1 3
            · have d2 : ¬ (0 ≤ v ∧ v ≤ 5) := fun q => c0 ⟨w0, d, q⟩
              simp [d, d2]
            · simp [d]
          · by_cases w1 : w = 1
            · simp only [w1]
              by_cases d : i = 0
              · have d2 : ¬ (0 ≤ v ∧ v ≤ 4) := fun q => c1 ⟨w1, d, q⟩
                simp [d, d2]
              · simp [d]
            · by_cases w2 : w = 2
              · simp only [w2]
                by_cases d : i = 0
                · have d2 : ¬ (0 ≤ v ∧ v < h 1 2) := fun q => c2 ⟨w2, d, q⟩
                  simp [d, d2]
                · simp [d]
              · simp [w0, w1, w2]
        · have g1 : g 127 10 = h 1 2 := by rw [hg _ _ (by omega)]; exact r3
          have g2 : g 127 11 = h 1 3 := by rw [hg _ _ (by omega)]; exact r4
          unfold f_X6_put
          simp (disch := omega) only [ev_isHour, ev_isOne, ev_in, Option.bind_some, ite10, ev_bad, g1, g2]
          by_cases w0 : w = 0
          · simp only [w0, if_true]
            by_cases d : 0 ≤ i ∧ i < h 1 3
            · have d2 : ¬ (0 ≤ v ∧ v ≤ 5) := fun q => c0 ⟨w0, d, q⟩
              simp [d, d2]
            · simp [d]
          · by_cases w1 : w = 1
            · simp only [w1]
              by_cases d : i = 0
              · have d2 : ¬ (0 ≤ v ∧ v ≤ 4) := fun q => c1 ⟨w1, d, q⟩
                simp [d, d2]
              · simp [d]
            · by_cases w2 : w = 2
              · simp only [w2]
                by_cases d : i = 0
                · have d2 : ¬ (0 ≤ v ∧ v < h 1 2) := fun q => c2 ⟨w2, d, q⟩
                  simp [d, d2]
                · simp [d]
              · simp [w0, w1, w2]
theorem sim_told (hL : FrC CL) (hP : FrC CP) (R : Rel CL CP k h) (hk : k ≤ 1000) (p v : Int) : Sm CL CP k (f_X5_told FU La_167 0 p v h) (f_X6_told FU La_167 126 p v) := by
  obtain ⟨RV, RR, R3, R4, R5, R6, R7⟩ := id R
  have RV' := RV
  have RR' := RR
  unfold TV at RV'
  unfold TR at RR'
  obtain ⟨⟨v1, v1'⟩, ⟨v2, v2'⟩, ⟨v3, v3'⟩, ⟨v4, v4'⟩, ⟨v5, v5'⟩, ⟨v6, v6'⟩, v7, v8, v9, v10, v11, v12, v13⟩ := RV'
  obtain ⟨r1, r2, r3, r4, r5, r6, r7, r8, r9, r10, r11, r12⟩ := RR'
  simp only [Int.zero_add] at r1 r2 r3 r4 r5 r6 r7 r8 r9 r10 r11 r12
  obtain ⟨⟨k1, k2⟩, -⟩ := id R7
  by_cases c0 : (0 ≤ p ∧ p < h 1 2) ∧ (0 ≤ v ∧ v ≤ 40)
  · obtain ⟨c1, c2⟩ := c0
    have hx : f_X5_told FU La_167 0 p v h = some (h 16 p, fx_up (fx_up h 0 13 (h 0 13 + 1)) 16 p v) := by
      unfold f_X5_told
      simp (disch := omega) only [lb_tg_0_0, ev_hasPerson, ev_within, Option.bind_some, ite10, tc_tg_10 TC_1, wid]
      rw [rd_ok (by omega) (by rw [show (1 : Int) + 15 = 16 from rfl, lb_ln_16]; omega), wr_ok (by omega) (by rw [show (1 : Int) + 15 = 16 from rfl, lb_ln_16]; omega)]
      simp (disch := omega) [c1, c2, up_ne]
    have hy : f_X6_told FU La_167 126 p v (fx_up (fx_up h 0 13 (h 0 13 + 1)) 16 p v) = some (h 16 p, fx_up (fx_up (fx_up h 0 13 (h 0 13 + 1)) 16 p v) 127 (89 + p) v) := by
      unfold f_X6_told
      simp (disch := (simp (disch := omega) only [up_ne]; omega)) only [ev_isOne, ev_in, Option.bind_some, ite10, lb_tg_126_0]
      simp (disch := omega) only [up_ne, r3, wid]
      rw [wr127 (by omega) (by omega), rd127 (by omega) (by omega)]
      have := r11 p c1.1 (by omega)
      simp (disch := omega) [c1, c2, up_ne, this]
    refine sm_town R hx (y' := fun g => fx_up g 127 (89 + p) v) hy (fun a i b1 b2 b3 => ?_) ?_ ?_ ?_
    · simp (disch := omega) only [up_ne, up_eq]
    · simp (disch := omega) only [up_ne, up_eq]
    · unfold TV
      refine ⟨?_, ?_, ?_, ?_, ?_, ?_, fun t a b => ?_, fun q a b => ?_, fun q p a b a' b' => ?_, fun p t a b a' b' => ?_, fun p a b => ?_, fun p_1 a b => ?_, fun j a b => ?_⟩
      · simp (disch := omega) only [up_ne, up_eq]; omega
      · simp (disch := omega) only [up_ne, up_eq]; omega
      · simp (disch := omega) only [up_ne, up_eq]; omega
      · simp (disch := omega) only [up_ne, up_eq]; omega
      · simp (disch := omega) only [up_ne, up_eq]; omega
      · simp (disch := omega) only [up_ne, up_eq]; omega
      · (try simp (disch := omega) only [up_ne, up_eq] at b); (try simp (disch := omega) only [up_ne, up_eq]); exact v7 t a b
      · simp (disch := omega) only [up_ne, up_eq]; exact v8 q a b
      · simp (disch := omega) only [up_ne, up_eq]; exact v9 q p a b a' b'
      · simp (disch := omega) only [up_ne, up_eq]; exact v10 p t a b a' b'
      · simp (disch := omega) only [up_ne, up_eq]; exact v11 p a b
      · by_cases e : p_1 = p
        · subst e; simp (disch := omega) only [up_ne, up_eq]; omega
        · simp (disch := omega) only [up_ne, up_eq]; exact v12 p_1 a b
      · (try simp (disch := omega) only [up_ne, up_eq] at b); (try simp (disch := omega) only [up_ne, up_eq]); exact v13 j a b
    · unfold TR
      simp only [Int.zero_add]
      refine ⟨?_, ?_, ?_, ?_, ?_, ?_, fun t a b => ?_, fun q a b => ?_, fun q p a b a' b' => ?_, fun p t a b a' b' => ?_, fun p_1 a b => ?_, fun j a b => ?_⟩
      · simp (disch := omega) only [up_ne, up_eq]; exact r1
      · simp (disch := omega) only [up_ne, up_eq]; exact r2
      · simp (disch := omega) only [up_ne, up_eq]; exact r3
      · simp (disch := omega) only [up_ne, up_eq]; exact r4
      · simp (disch := omega) only [up_ne, up_eq]; exact r5
      · simp (disch := omega) only [up_ne, up_eq]; exact r6
      · (try simp (disch := omega) only [up_ne, up_eq] at b); (try simp (disch := omega) only [up_ne, up_eq]); exact r7 t a b
      · simp (disch := omega) only [up_ne, up_eq]; exact r8 q a b
      · simp (disch := omega) only [up_ne, up_eq]; exact r9 q p a b a' b'
      · simp (disch := omega) only [up_ne, up_eq]; exact r10 p t a b a' b'
      · by_cases e : p_1 = p
        · subst e; simp (disch := omega) only [up_ne, up_eq]
        · simp (disch := omega) only [up_ne, up_eq]; exact r11 p_1 a b
      · (try simp (disch := omega) only [up_ne, up_eq] at b); (try simp (disch := omega) only [up_ne, up_eq]); exact r12 j a b
  · refine sm_bad hL hP R (z := -2) ?_ (fun g hg => ?_)
    · unfold f_X5_told
      simp (disch := omega) only [lb_tg_0_0, ev_hasPerson, ev_within, Option.bind_some, ite10, f_X5_refuseBad]
      by_cases d : 0 ≤ p ∧ p < h 1 2
      · have d2 : ¬ (0 ≤ v ∧ v ≤ 40) := fun q => c0 ⟨d, q⟩
        simp [d, d2]
      · simp [d]
    · have g1 : g 127 10 = h 1 2 := by rw [hg _ _ (by omega)]; exact r3
      unfold f_X6_told
      simp (disch := omega) only [ev_isOne, ev_in, Option.bind_some, ite10, ev_bad, g1]
      by_cases d : 0 ≤ p ∧ p < h 1 2
      · have d2 : ¬ (0 ≤ v ∧ v ≤ 40) := fun q => c0 ⟨d, q⟩
        simp [d, d2]
      · simp [d]
end SIM
