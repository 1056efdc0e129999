-- needs: 3a 3b 3c 3d
section SIM
variable {CL CP : fx_H → Prop} {k : Int} {h : fx_H} {x : Option (Int × fx_H)} {y : fx_H → Option (Int × fx_H)}
theorem sm_town (R : Rel CL CP k h) {z : Int} {h1 : fx_H} (hx : x = some (z, h1)) {y' : fx_H → fx_H} (hy : y h1 = some (z, y' h1)) (e : ∀ a i : Int, ¬ (1 ≤ a ∧ a ≤ 19) → a ≠ 127 → ¬ (a = 0 ∧ i = 13) → y' h1 a i = h a i) (ec : y' h1 0 13 = h 0 13 + 1) (v : TV 1 (y' h1)) (r : TR 1 127 0 (y' h1)) : Sm CL CP k x y :=
  Ret.eq hx (Ret.eq hy ⟨rfl, Rel_town R e ec v r⟩)
theorem sim_thing (hL : FrC CL) (hP : FrC CP) (R : Rel CL CP k h) (hk : k ≤ 1000) (v : Int) : Sm CL CP k (f_X5_thing FU La_167 0 v h) (f_X6_thing FU La_167 126 v) := by
  obtain ⟨RV, RR, R3, R4, R5, R6, R7⟩ := id R
  have RV' := RV
  have RR' := RR
  unfold TV at RV'
  unfold TR at RR'
  obtain ⟨⟨v1, v1'⟩, ⟨v2, v2'⟩, ⟨v3, v3'⟩, ⟨v4, v4'⟩, ⟨v5, v5'⟩, ⟨v6, v6'⟩, v7, v8, v9, v10, v11, v12, v13⟩ := RV'
  obtain ⟨r1, r2, r3, r4, r5, r6, r7, r8, r9, r10, r11, r12⟩ := RR'
  simp only [Int.zero_add] at r1 r2 r3 r4 r5 r6 r7 r8 r9 r10 r11 r12
  obtain ⟨⟨k1, k2⟩, -⟩ := id R7
  by_cases c1 : v = -1 ∨ (0 ≤ v ∧ v < h 1 0)
  · by_cases c2 : 9 ≤ h 1 0
    · refine sm_full hL hP R ?_ (fun g hg => ?_)
      · unfold f_X5_thing
        simp (disch := omega) only [lb_tg_0_0, ev_hasThing, Option.bind_some, ite10]
        rcases c1 with rfl | c1
        · simp [c2, f_X5_refuseFull]
        · simp [c1, c2, f_X5_refuseFull]
      · unfold f_X6_thing
        have g0 : g 127 0 = h 1 0 := by rw [hg 127 0 (by omega)]; exact r1
        have g9 : h 1 0 = 9 := by omega
        rw [g9] at c1 g0
        simp (disch := omega) only [ev_isThing, ev_things, Option.bind_some, ite10, g0, ev_full]
        rcases c1 with rfl | c1
        · simp
        · simp [c1]
    · have hx : f_X5_thing FU La_167 0 v h = some (h 1 0, fx_up (fx_up (fx_up h 0 13 (h 0 13 + 1)) 2 (h 1 0) v) 1 0 (h 1 0 + 1)) := by
        unfold f_X5_thing f_X4_addThing
        simp (disch := omega) only [lb_tg_0_0, ev_hasThing, Option.bind_some, ite10, tc_tg_6 TC_1, up_ne, wid]
        have e1 : h 1 0 < 9 := by omega
        rw [wr_ok (by omega) (by rw [show (1 : Int) + 1 = 2 from rfl, lb_ln_2]; omega)]
        rcases c1 with rfl | c1
        · simp (disch := omega) [c2, e1, up_ne, up_eq, wid]
        · simp (disch := omega) [c1, c2, e1, up_ne, up_eq, wid]
      have hy : f_X6_thing FU La_167 126 v (fx_up (fx_up (fx_up h 0 13 (h 0 13 + 1)) 2 (h 1 0) v) 1 0 (h 1 0 + 1)) = some (h 1 0, fx_up (fx_up (fx_up (fx_up (fx_up h 0 13 (h 0 13 + 1)) 2 (h 1 0) v) 1 0 (h 1 0 + 1)) 127 (1 + h 1 0) v) 127 0 (h 1 0 + 1)) := by
        unfold f_X6_thing
        have e1 : ¬ h 1 0 = 9 := by omega
        simp (disch := (simp (disch := omega) only [up_ne, r1]; omega)) only [ev_isThing, ev_things, Option.bind_some, ite10, lb_tg_126_0]
        simp (disch := omega) only [up_ne, up_eq, r1, wid, wr127, rd127, Option.bind_some]
        rcases c1 with rfl | c1
        · simp [e1]
        · simp [c1, e1]
      refine sm_town R hx (y' := fun g => fx_up (fx_up g 127 (1 + h 1 0) v) 127 0 (h 1 0 + 1)) hy (fun a i b1 b2 b3 => ?_) ?_ ?_ ?_
      · simp (disch := omega) only [up_ne, up_eq]
      · simp (disch := omega) only [up_ne, up_eq]
      · unfold TV
        refine ⟨?_, ?_, ?_, ?_, ?_, ?_, fun t a b => ?_, fun q a b => ?_, fun q p a b a' b' => ?_, fun p t a b a' b' => ?_, fun p a b => ?_, fun p a b => ?_, fun j a b => ?_⟩
        · simp (disch := omega) only [up_ne, up_eq]; omega
        · simp (disch := omega) only [up_ne, up_eq]; omega
        · simp (disch := omega) only [up_ne, up_eq]; omega
        · simp (disch := omega) only [up_ne, up_eq]; omega
        · simp (disch := omega) only [up_ne, up_eq]; omega
        · simp (disch := omega) only [up_ne, up_eq]; omega
        · by_cases ht : t = h 1 0
          · subst ht; (try simp (disch := omega) only [up_ne, up_eq] at b); (try simp (disch := omega) only [up_ne, up_eq]); omega
          · (try simp (disch := omega) only [up_ne, up_eq] at b); (try simp (disch := omega) only [up_ne, up_eq]); exact v7 t a (by omega)
        · simp (disch := omega) only [up_ne, up_eq]; exact v8 q a b
        · simp (disch := omega) only [up_ne, up_eq]; have := v9 q p a b a' b'; omega
        · simp (disch := omega) only [up_ne, up_eq]; have := v10 p t a b a' b'; omega
        · simp (disch := omega) only [up_ne, up_eq]; exact v11 p a b
        · simp (disch := omega) only [up_ne, up_eq]; exact v12 p a b
        · (try simp (disch := omega) only [up_ne, up_eq] at b); (try simp (disch := omega) only [up_ne, up_eq]); have := v13 j a b; omega
      · unfold TR
        refine ⟨?_, ?_, ?_, ?_, ?_, ?_, fun t a b => ?_, fun q a b => ?_, fun q p a b a' b' => ?_, fun p t a b a' b' => ?_, fun p a b => ?_, fun j a b => ?_⟩
        · simp (disch := omega) only [up_ne, up_eq]
        · simp (disch := omega) only [up_ne, up_eq]; exact r2
        · simp (disch := omega) only [up_ne, up_eq]; exact r3
        · simp (disch := omega) only [up_ne, up_eq]; exact r4
        · simp (disch := omega) only [up_ne, up_eq]; exact r5
        · simp (disch := omega) only [up_ne, up_eq]; exact r6
        · by_cases ht : t = h 1 0
          · subst ht; simp (disch := omega) only [up_ne, up_eq]
          · (try simp (disch := omega) only [up_ne, up_eq] at b); (try simp (disch := omega) only [up_ne, up_eq]); exact r7 t a (by omega)
        · simp (disch := omega) only [up_ne, up_eq]; exact r8 q a b
        · simp (disch := omega) only [up_ne, up_eq]; exact r9 q p a b a' b'
        · simp (disch := omega) only [up_ne, up_eq]; exact r10 p t a b a' b'
        · simp (disch := omega) only [up_ne, up_eq]; exact r11 p a b
        · (try simp (disch := omega) only [up_ne, up_eq] at b); (try simp (disch := omega) only [up_ne, up_eq]); exact r12 j a b
  · refine sm_bad hL hP R (z := -2) ?_ (fun g hg => ?_)
    · unfold f_X5_thing
      simp (disch := omega) only [lb_tg_0_0, ev_hasThing, Option.bind_some, ite10]
      have : ¬ v = -1 := by omega
      have c2 : ¬ (0 ≤ v ∧ v < h 1 0) := by omega
      simp [this, c2, f_X5_refuseBad]
    · unfold f_X6_thing
      have g0 : g 127 0 = h 1 0 := by rw [hg 127 0 (by omega)]; exact r1
      rw [← g0] at v1 v1'
      simp (disch := omega) only [ev_isThing, ev_things, Option.bind_some, ite10, ev_bad]
      rw [g0]
      have : ¬ v = -1 := by omega
      have c2 : ¬ (0 ≤ v ∧ v < h 1 0) := by omega
      simp [this, c2]
end SIM
