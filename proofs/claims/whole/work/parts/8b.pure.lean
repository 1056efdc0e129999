-- needs: 8a
theorem law_close {x : Option (Int × fx_H)} {y : fx_H → Option (Int × fx_H)} {i k : Int} (s : Sm CLp CPp k x y) : ∃ h' : fx_H, (x.bind fun r => (y r.2).bind fun q => if ¬ r.1 = q.1 then some (Sum.inr (Sum.inr 0)) else some (Sum.inl (i, q.2))) = (some (Sum.inl (i, h')) : Option ((Int × fx_H) ⊕ ((Int × fx_H) ⊕ Int))) ∧ Rel CLp CPp (k + 1) h' := by
  obtain ⟨r, e1, q, e2, e3, e4⟩ := s
  refine ⟨q.2, ?_, e4⟩
  rw [e1, Option.bind_some, e2, Option.bind_some, if_neg (not_not_intro e3.symm)]
set_option maxHeartbeats 4000000 in
theorem law_step {L i k : Int} {xs : Int → Int} {h : fx_H} (R : Rel CLp CPp k h) (hk : k ≤ 1000) (i0 : 0 ≤ i) (i1 : i ≤ L - 4) (hL : L ≤ 2048) : ∃ h' : fx_H, s_L_law_1 FU La_167 L xs 2 0 126 (i, h) = some (.inl (i + 4, h')) ∧ Rel CLp CPp (k + 1) h' := by
  have r0 : fx_rs L xs i = some (xs i) := if_pos ⟨i0, by omega⟩
  have r1 : fx_rs L xs (i + 1) = some (xs (i + 1)) := if_pos ⟨by omega, by omega⟩
  have r2 : fx_rs L xs (i + 2) = some (xs (i + 2)) := if_pos ⟨by omega, by omega⟩
  have r3 : fx_rs L xs (i + 3) = some (xs (i + 3)) := if_pos ⟨by omega, by omega⟩
  have w1 : fx_w (i + 1) = i + 1 := wid (by omega) (by omega)
  have w2 : fx_w (i + 2) = i + 2 := wid (by omega) (by omega)
  have w3 : fx_w (i + 3) = i + 3 := wid (by omega) (by omega)
  have w4 : fx_w (i + 4) = i + 4 := wid (by omega) (by omega)
  have w5 : fx_w (L - 4) = L - 4 := wid (by omega) (by omega)
  unfold s_L_law_1
  simp only [r0, r1, r2, r3, w1, w2, w3, w4, w5, Option.bind_some]
  rw [if_pos i1]
  by_cases c : fx_iand (xs i) 31 = 0
  · rw [if_pos c]
    exact law_close (sim_thing (FrL_C FrL_CLp) (FrP_C FrP_CPp) R hk _)
  rw [if_neg c]
  clear c
  by_cases c : fx_iand (xs i) 31 = 1
  · rw [if_pos c]
    exact law_close (sim_town (FrL_C FrL_CLp) (FrP_C FrP_CPp) R hk _ _)
  rw [if_neg c]
  clear c
  by_cases c : fx_iand (xs i) 31 = 2
  · rw [if_pos c]
    exact law_close (sim_put (FrL_C FrL_CLp) (FrP_C FrP_CPp) R hk _ _ _)
  rw [if_neg c]
  clear c
  by_cases c : fx_iand (xs i) 31 = 3
  · rw [if_pos c]
    exact law_close (sim_does (FrL_C FrL_CLp) (FrP_C FrP_CPp) R hk _ _ _)
  rw [if_neg c]
  clear c
  by_cases c : fx_iand (xs i) 31 = 4
  · rw [if_pos c]
    exact law_close (sim_undo (FrL_C FrL_CLp) (FrP_C FrP_CPp) R hk)
  rw [if_neg c]
  clear c
  by_cases c : fx_iand (xs i) 31 = 5
  · rw [if_pos c]
    exact law_close (sim_need (FrL_C FrL_CLp) (FrP_C FrP_CPp) R hk _ _ _)
  rw [if_neg c]
  clear c
  by_cases c : fx_iand (xs i) 31 = 6
  · rw [if_pos c]
    exact law_close (sim_type (FrL_C FrL_CLp) (FrP_C FrP_CPp) R hk _ _)
  rw [if_neg c]
  clear c
  by_cases c : fx_iand (xs i) 31 = 7
  · rw [if_pos c]
    exact law_close (sim_clear (FrL_C FrL_CLp) (FrP_C FrP_CPp) R hk)
  rw [if_neg c]
  clear c
  by_cases c : fx_iand (xs i) 31 = 8
  · rw [if_pos c]
    exact law_close (sim_read FrL_CLp FrP_CPp R hk)
  rw [if_neg c]
  clear c
  by_cases c : fx_iand (xs i) 31 = 9
  · rw [if_pos c]
    exact law_close (sim_at FrL_CLp FrP_CPp R _)
  rw [if_neg c]
  clear c
  by_cases c : fx_iand (xs i) 31 = 10
  · rw [if_pos c]
    exact law_close (sim_pays FrL_CLp FrP_CPp R _ _)
  rw [if_neg c]
  clear c
  by_cases c : fx_iand (xs i) 31 = 11
  · rw [if_pos c]
    exact law_close (sim_all FrL_CLp FrP_CPp R)
  rw [if_neg c]
  clear c
  by_cases c : fx_iand (xs i) 31 = 12
  · rw [if_pos c]
    exact law_close (sim_least R _ _)
  rw [if_neg c]
  clear c
  by_cases c : fx_iand (xs i) 31 = 13
  · rw [if_pos c]
    exact law_close (sim_fewest FrL_CLp FrP_CPp R)
  rw [if_neg c]
  clear c
  by_cases c : fx_iand (xs i) 31 = 14
  · rw [if_pos c]
    exact law_close (sim_list FrL_CLp FrP_CPp R _)
  rw [if_neg c]
  clear c
  by_cases c : fx_iand (xs i) 31 = 15
  · rw [if_pos c]
    exact law_close (sim_rests FrL_CLp FrP_CPp R _)
  rw [if_neg c]
  clear c
  by_cases c : fx_iand (xs i) 31 = 16
  · rw [if_pos c]
    exact law_close (sim_better FrL_CLp FrP_CPp R _ _)
  rw [if_neg c]
  clear c
  by_cases c : fx_iand (xs i) 31 = 17
  · rw [if_pos c]
    exact law_close (sim_name FrL_CLp FrP_CPp R _)
  rw [if_neg c]
  clear c
  by_cases c : fx_iand (xs i) 31 = 18
  · rw [if_pos c]
    exact law_close (sim_line FrL_CLp FrP_CPp R _)
  rw [if_neg c]
  clear c
  by_cases c : fx_iand (xs i) 31 = 19
  · rw [if_pos c]
    exact law_close (sim_choir FrL_CLp FrP_CPp R _ _)
  rw [if_neg c]
  clear c
  by_cases c : fx_iand (xs i) 31 = 20
  · rw [if_pos c]
    exact law_close (sim_told (FrL_C FrL_CLp) (FrP_C FrP_CPp) R hk _ _)
  rw [if_neg c]
  clear c
  by_cases c : fx_iand (xs i) 31 = 21
  · rw [if_pos c]
    exact law_close (sim_did FrL_CLp R _ _)
  rw [if_neg c]
  clear c
  by_cases c : fx_iand (xs i) 31 = 22
  · rw [if_pos c]
    exact law_close (sim_copied FrL_CLp FrP_CPp R _)
  rw [if_neg c]
  clear c
  by_cases c : fx_iand (xs i) 31 = 23
  · rw [if_pos c]
    exact law_close (sim_crowd FrL_CLp FrP_CPp R _ _ _)
  rw [if_neg c]
  clear c
  by_cases c : fx_iand (xs i) 31 = 24
  · rw [if_pos c]
    exact law_close (sim_part (FrL_C FrL_CLp) (FrP_C FrP_CPp) R hk _)
  rw [if_neg c]
  clear c
  by_cases c : fx_iand (xs i) 31 = 25
  · rw [if_pos c]
    exact law_close (sim_image (FrL_C FrL_CLp) (FrP_C FrP_CPp) R hk _)
  rw [if_neg c]
  clear c
  by_cases c : fx_iand (xs i) 31 = 26
  · rw [if_pos c]
    exact law_close (sim_from (FrL_C FrL_CLp) (FrP_C FrP_CPp) R hk _)
  rw [if_neg c]
  clear c
  by_cases c : fx_iand (xs i) 31 = 27
  · rw [if_pos c]
    exact law_close (sim_status (FrL_C FrL_CLp) (FrP_C FrP_CPp) R hk _)
  rw [if_neg c]
  clear c
  by_cases c : fx_iand (xs i) 31 = 28
  · rw [if_pos c]
    exact law_close (sim_count (FrL_C FrL_CLp) (FrP_C FrP_CPp) R hk _)
  rw [if_neg c]
  clear c
  by_cases c : fx_iand (xs i) 31 = 29
  · obtain ⟨v, e1, e2⟩ := sim_digest R
    rw [if_pos c, e1, Option.bind_some, e2, Option.bind_some, if_neg (not_not_intro rfl)]
    exact ⟨h, rfl, Rel_inc R⟩
  rw [if_neg c]
  exact ⟨h, rfl, Rel_inc R⟩
theorem pure_ok : fx_Pure := fun L xs L0 L1 _ => by
  obtain ⟨h3, e1, R⟩ := init_R
  refine ⟨FU, h3, e1, ?_⟩
  have key : Ret (fx_loop (s_L_law_1 FU La_167 L xs 2 0 126) FU (0, h3)) (fun e => ∃ y : Int × fx_H, e = .inl y) := by
    refine loop_ret (fun s => ∃ k : Int, 0 ≤ k ∧ s.1 = 4 * k ∧ 4 * k ≤ L ∧ Rel CLp CPp k s.2) (fun s => (L - s.1).toNat) (fun s hs => ?_) FU _ ⟨0, by omega, rfl, by omega, R⟩ (FU_gt (by show (L - 0).toNat < _; omega))
    obtain ⟨i, h⟩ := s
    obtain ⟨k, k0, k1, k2, Rk⟩ := hs
    simp only at k1 Rk
    by_cases c : i ≤ L - 4
    · obtain ⟨h', e2, R'⟩ := law_step (xs := xs) (i := i) Rk (by omega) (by omega) c L1
      exact Or.inl ⟨_, e2, ⟨k + 1, by omega, by show i + 4 = _; omega, by omega, R'⟩, by show (L - (i + 4)).toNat < (L - i).toNat; omega⟩
    · refine Or.inr ⟨.inl (i, h), ?_, ⟨_, rfl⟩⟩
      unfold s_L_law_1
      simp only
      rw [wid (z := L - 4) (by omega) (by omega), if_neg c]
  obtain ⟨e, e2, y, rfl⟩ := key
  unfold f_law
  rw [e2]
  rfl
