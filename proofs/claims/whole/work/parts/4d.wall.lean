-- needs: 4c
theorem ndF_congr {h s : fx_H} {p : Int} (e : ∀ i : Int, s (11 + p) i = h (11 + p) i) : ndF s p = ndF h p := funext fun t => e t
/-- the rows stand in the class -/
def RWC (h s : fx_H) (n : Int) : Prop := ∀ p : Int, 0 ≤ p → p < h 1 2 → s 73 p = cnF (ndF h p) n ∧ ∀ i j : Int, 0 ≤ i → i < cnF (ndF h p) n → 0 ≤ j → j < n → s (68 + p) (5 * i + j) = rwF (ndF h p) n i j
theorem writeRows_ok {h : fx_H} {n : Int} (v : TV 1 h) (n1 : 1 ≤ n) (n5 : n ≤ 5) : Ret (f_X1_writeRows FU La_167 48 1 n h) (fun h' => (∀ a i : Int, a ≠ 74 → a ≠ 73 → ¬ (68 ≤ a ∧ a ≤ 72) → h' a i = h a i) ∧ RWC h h' n) := by
  have vv := v
  unfold TV at vv
  obtain ⟨⟨v1, v1'⟩, ⟨v2, v2'⟩, ⟨v3, v3'⟩, -⟩ := vv
  unfold f_X1_writeRows
  refine Ret.bind (Ret.mono (loop_for (fun j s => (∀ a i : Int, a ≠ 74 → a ≠ 73 → ¬ (68 ≤ a ∧ a ≤ 72) → s a i = h a i) ∧ ∀ p : Int, 0 ≤ p → p < j → s 73 p = cnF (ndF h p) n ∧ ∀ i j : Int, 0 ≤ i → i < cnF (ndF h p) n → 0 ≤ j → j < n → s (68 + p) (5 * i + j) = rwF (ndF h p) n i j) (h 1 2) (FU_gt (by omega)) (by omega) ⟨fun _ _ _ _ _ => rfl, fun _ _ _ => by omega⟩ (fun p s b1 b2 ⟨i1, i2⟩ => ?_) (fun s ⟨i1, i2⟩ => ?_)) (fun r hr => ?_))
  · unfold s_X1_writeRows_1
    simp only [lb_tg_48_7]
    rw [i1 1 2 (by omega) (by omega) (by omega), if_pos b2, wrl lb_ln_73 b1 (by omega), Option.bind_some, wid (z := p + 1) (by omega) (by omega)]
    have u1 : ∀ a i : Int, ¬ (a = 73 ∧ i = p) → fx_up s 73 p 0 a i = s a i := fun a i z => up_ne (by omega)
    have u2 : fx_up s 73 p 0 73 p = 0 := up_eq rfl rfl
    generalize fx_up s 73 p 0 = w at u1 u2
    have vw : TV 1 w := TV_congr (fun a i _ _ => by rw [u1 a i (by omega), i1 a i (by omega) (by omega) (by omega)]) v
    have dw : ndF w p = ndF h p := ndF_congr (fun i => by rw [u1 _ i (by omega), i1 _ i (by omega) (by omega) (by omega)])
    obtain ⟨-, -, en⟩ := nd_ok vw b1 (show p < 5 by omega)
    rw [en, Option.bind_some, dw]
    by_cases c : sumI 9 (ndF h p) ≤ n
    · obtain ⟨w', e1, k1, k2, k3⟩ := rowsOf_ok vw b1 (show p < 5 by omega) n1 n5 (by rw [dw]; exact c) u2
      rw [dw] at k2 k3
      rw [if_pos c, e1, Option.bind_some]
      refine ⟨_, rfl, fun a i x y z => ?_, fun q a b => ?_⟩
      · rw [k1 a i x (by omega) (by omega), u1 a i (by omega)]; exact i1 a i x y z
      · by_cases e : q = p
        · subst e; exact ⟨k2, k3⟩
        · obtain ⟨z1, z2⟩ := i2 q a (by omega)
          exact ⟨by rw [k1 _ _ (by omega) (by omega) (by omega), u1 _ _ (by omega)]; exact z1, fun i j x y x' y' => by rw [k1 _ _ (by omega) (by omega) (by omega), u1 _ _ (by omega)]; exact z2 i j x y x' y'⟩
    · rw [if_neg c]
      refine ⟨_, rfl, fun a i x y z => ?_, fun q a b => ?_⟩
      · rw [u1 a i (by omega)]; exact i1 a i x y z
      · by_cases e : q = p
        · subst e
          have c0 : cnF (ndF h q) n = 0 := by unfold cnF; rw [if_neg c]
          exact ⟨by rw [u2, c0], fun i j x y => by omega⟩
        · obtain ⟨z1, z2⟩ := i2 q a (by omega)
          exact ⟨by rw [u1 _ _ (by omega)]; exact z1, fun i j x y x' y' => by rw [u1 _ _ (by omega)]; exact z2 i j x y x' y'⟩
  · unfold s_X1_writeRows_1
    simp only
    rw [i1 1 2 (by omega) (by omega) (by omega), if_neg (by omega)]
  · exact Ret.ok hr.2
/-- products -/
def prI (f : Int → Int) : Nat → Int
  | 0 => 1
  | n + 1 => prI f n * f n
theorem prI_b {f : Int → Int} : ∀ {n : Nat}, n ≤ 5 → (∀ i : Int, 0 ≤ i → i < n → 0 ≤ f i ∧ f i ≤ 120) → 0 ≤ prI f n ∧ prI f n ≤ 120 ^ n
  | 0, _, _ => ⟨(by decide : (0 : Int) ≤ 1), (by decide : (1 : Int) ≤ 120 ^ 0)⟩
  | n + 1, h5, h => by
    obtain ⟨a, b⟩ := prI_b (n := n) (by omega) (fun i x y => h i x (by omega))
    obtain ⟨c, d⟩ := h n (by omega) (by omega)
    show 0 ≤ prI f n * f n ∧ prI f n * f n ≤ 120 ^ (n + 1)
    refine ⟨Int.mul_nonneg a c, ?_⟩
    rw [Int.pow_succ]
    exact Int.mul_le_mul b d c (Int.le_trans a b)
theorem prI_le {f : Int → Int} {n : Nat} (h5 : n ≤ 5) (h : ∀ i : Int, 0 ≤ i → i < n → 0 ≤ f i ∧ f i ≤ 120) : 0 ≤ prI f n ∧ prI f n ≤ 24883200000 := by
  obtain ⟨a, b⟩ := prI_b h5 h
  refine ⟨a, Int.le_trans b ?_⟩
  rcases (show n = 0 ∨ n = 1 ∨ n = 2 ∨ n = 3 ∨ n = 4 ∨ n = 5 by omega) with rfl | rfl | rfl | rfl | rfl | rfl <;> decide
theorem prI_congr {f g : Int → Int} : ∀ {n : Nat}, (∀ i : Int, 0 ≤ i → i < n → f i = g i) → prI f n = prI g n
  | 0, _ => rfl
  | n + 1, h => by
    show prI f n * f n = prI g n * g n
    rw [prI_congr (n := n) (fun i a b => h i a (by omega)), h n (by omega) (by omega)]
theorem ways_ok {h : fx_H} {n P : Int} {c : Int → Int} (hP : h 1 2 = P) (P0 : 0 ≤ P) (P5 : P ≤ 5) (hc : ∀ p : Int, 0 ≤ p → p < P → h 73 p = c p ∧ 0 ≤ c p ∧ c p ≤ 120) : f_X1_waysTogether FU La_167 48 1 h = some (prI c P.toNat) := by
  unfold f_X1_waysTogether
  have key := loop_seq (step := s_X1_waysTogether_1 FU La_167 48 1 h) (fun j => (prI c j, (j : Int))) P.toNat (e := (prI c P.toNat, (P.toNat : Int))) (fun j hj => by
    obtain ⟨c1, c2, c3⟩ := hc j (by omega) (by omega)
    have b := prI_le (f := c) (n := j + 1) (by omega) (fun i x y => (hc i x (by omega)).2)
    unfold s_X1_waysTogether_1
    simp only [lb_tg_48_7]
    rw [hP, if_pos (by omega), rdl lb_ln_73 (by omega) (by omega), Option.bind_some, c1, wid (by omega) (by omega), show prI c j * c j = prI c (j + 1) from rfl, widl (by omega) (by omega)]; rfl) (by
    unfold s_X1_waysTogether_1
    simp only
    rw [hP, if_neg (by omega)]) (Fu := FU) (FU_gt (by omega))
  have key2 : fx_loop (s_X1_waysTogether_1 FU La_167 48 1 h) FU (1, 0) = _ := key
  rw [key2]; rfl
theorem waysR_ok {g : fx_H} {P : Int} {c : Int → Int} (hP : g 127 10 = P) (P0 : 0 ≤ P) (P5 : P ≤ 5) (hc : ∀ p : Int, 0 ≤ p → p < P → g 135 p = c p ∧ 0 ≤ c p ∧ c p ≤ 120) : f_X6_ways FU La_167 126 g = some (prI c P.toNat) := by
  unfold f_X6_ways
  have key := loop_seq (step := s_X6_ways_1 FU La_167 126 g) (fun j => (prI c j, (j : Int))) P.toNat (e := (prI c P.toNat, (P.toNat : Int))) (fun j hj => by
    obtain ⟨c1, c2, c3⟩ := hc j (by omega) (by omega)
    have b := prI_le (f := c) (n := j + 1) (by omega) (fun i x y => (hc i x (by omega)).2)
    unfold s_X6_ways_1
    simp only [lb_tg_126_10]
    rw [ev_people, Option.bind_some, hP, if_pos (by omega), rdl lb_ln_135 (by omega) (by omega), Option.bind_some, c1, wid (by omega) (by omega), show prI c j * c j = prI c (j + 1) from rfl, widl (by omega) (by omega)]; rfl) (by
    unfold s_X6_ways_1
    simp only
    rw [ev_people, Option.bind_some, hP, if_neg (by omega)]) (Fu := FU) (FU_gt (by omega))
  have key2 : fx_loop (s_X6_ways_1 FU La_167 126 g) FU (1, 0) = _ := key
  rw [key2]; rfl
