-- needs: 4a
theorem tnF_s (r : Int → Int) {q : Int} (h : 0 ≤ q) : tnF r (q + 1).toNat = if r (q + 1) ≤ r q then tnF r q.toNat else q := by
  rw [show (q + 1).toNat = q.toNat + 1 by omega]
  show (if r (((q.toNat : Nat) : Int) + 1) ≤ r (q.toNat : Nat) then tnF r q.toNat else ((q.toNat : Nat) : Int)) = _
  rw [show ((q.toNat : Nat) : Int) = q by omega]
theorem gtF_s (r : Int → Int) (x : Int) {q : Int} (h : x + 1 < q) : gtF r x (q - x - 1).toNat = if r q ≤ r x then gtF r x (q - 1 - x - 1).toNat else q := by
  rw [show (q - x - 1).toNat = (q - 1 - x - 1).toNat + 1 by omega]
  show (if r (x + 1 + ((((q - 1 - x - 1).toNat : Nat) : Int) + 1)) ≤ r x then gtF r x (q - 1 - x - 1).toNat else x + 1 + ((((q - 1 - x - 1).toNat : Nat) : Int) + 1)) = _
  rw [show x + 1 + ((((q - 1 - x - 1).toNat : Nat) : Int) + 1) = q by omega]
theorem next_ok {h : fx_H} {e n L : Int} (le : fx_ln La_167 e = L) (n1 : 1 ≤ n) (nL : n ≤ L) (L5 : L ≤ 100) : Ret (f_X5_nextOrder FU La_167 e n h) (fun r => r.1 = (if tn (h e) n < 0 then 0 else 1) ∧ (∀ j : Int, 0 ≤ j → j < n → r.2 e j = nx (h e) n j) ∧ ∀ a i : Int, a ≠ e ∨ ¬ (0 ≤ i ∧ i < n) → r.2 a i = h a i) := by
  unfold f_X5_nextOrder
  have k1 : Ret (fx_loop (s_X5_nextOrder_1 FU La_167 e h) FU (n - 2)) (fun q => q = tn (h e) n) := by
    refine loop_ret (fun q => -1 ≤ q ∧ q ≤ n - 2 ∧ tnF (h e) (q + 1).toNat = tn (h e) n) (fun q => (q + 1).toNat) (fun q hq => ?_) FU _ ⟨by omega, by omega, by unfold tn; rw [show (n - 2 + 1).toNat = (n - 1).toNat by omega]⟩ (FU_gt (by omega))
    obtain ⟨q1, q2, q3⟩ := hq
    unfold s_X5_nextOrder_1
    by_cases c : 0 ≤ q
    · rw [tnF_s (h e) c] at q3
      rw [if_pos c, rdl le c (by omega), Option.bind_some, wid (z := q + 1) (by omega) (by omega), rdl le (by omega) (by omega), Option.bind_some]
      by_cases c2 : h e (q + 1) ≤ h e q
      · rw [if_pos c2] at q3
        rw [if_pos c2, Option.bind_some, if_pos rfl, wid (by omega) (by omega)]
        exact Or.inl ⟨_, rfl, ⟨by omega, by omega, by rw [show (q + -1 + 1).toNat = q.toNat by omega]; exact q3⟩, by omega⟩
      · rw [if_neg c2] at q3
        rw [if_neg c2, Option.bind_some, if_neg (by decide)]
        exact Or.inr ⟨_, rfl, q3⟩
    · rw [if_neg c, Option.bind_some, if_neg (by decide)]
      refine Or.inr ⟨_, rfl, ?_⟩
      rw [show (q + 1).toNat = 0 by omega] at q3
      have : (-1 : Int) = tn (h e) n := q3
      omega
  obtain ⟨x, e1, hx⟩ := k1
  rw [wid (z := n - 2) (by omega) (by omega), wid (z := n - 1) (by omega) (by omega), e1, Option.bind_some]
  obtain ⟨t1, t2, t3, t4⟩ := tn_ok (h e) n1
  rw [← hx] at t1 t2 t3 t4
  by_cases c : x < 0
  · rw [if_pos c]
    refine Ret.ok ⟨by rw [← hx, if_pos c], fun j a b => ?_, fun _ _ _ => rfl⟩
    unfold nx
    rw [← hx, if_pos (Or.inl c)]
  · rw [if_neg c]
    have k2 : Ret (fx_loop (s_X5_nextOrder_2 FU La_167 e x h) FU (n - 1)) (fun q => q = gt (h e) n x) := by
      refine loop_ret (fun q => x + 1 ≤ q ∧ q ≤ n - 1 ∧ gtF (h e) x (q - x - 1).toNat = gt (h e) n x) (fun q => (q + 1).toNat) (fun q hq => ?_) FU _ ⟨by omega, by omega, by unfold gt; rw [show (n - 1 - x - 1).toNat = (n - 2 - x).toNat by omega]⟩ (FU_gt (by omega))
      obtain ⟨q1, q2, q3⟩ := hq
      unfold s_X5_nextOrder_2
      rw [wid (z := x + 1) (by omega) (by omega)]
      by_cases c : x + 1 < q
      · rw [gtF_s (h e) x c] at q3
        rw [if_pos c, rdl le (by omega) (by omega), Option.bind_some, rdl le (by omega) (by omega), Option.bind_some]
        by_cases c2 : h e q ≤ h e x
        · rw [if_pos c2] at q3
          rw [if_pos c2, Option.bind_some, if_pos rfl, wid (by omega) (by omega)]
          exact Or.inl ⟨_, rfl, ⟨by omega, by omega, by rw [show q + -1 = q - 1 by omega]; exact q3⟩, by omega⟩
        · rw [if_neg c2] at q3
          rw [if_neg c2, Option.bind_some, if_neg (by decide)]
          exact Or.inr ⟨_, rfl, q3⟩
      · rw [if_neg c, Option.bind_some, if_neg (by decide)]
        refine Or.inr ⟨_, rfl, ?_⟩
        rw [show (q - x - 1).toNat = 0 by omega] at q3
        have : x + 1 = gt (h e) n x := q3
        omega
    obtain ⟨y, e2, hy⟩ := k2
    obtain ⟨g1, g2, g3, g4⟩ := gt_ok (h e) (t3 (by omega)) t2
    rw [← hy] at g1 g2 g3 g4
    rw [e2, Option.bind_some]
    have ev_swap : ∀ (s : fx_H) (i j : Int), 0 ≤ i → i < n → 0 ≤ j → j < n → f_X5_swap FU La_167 e i j s = some (fx_up (fx_up s e i (s e j)) e j (s e i)) := fun s i j a b a' b' => by
      unfold f_X5_swap
      rw [rdl le a (by omega), Option.bind_some, rdl le a' (by omega), Option.bind_some, wrl le a (by omega), Option.bind_some, wrl le a' (by omega)]; rfl
    rw [ev_swap h x y (by omega) (by omega) (by omega) (by omega), Option.bind_some, wid (z := x + 1) (by omega) (by omega)]
    generalize hw : (fun k : Int => if k = y then h e x else if k = x then h e y else h e k) = w
    have hw1 : ∀ i : Int, fx_up (fx_up h e x (h e y)) e y (h e x) e i = w i := fun i => by
      rw [← hw]
      simp only
      by_cases z : i = y
      · rw [if_pos z, up_eq rfl z]
      · rw [if_neg z, up_ne (Or.inr z)]
        by_cases z2 : i = x
        · rw [if_pos z2, up_eq rfl z2]
        · rw [if_neg z2, up_ne (Or.inr z2)]
    have hw2 : ∀ a i : Int, a ≠ e ∨ ¬ (0 ≤ i ∧ i < n) → fx_up (fx_up h e x (h e y)) e y (h e x) a i = h a i := fun a i z => by rw [up_ne (by omega), up_ne (by omega)]
    generalize fx_up (fx_up h e x (h e y)) e y (h e x) = h0 at hw1 hw2
    have k3 : Ret (fx_loop (s_X5_nextOrder_3 FU La_167 e) FU (x + 1, n - 1, h0)) (fun q => (∀ a i : Int, a ≠ e ∨ ¬ (x < i ∧ i < n) → q.2.2 a i = h0 a i) ∧ ∀ i : Int, x < i → i < n → q.2.2 e i = w (n + x - i)) := by
      refine loop_ret (fun q => x + 1 ≤ q.1 ∧ q.1 ≤ q.2.1 + 1 ∧ q.1 + q.2.1 = x + n ∧ (∀ a i : Int, a ≠ e ∨ ¬ (x < i ∧ i < n) → q.2.2 a i = h0 a i) ∧ (∀ i : Int, x < i → i < q.1 → q.2.2 e i = w (n + x - i)) ∧ (∀ i : Int, q.2.1 < i → i < n → q.2.2 e i = w (n + x - i)) ∧ (∀ i : Int, q.1 ≤ i → i ≤ q.2.1 → q.2.2 e i = w i)) (fun q => (q.2.1 - q.1 + 1).toNat) (fun q hq => ?_) FU _ ⟨by show x + 1 ≤ x + 1; omega, by show x + 1 ≤ n - 1 + 1; omega, by show x + 1 + (n - 1) = x + n; omega, fun _ _ _ => rfl, fun i a b => by have : i < x + 1 := b; omega, fun i a b => by have : n - 1 < i := a; omega, fun i _ _ => hw1 i⟩ (FU_gt (by show (n - 1 - (x + 1) + 1).toNat < _; omega))
      obtain ⟨lo, hi, s⟩ := q
      obtain ⟨q1, q2, q3, q4, q5, q6, q7⟩ := hq
      simp only at q1 q2 q3 q4 q5 q6 q7
      unfold s_X5_nextOrder_3
      simp only
      by_cases c : lo < hi
      · rw [if_pos c, ev_swap s lo hi (by omega) (by omega) (by omega) (by omega), Option.bind_some, wid (by omega) (by omega), wid (by omega) (by omega)]
        refine Or.inl ⟨_, rfl, ⟨by show x + 1 ≤ lo + 1; omega, by show lo + 1 ≤ hi + -1 + 1; omega, by show lo + 1 + (hi + -1) = x + n; omega, fun a i z => ?_, fun i a b => ?_, fun i a b => ?_, fun i a b => ?_⟩, by show (hi + -1 - (lo + 1) + 1).toNat < (hi - lo + 1).toNat; omega⟩
        · show fx_up (fx_up s e lo (s e hi)) e hi (s e lo) a i = _
          rw [up_ne (by omega), up_ne (by omega)]; exact q4 a i z
        · have b : i < lo + 1 := b
          show fx_up (fx_up s e lo (s e hi)) e hi (s e lo) e i = _
          rw [up_ne (by omega)]
          by_cases z : i = lo
          · rw [up_eq rfl z, q7 hi (by omega) (by omega)]; congr 1; omega
          · rw [up_ne (by omega)]; exact q5 i a (by omega)
        · have a : hi + -1 < i := a
          show fx_up (fx_up s e lo (s e hi)) e hi (s e lo) e i = _
          by_cases z : i = hi
          · rw [up_eq rfl z, q7 lo (by omega) (by omega)]; congr 1; omega
          · rw [up_ne (by omega), up_ne (by omega)]; exact q6 i (by omega) b
        · have a : lo + 1 ≤ i := a
          have b : i ≤ hi + -1 := b
          show fx_up (fx_up s e lo (s e hi)) e hi (s e lo) e i = _
          rw [up_ne (by omega), up_ne (by omega)]; exact q7 i (by omega) (by omega)
      · rw [if_neg c]
        refine Or.inr ⟨_, rfl, q4, fun i a b => ?_⟩
        show s e i = _
        by_cases z : i < lo
        · exact q5 i a z
        · by_cases z2 : hi < i
          · exact q6 i z2 b
          · rw [q7 i (by omega) (by omega)]; congr 1; omega
    obtain ⟨⟨lo, hi, s⟩, e3, s1, s2⟩ := k3
    simp only at s1 s2
    rw [e3, Option.bind_some]
    refine Ret.ok ⟨by rw [← hx, if_neg c], fun j a b => ?_, fun a i z => ?_⟩
    · show s e j = _
      unfold nx
      rw [← hx]
      by_cases z1 : j < x
      · rw [if_pos (by omega), s1 e j (by omega), hw1, ← hw]
        simp only
        rw [if_neg (by omega), if_neg (by omega)]
      · rw [if_neg (by omega)]
        by_cases z2 : j = x
        · rw [if_pos z2, s1 e j (by omega), hw1, ← hw]
          simp only
          rw [if_neg (by omega), if_pos z2, hy]
        · rw [if_neg z2, s2 j (by omega) b, ← hw, ← hy]
          simp only
          by_cases z3 : n + x - j = y
          · rw [if_pos z3, if_pos z3]
          · rw [if_neg z3, if_neg z3, if_neg (by omega)]
    · show s a i = _
      rw [s1 a i (by omega), hw2 a i z]
/-! ===== the first row ===== -/
def fr0 (nd : Int → Int) (j : Int) : Int := sumI 9 (fun t => if sumI (t.toNat + 1) nd ≤ j then 1 else 0)
theorem sumI_inc {nd : Int → Int} (h : ∀ t : Int, 0 ≤ t → t < 9 → 0 ≤ nd t) : ∀ (d : Nat) (a : Nat), a + d ≤ 9 → sumI a nd ≤ sumI (a + d) nd
  | 0, a, _ => Int.le_refl _
  | d + 1, a, e => by
    have h1 := sumI_inc h d a (by omega)
    have h2 := h (a + d : Nat) (by omega) (by omega)
    show sumI a nd ≤ sumI (a + d) nd + nd ((a + d : Nat) : Int)
    omega
theorem fr0_val {nd : Int → Int} {t : Nat} {j : Int} (h : ∀ t : Int, 0 ≤ t → t < 9 → 0 ≤ nd t) (t9 : t ≤ 9) (a : sumI t nd ≤ j) (b : t < 9 → j < sumI (t + 1) nd) : fr0 nd j = t := by
  unfold fr0
  have e : ∀ s : Int, 0 ≤ s → s < ((9 : Nat) : Int) → (if sumI (s.toNat + 1) nd ≤ j then (1 : Int) else 0) = if s < t then 1 else 0 := fun s s0 s9 => by
    by_cases c : s < t
    · have := sumI_inc h (t - (s.toNat + 1)) (s.toNat + 1) (by omega)
      rw [show s.toNat + 1 + (t - (s.toNat + 1)) = t by omega] at this
      rw [if_pos c, if_pos (by omega)]
    · have := sumI_inc h (s.toNat + 1 - (t + 1)) (t + 1) (by omega)
      rw [show t + 1 + (s.toNat + 1 - (t + 1)) = s.toNat + 1 by omega] at this
      have := b (by omega)
      rw [if_neg c, if_neg (by omega)]
  rw [sumI_congr e]
  have e2 : ∀ m : Nat, sumI m (fun s => if s < (t : Int) then (1 : Int) else 0) = if m ≤ t then (m : Int) else t := by
    intro m
    induction m with
    | zero => rw [if_pos (by omega)]; rfl
    | succ m ih =>
      rw [sumI_succ, ih]
      by_cases c : m + 1 ≤ t
      · rw [if_pos c, if_pos (by omega), if_pos (by omega)]; omega
      · rw [if_neg c, if_neg (show ¬ (m : Int) < (t : Int) by omega)]
        split <;> omega
  rw [e2]
  by_cases c : 9 ≤ t
  · rw [if_pos c]; omega
  · rw [if_neg c]
theorem fr0_b (nd : Int → Int) (j : Int) : 0 ≤ fr0 nd j ∧ fr0 nd j ≤ 9 := by
  refine ⟨sumI_nn (fun i _ _ => by split <;> omega), ?_⟩
  have := sumI_le (n := 9) (f := fun t => if sumI (t.toNat + 1) nd ≤ j then (1 : Int) else 0) (c := 1) (fun i _ _ => by split <;> omega)
  unfold fr0
  omega
theorem fr0_mono (nd : Int → Int) {i j : Int} (h : i ≤ j) : fr0 nd i ≤ fr0 nd j := sumI_mono (fun t _ _ => by
  by_cases c : sumI (t.toNat + 1) nd ≤ i
  · rw [if_pos c, if_pos (by omega)]; exact Int.le_refl 1
  · rw [if_neg c]; split <;> omega)
/-- for each place of the first row, where it lies -/
theorem fr0_at {nd : Int → Int} {j : Int} (h : ∀ t : Int, 0 ≤ t → t < 9 → 0 ≤ nd t) (j0 : 0 ≤ j) : ∃ t : Nat, t ≤ 9 ∧ fr0 nd j = t ∧ sumI t nd ≤ j ∧ (t < 9 → j < sumI (t + 1) nd) := by
  have key : ∀ m : Nat, m ≤ 9 → (∃ t : Nat, t < m ∧ sumI t nd ≤ j ∧ j < sumI (t + 1) nd) ∨ sumI m nd ≤ j := by
    intro m
    induction m with
    | zero => intro _; exact Or.inr j0
    | succ m ih =>
      intro hm
      rcases ih (by omega) with ⟨t, a, b, c⟩ | c
      · exact Or.inl ⟨t, by omega, b, c⟩
      · by_cases d : j < sumI (m + 1) nd
        · exact Or.inl ⟨m, by omega, c, d⟩
        · exact Or.inr (by omega)
  rcases key 9 (by omega) with ⟨t, a, b, c⟩ | c
  · exact ⟨t, by omega, fr0_val h (by omega) b (fun _ => c), b, fun _ => c⟩
  · exact ⟨9, by omega, fr0_val h (by omega) c (fun z => by omega), c, fun z => by omega⟩
/-- how often a thing stands in the first row -/
theorem fr0_cnt {nd : Int → Int} {n s : Int} (h : ∀ t : Int, 0 ≤ t → t < 9 → 0 ≤ nd t) (n5 : n ≤ 5) (hn : sumI 9 nd ≤ n) (s0 : 0 ≤ s) (s9 : s ≤ 9) : rs5 (fun k => if fr0 nd k = s then 1 else 0) 0 n = if s = 9 then n - sumI 9 nd else nd s := by
  have p0 : 0 ≤ sumI s.toNat nd := sumI_nn (fun i a b => h i a (by omega))
  have pn : sumI s.toNat nd ≤ sumI 9 nd := by
    have := sumI_inc h (9 - s.toNat) s.toNat (by omega)
    rw [show s.toNat + (9 - s.toNat) = 9 by omega] at this
    exact this
  have e : rs5 (fun k => if fr0 nd k = s then 1 else 0) 0 n = rs5 (fun k => if sumI s.toNat nd ≤ k ∧ (s = 9 ∨ k < sumI (s.toNat + 1) nd) then 1 else 0) 0 n := rs5_congr (fun k k0 _ k1 => by
    obtain ⟨t, t9, a, b, c⟩ := fr0_at (j := k) h k0
    refine ite_iff ⟨fun z => ?_, fun z => ?_⟩
    · have : s.toNat = t := by omega
      rw [this]
      exact ⟨b, by by_cases q : t < 9; exact Or.inr (c q); exact Or.inl (by omega)⟩
    · rw [fr0_val h (show s.toNat ≤ 9 by omega) z.1 (fun q => by rcases z.2 with y | y; omega; exact y)]
      omega)
  rw [e, rs5_eq]
  by_cases c : s = 9
  · rw [if_pos c]
    have e9 : s.toNat = 9 := by omega
    rw [e9] at p0 ⊢
    generalize sumI 9 nd = A at *
    simp only [c, true_or, and_true]
    rcases (show n = 0 ∨ n = 1 ∨ n = 2 ∨ n = 3 ∨ n = 4 ∨ n = 5 by omega) with rfl | rfl | rfl | rfl | rfl | rfl <;>
    rcases (show A = 0 ∨ A = 1 ∨ A = 2 ∨ A = 3 ∨ A = 4 ∨ A = 5 by omega) with rfl | rfl | rfl | rfl | rfl | rfl <;> (try omega) <;> simp
  · rw [if_neg c]
    have q1 : sumI (s.toNat + 1) nd = sumI s.toNat nd + nd s := by rw [sumI_succ, show ((s.toNat : Nat) : Int) = s by omega]
    have q2 : sumI (s.toNat + 1) nd ≤ n := by
      have := sumI_inc h (9 - (s.toNat + 1)) (s.toNat + 1) (by omega)
      rw [show s.toNat + 1 + (9 - (s.toNat + 1)) = 9 by omega] at this
      omega
    have q3 := h s s0 (by omega)
    generalize sumI (s.toNat + 1) nd = B at *
    generalize sumI s.toNat nd = A at *
    have q4 : nd s = B - A := by omega
    rw [q4]
    simp only [c, false_or]
    have i5 : ∀ j : Int, ((0 : Int) ≤ j ∧ j < n) ∧ (A ≤ j ∧ j < B) ↔ A ≤ j ∧ j < B := fun j => by omega
    have f5 : ∀ j : Int, (if (0 : Int) ≤ j ∧ j < n then (if A ≤ j ∧ j < B then (1 : Int) else 0) else 0) = if A ≤ j ∧ j < B then 1 else 0 := fun j => by
      by_cases z : A ≤ j ∧ j < B
      · rw [if_pos z, if_pos (by omega)]
      · rw [if_neg z]; split <;> rfl
    rw [f5, f5, f5, f5, f5]
    rcases (show A = 0 ∨ A = 1 ∨ A = 2 ∨ A = 3 ∨ A = 4 ∨ A = 5 by omega) with rfl | rfl | rfl | rfl | rfl | rfl <;>
    rcases (show B = 0 ∨ B = 1 ∨ B = 2 ∨ B = 3 ∨ B = 4 ∨ B = 5 by omega) with rfl | rfl | rfl | rfl | rfl | rfl <;> (try omega) <;> simp
