-- needs: 3w
/-! ===== the next order, purely ===== -/
def tnF (r : Int → Int) : Nat → Int
  | 0 => -1
  | m + 1 => if r ((m : Int) + 1) ≤ r m then tnF r m else (m : Int)
/-- where the next order turns: -1, if there is none -/
def tn (r : Int → Int) (n : Int) : Int := tnF r (n - 1).toNat
def gtF (r : Int → Int) (x : Int) : Nat → Int
  | 0 => x + 1
  | m + 1 => if r (x + 1 + ((m : Int) + 1)) ≤ r x then gtF r x m else x + 1 + ((m : Int) + 1)
def gt (r : Int → Int) (n x : Int) : Int := gtF r x (n - 2 - x).toNat
def nx (r : Int → Int) (n j : Int) : Int :=
  if tn r n < 0 ∨ j < tn r n ∨ n ≤ j then r j else
  if j = tn r n then r (gt r n (tn r n)) else
  if n + tn r n - j = gt r n (tn r n) then r (tn r n) else r (n + tn r n - j)
theorem tnF_ok (r : Int → Int) : ∀ m : Nat, -1 ≤ tnF r m ∧ tnF r m < m ∧ (0 ≤ tnF r m → r (tnF r m) < r (tnF r m + 1)) ∧ ∀ j : Int, tnF r m < j → j < m → r (j + 1) ≤ r j
  | 0 => ⟨Int.le_refl (-1), by show (-1 : Int) < ((0 : Nat) : Int); omega, fun h => absurd (show (0 : Int) ≤ -1 from h) (by decide), fun j a b => by have : (-1 : Int) < j := a; omega⟩
  | m + 1 => by
    obtain ⟨h1, h2, h3, h4⟩ := tnF_ok r m
    show -1 ≤ (if r ((m : Int) + 1) ≤ r m then tnF r m else (m : Int)) ∧ (if r ((m : Int) + 1) ≤ r m then tnF r m else (m : Int)) < ((m + 1 : Nat) : Int) ∧ (0 ≤ (if r ((m : Int) + 1) ≤ r m then tnF r m else (m : Int)) → r (if r ((m : Int) + 1) ≤ r m then tnF r m else (m : Int)) < r ((if r ((m : Int) + 1) ≤ r m then tnF r m else (m : Int)) + 1)) ∧ ∀ j : Int, (if r ((m : Int) + 1) ≤ r m then tnF r m else (m : Int)) < j → j < ((m + 1 : Nat) : Int) → r (j + 1) ≤ r j
    by_cases c : r ((m : Int) + 1) ≤ r m
    · simp only [if_pos c]
      refine ⟨h1, by omega, h3, fun j a b => ?_⟩
      by_cases e : j = m
      · rw [e]; exact c
      · exact h4 j a (by omega)
    · simp only [if_neg c]
      exact ⟨by omega, by omega, fun _ => by omega, fun j a b => by omega⟩
theorem gtF_ok (r : Int → Int) (x : Int) (hx : r x < r (x + 1)) : ∀ m : Nat, x + 1 ≤ gtF r x m ∧ gtF r x m ≤ x + 1 + m ∧ r x < r (gtF r x m) ∧ ∀ j : Int, gtF r x m < j → j ≤ x + 1 + m → r j ≤ r x
  | 0 => ⟨by show x + 1 ≤ x + 1; omega, by show x + 1 ≤ x + 1 + ((0 : Nat) : Int); omega, hx, fun j a b => by have : x + 1 < j := a; omega⟩
  | m + 1 => by
    obtain ⟨h1, h2, h3, h4⟩ := gtF_ok r x hx m
    show x + 1 ≤ (if r (x + 1 + ((m : Int) + 1)) ≤ r x then gtF r x m else x + 1 + ((m : Int) + 1)) ∧ (if r (x + 1 + ((m : Int) + 1)) ≤ r x then gtF r x m else x + 1 + ((m : Int) + 1)) ≤ x + 1 + ((m + 1 : Nat) : Int) ∧ r x < r (if r (x + 1 + ((m : Int) + 1)) ≤ r x then gtF r x m else x + 1 + ((m : Int) + 1)) ∧ ∀ j : Int, (if r (x + 1 + ((m : Int) + 1)) ≤ r x then gtF r x m else x + 1 + ((m : Int) + 1)) < j → j ≤ x + 1 + ((m + 1 : Nat) : Int) → r j ≤ r x
    by_cases c : r (x + 1 + ((m : Int) + 1)) ≤ r x
    · simp only [if_pos c]
      refine ⟨h1, by omega, h3, fun j a b => ?_⟩
      by_cases e : j = x + 1 + ((m : Int) + 1)
      · rw [e]; exact c
      · exact h4 j a (by omega)
    · simp only [if_neg c]
      exact ⟨by omega, by omega, by omega, fun j a b => by omega⟩
/-- what a turn is -/
theorem tn_ok (r : Int → Int) {n : Int} (n1 : 1 ≤ n) : -1 ≤ tn r n ∧ tn r n ≤ n - 2 ∧ (0 ≤ tn r n → r (tn r n) < r (tn r n + 1)) ∧ ∀ j : Int, tn r n < j → j ≤ n - 2 → r (j + 1) ≤ r j := by
  obtain ⟨h1, h2, h3, h4⟩ := tnF_ok r (n - 1).toNat
  exact ⟨h1, by unfold tn; omega, h3, fun j a b => h4 j a (by omega)⟩
theorem gt_ok (r : Int → Int) {n x : Int} (hx : r x < r (x + 1)) (x2 : x ≤ n - 2) : x + 1 ≤ gt r n x ∧ gt r n x ≤ n - 1 ∧ r x < r (gt r n x) ∧ ∀ j : Int, gt r n x < j → j ≤ n - 1 → r j ≤ r x := by
  obtain ⟨h1, h2, h3, h4⟩ := gtF_ok r x hx (n - 2 - x).toNat
  exact ⟨h1, by unfold gt; omega, h3, fun j a b => h4 j a (by omega)⟩
/-- behind the turn nothing rises -/
theorem tn_mono (r : Int → Int) {n : Int} (n1 : 1 ≤ n) : ∀ (d : Nat) (j : Int), tn r n < j → j + d ≤ n - 1 → r (j + d) ≤ r j
  | 0, j, _, _ => by rw [show j + ((0 : Nat) : Int) = j by omega]; exact Int.le_refl _
  | d + 1, j, a, b => by
    have h1 := tn_mono r n1 d j a (by omega)
    have h2 := (tn_ok r n1).2.2.2 (j + d) (by omega) (by omega)
    rw [show j + ((d + 1 : Nat) : Int) = j + d + 1 by omega]
    omega
theorem tn_mono' (r : Int → Int) {n j k : Int} (n1 : 1 ≤ n) (a : tn r n < j) (b : j ≤ k) (c : k ≤ n - 1) : r k ≤ r j := by
  have := tn_mono r n1 (k - j).toNat j a (by omega)
  rw [show j + (((k - j).toNat : Nat) : Int) = k by omega] at this
  exact this
theorem nx_lt {r : Int → Int} {n j : Int} (h : j < tn r n) : nx r n j = r j := by unfold nx; rw [if_pos (by omega)]
theorem nx_at {r : Int → Int} {n : Int} (n1 : 1 ≤ n) (h : 0 ≤ tn r n) : nx r n (tn r n) = r (gt r n (tn r n)) := by
  have := (tn_ok r n1).2.1
  unfold nx; rw [if_neg (by omega), if_pos rfl]
theorem nx_gt {r : Int → Int} {n j : Int} (h : 0 ≤ tn r n) (a : tn r n < j) (b : j < n) : nx r n j = if n + tn r n - j = gt r n (tn r n) then r (tn r n) else r (n + tn r n - j) := by
  unfold nx; rw [if_neg (by omega), if_neg (by omega)]
theorem nx_out {r : Int → Int} {n j : Int} (h : n ≤ j) : nx r n j = r j := by unfold nx; rw [if_pos (by omega)]
/-- behind the turn the next order rises -/
theorem nx_up {r : Int → Int} {n j : Int} (n1 : 1 ≤ n) (h : 0 ≤ tn r n) (a : tn r n < j) (b : j + 1 < n) : nx r n j ≤ nx r n (j + 1) := by
  obtain ⟨t1, t2, t3, t4⟩ := tn_ok r n1
  obtain ⟨g1, g2, g3, g4⟩ := gt_ok r (t3 h) t2
  rw [nx_gt h a (by omega), nx_gt h (by omega) b]
  have m1 := t4 (n + tn r n - (j + 1)) (by omega) (by omega)
  rw [show n + tn r n - (j + 1) + 1 = n + tn r n - j by omega] at m1
  by_cases c1 : n + tn r n - j = gt r n (tn r n)
  · rw [if_pos c1, if_neg (by omega)]
    rw [c1] at m1
    omega
  · rw [if_neg c1]
    by_cases c2 : n + tn r n - (j + 1) = gt r n (tn r n)
    · rw [if_pos c2]
      exact g4 _ (by omega) (by omega)
    · rw [if_neg c2]; exact m1
/-- sums over the places from lo to hi -/
def rs5 (f : Int → Int) (lo hi : Int) : Int := sumI 5 (fun k => if lo ≤ k ∧ k < hi then f k else 0)
theorem rs5_eq (f : Int → Int) (lo hi : Int) : rs5 f lo hi = (if lo ≤ 0 ∧ 0 < hi then f 0 else 0) + (if lo ≤ 1 ∧ 1 < hi then f 1 else 0) + (if lo ≤ 2 ∧ 2 < hi then f 2 else 0) + (if lo ≤ 3 ∧ 3 < hi then f 3 else 0) + (if lo ≤ 4 ∧ 4 < hi then f 4 else 0) := by
  show 0 + _ + _ + _ + _ + _ = _
  rw [Int.zero_add]; rfl
theorem rs5_first {f : Int → Int} {lo hi : Int} (h0 : 0 ≤ lo) (h1 : lo < hi) (h5 : hi ≤ 5) : rs5 f lo hi = f lo + rs5 f (lo + 1) hi := by
  unfold rs5
  rw [sumI_at (p := lo) h0 (show lo < ((5 : Nat) : Int) by omega), if_pos ⟨Int.le_refl lo, h1⟩, Int.add_comm]
  congr 1
  refine sumI_congr (fun i a b => ?_)
  by_cases c : i = lo
  · rw [if_pos c, if_neg (by omega)]
  · rw [if_neg c]; exact ite_iff (by omega)
theorem rs5_congr {f g : Int → Int} {lo hi : Int} (h : ∀ k : Int, 0 ≤ k → lo ≤ k → k < hi → f k = g k) : rs5 f lo hi = rs5 g lo hi := by
  refine sumI_congr (fun i a b => ?_)
  by_cases c : lo ≤ i ∧ i < hi
  · rw [if_pos c, if_pos c]; exact h i a c.1 c.2
  · rw [if_neg c, if_neg c]
theorem rs5_empty {f : Int → Int} {lo hi : Int} (h : hi ≤ lo) : rs5 f lo hi = 0 := sum_zero (fun i a b => by rw [if_neg (by omega)])
theorem rs5_nn {f : Int → Int} {lo hi : Int} (h : ∀ k : Int, 0 ≤ k → lo ≤ k → k < hi → 0 ≤ f k) : 0 ≤ rs5 f lo hi := sumI_nn (fun i a b => by
  by_cases c : lo ≤ i ∧ i < hi
  · rw [if_pos c]; exact h i a c.1 c.2
  · rw [if_neg c]; exact Int.le_refl 0)
theorem rs5_mono {f g : Int → Int} {lo hi : Int} (h : ∀ k : Int, 0 ≤ k → lo ≤ k → k < hi → f k ≤ g k) : rs5 f lo hi ≤ rs5 g lo hi := sumI_mono (fun i a b => by
  by_cases c : lo ≤ i ∧ i < hi
  · rw [if_pos c, if_pos c]; exact h i a c.1 c.2
  · rw [if_neg c, if_neg c]; exact Int.le_refl 0)
/-- turned round -/
theorem rs5_rev {f : Int → Int} {x n : Int} (x0 : -1 ≤ x) (xn : x < n) (n5 : n ≤ 5) : rs5 (fun k => f (n + x - k)) (x + 1) n = rs5 f (x + 1) n := by
  rw [rs5_eq, rs5_eq]
  rcases (show n = 0 ∨ n = 1 ∨ n = 2 ∨ n = 3 ∨ n = 4 ∨ n = 5 by omega) with rfl | rfl | rfl | rfl | rfl | rfl <;>
  rcases (show x = -1 ∨ x = 0 ∨ x = 1 ∨ x = 2 ∨ x = 3 ∨ x = 4 by omega) with rfl | rfl | rfl | rfl | rfl | rfl <;> (try omega) <;> simp <;> omega
theorem rs5_set {f : Int → Int} {lo hi y v : Int} (y0 : 0 ≤ y) (a : lo ≤ y) (b : y < hi) (h5 : hi ≤ 5) : rs5 (fun k => if k = y then v else f k) lo hi = rs5 f lo hi - f y + v := by
  have e1 : rs5 (fun k => if k = y then v else f k) lo hi = sumI 5 (fun k => (if lo ≤ k ∧ k < hi then f k else 0) + (if k = y then v - f y else 0)) := sumI_congr (fun i _ _ => by
    show (if lo ≤ i ∧ i < hi then (if i = y then v else f i) else 0) = (if lo ≤ i ∧ i < hi then f i else 0) + (if i = y then v - f y else 0)
    by_cases c : i = y
    · rw [c, if_pos (show lo ≤ y ∧ y < hi from ⟨a, b⟩), if_pos (show lo ≤ y ∧ y < hi from ⟨a, b⟩), if_pos rfl, if_pos rfl]; omega
    · rw [if_neg c, if_neg c, Int.add_zero])
  rw [e1, sumI_add, sumI_one, if_pos ⟨y0, by omega⟩]
  unfold rs5
  omega
/-- what stands behind the turn: the same but for two -/
theorem nx_sum {r : Int → Int} {n : Int} (f : Int → Int) (n1 : 1 ≤ n) (n5 : n ≤ 5) (h : 0 ≤ tn r n) : rs5 (fun k => f (nx r n k)) (tn r n + 1) n = rs5 (fun k => f (r k)) (tn r n + 1) n - f (r (gt r n (tn r n))) + f (r (tn r n)) := by
  obtain ⟨t1, t2, t3, t4⟩ := tn_ok r n1
  obtain ⟨g1, g2, g3, g4⟩ := gt_ok r (t3 h) t2
  rw [← rs5_set (f := fun k => f (r k)) (y := gt r n (tn r n)) (v := f (r (tn r n))) (by omega) (by omega) (by omega) n5]
  rw [← rs5_rev (f := fun k => if k = gt r n (tn r n) then f (r (tn r n)) else f (r k)) t1 (by omega) n5]
  refine rs5_congr (fun k a b c => ?_)
  rw [nx_gt h (by omega) c]
  by_cases e : n + tn r n - k = gt r n (tn r n)
  · rw [if_pos e, if_pos e]
  · rw [if_neg e, if_neg e]
/-- the next order has the same elements, from any place ahead of the turn on -/
theorem nx_all {r : Int → Int} {n : Int} (f : Int → Int) (n1 : 1 ≤ n) (n5 : n ≤ 5) (h : 0 ≤ tn r n) : ∀ (d : Nat) (lo : Int), 0 ≤ lo → lo + d = tn r n → rs5 (fun k => f (nx r n k)) lo n = rs5 (fun k => f (r k)) lo n
  | 0, lo, l0, e => by
    obtain ⟨t1, t2, t3, t4⟩ := tn_ok r n1
    have e : lo = tn r n := by omega
    subst e
    rw [rs5_first l0 (by omega) n5, rs5_first (f := fun k => f (r k)) l0 (by omega) n5, nx_sum f n1 n5 h]
    rw [nx_at n1 h]
    omega
  | d + 1, lo, l0, e => by
    obtain ⟨t1, t2, t3, t4⟩ := tn_ok r n1
    rw [rs5_first l0 (by omega) n5, rs5_first (f := fun k => f (r k)) l0 (by omega) n5, nx_all f n1 n5 h d (lo + 1) (by omega) (by omega)]
    rw [nx_lt (by omega)]
theorem nx_all' {r : Int → Int} {n lo : Int} (f : Int → Int) (n1 : 1 ≤ n) (n5 : n ≤ 5) (h : 0 ≤ tn r n) (l0 : 0 ≤ lo) (l1 : lo ≤ tn r n) : rs5 (fun k => f (nx r n k)) lo n = rs5 (fun k => f (r k)) lo n :=
  nx_all f n1 n5 h (tn r n - lo).toNat lo l0 (by omega)
/-- the rank of an order -/
def dg (r : Int → Int) (n j : Int) : Int := if 0 ≤ j then rs5 (fun k => if r k < r j then 1 else 0) (j + 1) n else 0
def rk (r : Int → Int) (n : Int) : Int := 24 * dg r n (n - 5) + 6 * dg r n (n - 4) + 2 * dg r n (n - 3) + dg r n (n - 2)
theorem dg_b (r : Int → Int) {n j : Int} (h : j < n) (n5 : n ≤ 5) (n1 : 1 ≤ n) : 0 ≤ dg r n j ∧ dg r n j ≤ n - 1 - j ∧ (j < 0 → dg r n j = 0) := by
  unfold dg
  by_cases c : 0 ≤ j
  · rw [if_pos c]
    refine ⟨rs5_nn (fun k _ _ _ => by split <;> omega), ?_, fun z => by omega⟩
    have h1 : rs5 (fun k => if r k < r j then 1 else 0) (j + 1) n ≤ rs5 (fun _ => 1) (j + 1) n := rs5_mono (fun k _ _ _ => by split <;> omega)
    have h2 : rs5 (fun _ => 1) (j + 1) n = n - 1 - j := by
      rw [rs5_eq]
      rcases (show n = 1 ∨ n = 2 ∨ n = 3 ∨ n = 4 ∨ n = 5 by omega) with rfl | rfl | rfl | rfl | rfl <;>
      rcases (show j = 0 ∨ j = 1 ∨ j = 2 ∨ j = 3 ∨ j = 4 by omega) with rfl | rfl | rfl | rfl | rfl <;> (try omega) <;> simp
    omega
  · rw [if_neg c]; exact ⟨by omega, by omega, fun _ => rfl⟩
theorem rk_b (r : Int → Int) {n : Int} (n5 : n ≤ 5) (n1 : 1 ≤ n) : 0 ≤ rk r n ∧ rk r n ≤ 119 ∧ (n ≤ 4 → rk r n ≤ 23) := by
  have h1 := dg_b r (j := n - 5) (by omega) n5 n1
  have h2 := dg_b r (j := n - 4) (by omega) n5 n1
  have h3 := dg_b r (j := n - 3) (by omega) n5 n1
  have h4 := dg_b r (j := n - 2) (by omega) n5 n1
  unfold rk
  refine ⟨by omega, by omega, fun h => ?_⟩
  have := h1.2.2 (by omega)
  omega
theorem dg_lt {r : Int → Int} {n j : Int} (n1 : 1 ≤ n) (n5 : n ≤ 5) (h : 0 ≤ tn r n) (a : j < tn r n) : dg (nx r n) n j = dg r n j := by
  unfold dg
  by_cases c : 0 ≤ j
  · rw [if_pos c, if_pos c, nx_lt a]
    exact nx_all' (fun v => if v < r j then 1 else 0) n1 n5 h (by omega) (by omega)
  · rw [if_neg c, if_neg c]
theorem dg_at {r : Int → Int} {n : Int} (n1 : 1 ≤ n) (n5 : n ≤ 5) (h : 0 ≤ tn r n) : dg r n (tn r n) + 1 ≤ dg (nx r n) n (tn r n) := by
  obtain ⟨t1, t2, t3, t4⟩ := tn_ok r n1
  obtain ⟨g1, g2, g3, g4⟩ := gt_ok r (t3 h) t2
  unfold dg
  rw [if_pos h, if_pos h, nx_at n1 h, nx_sum (fun v => if v < r (gt r n (tn r n)) then 1 else 0) n1 n5 h]
  rw [if_neg (Int.lt_irrefl _), if_pos g3]
  have := rs5_mono (f := fun k => if r k < r (tn r n) then 1 else 0) (g := fun k => if r k < r (gt r n (tn r n)) then 1 else 0) (lo := tn r n + 1) (hi := n) (fun k _ _ _ => by
    by_cases c : r k < r (tn r n)
    · rw [if_pos c, if_pos (by omega)]; exact Int.le_refl 1
    · rw [if_neg c]; split <;> omega)
  omega
theorem rk_up {r : Int → Int} {n : Int} (n1 : 1 ≤ n) (n5 : n ≤ 5) (h : 0 ≤ tn r n) : rk r n + 1 ≤ rk (nx r n) n := by
  obtain ⟨t1, t2, t3, t4⟩ := tn_ok r n1
  have ha := dg_at n1 n5 h
  have b1 := dg_b r (j := n - 5) (by omega) n5 n1
  have b2 := dg_b r (j := n - 4) (by omega) n5 n1
  have b3 := dg_b r (j := n - 3) (by omega) n5 n1
  have b4 := dg_b r (j := n - 2) (by omega) n5 n1
  have c1 := dg_b (nx r n) (j := n - 5) (by omega) n5 n1
  have c2 := dg_b (nx r n) (j := n - 4) (by omega) n5 n1
  have c3 := dg_b (nx r n) (j := n - 3) (by omega) n5 n1
  have c4 := dg_b (nx r n) (j := n - 2) (by omega) n5 n1
  unfold rk
  rcases (show tn r n = n - 5 ∨ tn r n = n - 4 ∨ tn r n = n - 3 ∨ tn r n = n - 2 by omega) with e | e | e | e
  · rw [e] at ha; omega
  · rw [e] at ha
    rw [dg_lt (j := n - 5) n1 n5 h (by omega)]; omega
  · rw [e] at ha
    rw [dg_lt (j := n - 5) n1 n5 h (by omega), dg_lt (j := n - 4) n1 n5 h (by omega)]; omega
  · rw [e] at ha
    rw [dg_lt (j := n - 5) n1 n5 h (by omega), dg_lt (j := n - 4) n1 n5 h (by omega), dg_lt (j := n - 3) n1 n5 h (by omega)]; omega
/-- the orders one behind another, and how many they are -/
def Rq (n : Int) (r : Int → Int) : Nat → Int → Int
  | 0 => r
  | i + 1 => nx (Rq n r i) n
def rcF (n : Int) : Nat → (Int → Int) → Nat
  | 0, _ => 0
  | f + 1, r => if tn r n < 0 then 1 else 1 + rcF n f (nx r n)
def rc (n : Int) (r : Int → Int) : Nat := rcF n 120 r
theorem Rq_s (n : Int) (r : Int → Int) : ∀ i : Nat, Rq n (nx r n) i = Rq n r (i + 1)
  | 0 => rfl
  | i + 1 => by
    show nx (Rq n (nx r n) i) n = nx (Rq n r (i + 1)) n
    rw [Rq_s n r i]
theorem rcF_ok {n : Int} (n1 : 1 ≤ n) (n5 : n ≤ 5) : ∀ (f : Nat) (r : Int → Int), 120 ≤ rk r n + f → 1 ≤ rcF n f r ∧ rcF n f r ≤ f ∧ (rcF n f r : Int) + rk r n ≤ rk (Rq n r (rcF n f r - 1)) n + 1 ∧ tn (Rq n r (rcF n f r - 1)) n < 0 ∧ ∀ i : Nat, i + 1 < rcF n f r → 0 ≤ tn (Rq n r i) n
  | 0, r, h => by have := rk_b r n5 n1; omega
  | f + 1, r, h => by
    show 1 ≤ (if tn r n < 0 then 1 else 1 + rcF n f (nx r n)) ∧ (if tn r n < 0 then 1 else 1 + rcF n f (nx r n)) ≤ f + 1 ∧ ((if tn r n < 0 then 1 else 1 + rcF n f (nx r n) : Nat) : Int) + rk r n ≤ rk (Rq n r ((if tn r n < 0 then 1 else 1 + rcF n f (nx r n)) - 1)) n + 1 ∧ tn (Rq n r ((if tn r n < 0 then 1 else 1 + rcF n f (nx r n)) - 1)) n < 0 ∧ ∀ i : Nat, i + 1 < (if tn r n < 0 then 1 else 1 + rcF n f (nx r n)) → 0 ≤ tn (Rq n r i) n
    by_cases c : tn r n < 0
    · simp only [if_pos c]
      exact ⟨by omega, by omega, by show ((1 : Nat) : Int) + rk r n ≤ rk r n + 1; omega, c, fun i hi => by omega⟩
    · simp only [if_neg c]
      have hu := rk_up (r := r) n1 n5 (by omega)
      obtain ⟨a1, a2, a3, a4, a5⟩ := rcF_ok n1 n5 f (nx r n) (by omega)
      have e : Rq n (nx r n) (rcF n f (nx r n) - 1) = Rq n r (1 + rcF n f (nx r n) - 1) := by
        rw [Rq_s, show rcF n f (nx r n) - 1 + 1 = 1 + rcF n f (nx r n) - 1 by omega]
      rw [e] at a3 a4
      refine ⟨by omega, by omega, by omega, a4, fun i hi => ?_⟩
      cases i with
      | zero => show 0 ≤ tn r n; omega
      | succ i => rw [← Rq_s]; exact a5 i (by omega)
theorem rc_ok {n : Int} (n1 : 1 ≤ n) (n5 : n ≤ 5) (r : Int → Int) : 1 ≤ rc n r ∧ rc n r ≤ 120 ∧ (n ≤ 4 → rc n r ≤ 24) ∧ tn (Rq n r (rc n r - 1)) n < 0 ∧ ∀ i : Nat, i + 1 < rc n r → 0 ≤ tn (Rq n r i) n := by
  have b := rk_b r n5 n1
  obtain ⟨a1, a2, a3, a4, a5⟩ := rcF_ok n1 n5 120 r (by omega)
  have b2 := rk_b (Rq n r (rcF n 120 r - 1)) n5 n1
  exact ⟨a1, a2, fun h => by have := b2.2.2 h; unfold rc; omega, a4, a5⟩
/-- the same elements in all of them -/
theorem Rq_all {n : Int} {r : Int → Int} (f : Int → Int) (n1 : 1 ≤ n) (n5 : n ≤ 5) : ∀ i : Nat, i < rc n r → rs5 (fun k => f (Rq n r i k)) 0 n = rs5 (fun k => f (r k)) 0 n
  | 0, _ => rfl
  | i + 1, h => by
    have ih := Rq_all (r := r) f n1 n5 i (by omega)
    have h0 := (rc_ok n1 n5 r).2.2.2.2 i h
    have h1 := nx_all' (r := Rq n r i) (lo := 0) f n1 n5 h0 (Int.le_refl 0) h0
    exact Eq.trans h1 ih
