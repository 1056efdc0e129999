-- needs: 4e
/-- the rows that were kept so far -/
def DS (g : fx_H) (p n : Int) (r0 : Int → Int) (c : Nat) (s : fx_H) : Prop := (∀ a i : Int, a ≠ 136 → a ≠ 137 → ¬ (a = 135 ∧ i = p) → ¬ (a = 134 ∧ 600 * p ≤ i ∧ i < 600 * p + 600) → s a i = g a i) ∧ s 135 p = c ∧ ∀ i j : Int, 0 ≤ i → i < c → 0 ≤ j → j < n → s 134 (600 * p + 5 * i + j) = de (Rq n r0 i.toNat j)
theorem DS_congr {g s s' : fx_H} {p n : Int} {r0 : Int → Int} {c : Nat} (e : ∀ a i : Int, a ≠ 136 → a ≠ 137 → s' a i = s a i) (d : DS g p n r0 c s) : DS g p n r0 c s' :=
  ⟨fun a i x y z w => by rw [e a i x y]; exact d.1 a i x y z w, by rw [e _ _ (by omega) (by omega)]; exact d.2.1, fun i j a b a' b' => by rw [e _ _ (by omega) (by omega)]; exact d.2.2 i j a b a' b'⟩
section DFS
variable {g : fx_H} {p n : Int} {r0 : Int → Int}
/-- down to a row's end -/
theorem dfs_down (p0 : 0 ≤ p) (p5 : p < 5) (n1 : 1 ≤ n) (n5 : n ≤ 5) {c : Nat} (hc : c < 120) {a : Int → Int} (ha : ∀ j : Int, 0 ≤ j → j < n → a j = Rq n r0 c j) : ∀ (m : Nat) (hh : Int) (s : fx_H), 0 ≤ hh → hh + m = n - 1 → DS g p n r0 c s → (∀ j : Int, 0 ≤ j → j < hh → s 137 j = a j) → s 137 hh = -1 → (∀ u : Int, 0 ≤ u → u ≤ 9 → s 136 u = cn a hh n u) → (∀ j : Int, hh ≤ j → j + 1 < n → a j ≤ a (j + 1)) → (∀ j : Int, hh ≤ j → j < n → 0 ≤ a j ∧ a j ≤ 9) →
    ∃ s' : fx_H, Rch (s_X6_findRows_1 FU La_167 126 p n) (m + 1) (hh, s) (n - 1, s') ∧ DS g p n r0 (c + 1) s' ∧ (∀ j : Int, 0 ≤ j → j < n → s' 137 j = a j) ∧ ∀ u : Int, 0 ≤ u → u ≤ 9 → s' 136 u = 0 := by
  intro m
  induction m with
  | zero =>
    intro hh s h0 hm D dp dh lf as av
    have hE : hh = n - 1 := by omega
    obtain ⟨t, s1, ⟨x1, x2, x3, x4⟩, y1, y2, -, y3⟩ := iter_ok (p := p) n5 h0 (show hh < n by omega) dh (by omega) (by omega) (fun u a' b' => by rw [lf u a' b']; have := cn_b a hh n u; omega)
    have av1 := av hh (Int.le_refl hh) (by omega)
    have l1 := cn_ge (r := a) h0 (Int.le_refl hh) (show hh < n by omega) n5
    have tE : t = a hh := by
      have t1 : t ≤ a hh := by
        by_cases z : t ≤ a hh
        · exact z
        · have := x4 (a hh) (by omega) (by omega)
          simp only at this
          rw [lf (a hh) (by omega) (by omega), if_neg (by omega)] at this
          omega
      have t2 := x3 (by omega)
      simp only at t2
      rw [lf t (by omega) (by omega), if_neg (by omega), Int.add_zero] at t2
      obtain ⟨k, k0, k1, k2, k3⟩ := cn_pos t2
      have : k = hh := by omega
      rw [← k3, this]
    obtain ⟨z1, z2, -⟩ := y3 (by omega)
    have z2 := z2 hE
    obtain ⟨w, e1, w1, w2, w3⟩ := keepRow_ok (s := s1) (c := c) p0 p5 (by omega) n5 (by rw [y1 _ _ (by omega) (by omega)]; exact D.2.1) (by omega) (by omega)
    rw [e1, Option.bind_some] at z2
    have d1 : ∀ j : Int, 0 ≤ j → j < n → s1 137 j = a j := fun j a' b' => by
      by_cases e : j = hh
      · rw [e, y2, tE]
      · rw [y1 _ _ (by omega) (by omega)]; exact dp j a' (by omega)
    refine ⟨w, by rw [← hE]; exact Rch.one z2, ⟨fun b i q1 q2 q3 q4 => ?_, by rw [w2]; rfl, fun i j a' b' c' d' => ?_⟩, fun j a' b' => ?_, fun u a' b' => ?_⟩
    · rw [w1 b i q3 (by omega), y1 b i (by omega) q1]; exact D.1 b i q1 q2 q3 q4
    · by_cases e : i = c
      · rw [e, w3 j c' d', d1 j c' d', ha j c' d', show ((c : Int)).toNat = c by omega]
      · rw [w1 _ _ (by omega) (by omega), y1 _ _ (by omega) (by omega)]; exact D.2.2 i j a' (by omega) c' d'
    · rw [w1 _ _ (by omega) (by omega)]; exact d1 j a' b'
    · rw [w1 _ _ (by omega) (by omega), z1 u a' b', lf u a' b', if_neg (by omega), cn_first h0 (by omega) n5]
      have : cn a (hh + 1) n u = 0 := rs5_empty (by omega)
      rw [this, tE]
      by_cases e : u = a hh
      · rw [if_pos e.symm, if_pos e]; rfl
      · rw [if_neg (fun q => e q.symm), if_neg e]; rfl
  | succ m ih =>
    intro hh s h0 hm D dp dh lf as av
    obtain ⟨t, s1, ⟨x1, x2, x3, x4⟩, y1, y2, -, y3⟩ := iter_ok (p := p) n5 h0 (show hh < n by omega) dh (by omega) (by omega) (fun u a' b' => by rw [lf u a' b']; have := cn_b a hh n u; omega)
    have av1 := av hh (Int.le_refl hh) (by omega)
    have l1 := cn_ge (r := a) h0 (Int.le_refl hh) (show hh < n by omega) n5
    have up : ∀ (q : Nat) (j : Int), hh ≤ j → j + q < n → a j ≤ a (j + q) := by
      intro q
      induction q with
      | zero => intro j _ _; rw [show j + ((0 : Nat) : Int) = j by omega]; exact Int.le_refl _
      | succ q ih => intro j b1 b2; have := ih j b1 (by omega); have := as (j + q) (by omega) (by omega); rw [show j + ((q + 1 : Nat) : Int) = j + q + 1 by omega]; omega
    have tE : t = a hh := by
      have t1 : t ≤ a hh := by
        by_cases z : t ≤ a hh
        · exact z
        · have := x4 (a hh) (by omega) (by omega)
          simp only at this
          rw [lf (a hh) (by omega) (by omega), if_neg (by omega)] at this
          omega
      have t2 := x3 (by omega)
      simp only at t2
      rw [lf t (by omega) (by omega), if_neg (by omega), Int.add_zero] at t2
      obtain ⟨k, k0, k1, k2, k3⟩ := cn_pos t2
      have := up (k - hh).toNat hh (Int.le_refl hh) (by omega)
      rw [show hh + (((k - hh).toNat : Nat) : Int) = k by omega] at this
      omega
    obtain ⟨z1, -, z2⟩ := y3 (by omega)
    have z2 := z2 (by omega)
    have u1 : ∀ b i : Int, ¬ (b = 137 ∧ i = hh + 1) → fx_up s1 137 (hh + 1) (-1) b i = s1 b i := fun b i q => up_ne (by omega)
    have u2 : fx_up s1 137 (hh + 1) (-1) 137 (hh + 1) = -1 := up_eq rfl rfl
    generalize fx_up s1 137 (hh + 1) (-1) = s2 at u1 u2 z2
    obtain ⟨s', f1, f2, f3, f4⟩ := ih (hh + 1) s2 (by omega) (by omega) (DS_congr (fun b i q1 q2 => by rw [u1 b i (by omega), y1 b i (by omega) q1]) D) (fun j a' b' => by
      rw [u1 _ _ (by omega)]
      by_cases e : j = hh
      · rw [e, y2, tE]
      · rw [y1 _ _ (by omega) (by omega)]; exact dp j a' (by omega)) u2 (fun u a' b' => by
      rw [u1 _ _ (by omega), z1 u a' b', lf u a' b', if_neg (by omega), cn_first h0 (by omega) n5, tE]
      by_cases e : u = a hh
      · rw [if_pos e.symm, if_pos e]; omega
      · rw [if_neg (fun q => e q.symm), if_neg e]; omega) (fun j b1 b2 => as j (by omega) b2) (fun j b1 b2 => av j (by omega) b2)
    refine ⟨s', ?_, f2, f3, f4⟩
    have := (Rch.one z2).trans f1
    rw [show 1 + (m + 1) = m + 1 + 1 by omega] at this
    exact this
/-- back by one -/
theorem dfs_back (n5 : n ≤ 5) {c : Nat} {r : Int → Int} {hh : Int} {s : fx_H} (h0 : 0 ≤ hh) (h1 : hh < n) (D : DS g p n r0 c s) (dp : ∀ j : Int, 0 ≤ j → j ≤ hh → s 137 j = r j) (lf : ∀ u : Int, 0 ≤ u → u ≤ 9 → s 136 u = cn r (hh + 1) n u) (rv : 0 ≤ r hh ∧ r hh ≤ 9) (hm : ∀ k : Int, hh < k → k < n → r k ≤ r hh) :
    ∃ s' : fx_H, Rch (s_X6_findRows_1 FU La_167 126 p n) 1 (hh, s) (hh - 1, s') ∧ DS g p n r0 c s' ∧ (∀ j : Int, 0 ≤ j → j < hh → s' 137 j = r j) ∧ ∀ u : Int, 0 ≤ u → u ≤ 9 → s' 136 u = cn r hh n u := by
  obtain ⟨t, s1, ⟨x1, x2, x3, x4⟩, y1, y2, y3, -⟩ := iter_ok (p := p) n5 h0 h1 (dp hh h0 (Int.le_refl hh)) (by omega) (by omega) (fun u a' b' => by rw [lf u a' b']; have := cn_b r (hh + 1) n u; omega)
  have tE : t = 10 := by
    by_cases z : t ≤ 9
    · exfalso
      have := x3 z
      simp only at this
      rw [lf t (by omega) z, if_neg (by omega), Int.add_zero] at this
      obtain ⟨k, k0, k1, k2, k3⟩ := cn_pos this
      have := hm k (by omega) k2
      omega
    · omega
  obtain ⟨z1, z2⟩ := y3 tE
  refine ⟨s1, Rch.one z2, DS_congr (fun b i q1 q2 => y1 b i (by omega) q1) D, fun j a' b' => by rw [y1 _ _ (by omega) (by omega)]; exact dp j a' (by omega), fun u a' b' => ?_⟩
  rw [z1 u a' b', lf u a' b', cn_first h0 h1 n5]
  by_cases e : u = r hh
  · rw [if_pos e, if_pos e.symm]; omega
  · rw [if_neg e, if_neg (fun q => e q.symm)]; omega
/-- back to the turn -/
theorem dfs_backs (n1 : 1 ≤ n) (n5 : n ≤ 5) {c : Nat} {r : Int → Int} {s : fx_H} (D : DS g p n r0 c s) (dp : ∀ j : Int, 0 ≤ j → j < n → s 137 j = r j) (lf : ∀ u : Int, 0 ≤ u → u ≤ 9 → s 136 u = 0) (rv : ∀ j : Int, 0 ≤ j → j < n → 0 ≤ r j ∧ r j ≤ 9) : ∀ (m : Nat), tn r n + m ≤ n - 1 →
    ∃ s' : fx_H, Rch (s_X6_findRows_1 FU La_167 126 p n) m (n - 1, s) (n - 1 - m, s') ∧ DS g p n r0 c s' ∧ (∀ j : Int, 0 ≤ j → j ≤ n - 1 - m → s' 137 j = r j) ∧ ∀ u : Int, 0 ≤ u → u ≤ 9 → s' 136 u = cn r (n - m) n u := by
  intro m
  induction m with
  | zero =>
    intro _
    refine ⟨s, by rw [show n - 1 - ((0 : Nat) : Int) = n - 1 by omega]; exact Rch.refl _, D, fun j a b => dp j a (by omega), fun u a b => ?_⟩
    rw [lf u a b]
    exact (rs5_empty (by omega)).symm
  | succ m ih =>
    intro hm
    obtain ⟨t1, t2, t3, t4⟩ := tn_ok r n1
    obtain ⟨s1, f1, f2, f3, f4⟩ := ih (by omega)
    obtain ⟨s2, g1, g2, g3, g4⟩ := dfs_back (r := r) (hh := n - 1 - m) n5 (by omega) (by omega) f2 f3 (fun u a b => by rw [f4 u a b]; congr 1; omega) (rv _ (by omega) (by omega)) (fun k a b => tn_mono' r n1 (by omega) (by omega) (by omega))
    refine ⟨s2, ?_, g2, fun j a b => g3 j a (by omega), fun u a b => by rw [g4 u a b]; congr 1; omega⟩
    have := f1.trans g1
    rw [show n - 1 - (m : Int) - 1 = n - 1 - ((m + 1 : Nat) : Int) by omega] at this
    exact this
/-- from a row to the next -/
theorem dfs_next (p0 : 0 ≤ p) (p5 : p < 5) (n1 : 1 ≤ n) (n5 : n ≤ 5) {c : Nat} (hc : c + 1 < 120) {s : fx_H} (D : DS g p n r0 (c + 1) s) (dp : ∀ j : Int, 0 ≤ j → j < n → s 137 j = Rq n r0 c j) (lf : ∀ u : Int, 0 ≤ u → u ≤ 9 → s 136 u = 0) (rv : ∀ j : Int, 0 ≤ j → j < n → 0 ≤ Rq n r0 c j ∧ Rq n r0 c j ≤ 9) (ht : 0 ≤ tn (Rq n r0 c) n) :
    ∃ (k : Nat) (s' : fx_H), k ≤ 10 ∧ Rch (s_X6_findRows_1 FU La_167 126 p n) k (n - 1, s) (n - 1, s') ∧ DS g p n r0 (c + 2) s' ∧ (∀ j : Int, 0 ≤ j → j < n → s' 137 j = Rq n r0 (c + 1) j) ∧ (∀ u : Int, 0 ≤ u → u ≤ 9 → s' 136 u = 0) ∧ ∀ j : Int, 0 ≤ j → j < n → 0 ≤ Rq n r0 (c + 1) j ∧ Rq n r0 (c + 1) j ≤ 9 := by
  generalize hr : Rq n r0 c = r at dp rv ht
  have hnx : Rq n r0 (c + 1) = nx r n := by rw [← hr]; rfl
  obtain ⟨t1, t2, t3, t4⟩ := tn_ok r n1
  obtain ⟨g1, g2, g3, g4⟩ := gt_ok r (t3 ht) t2
  have nv : ∀ j : Int, 0 ≤ j → j < n → 0 ≤ nx r n j ∧ nx r n j ≤ 9 := fun j a b => by
    unfold nx
    by_cases q1 : tn r n < 0 ∨ j < tn r n ∨ n ≤ j
    · rw [if_pos q1]; exact rv j a b
    · rw [if_neg q1]
      by_cases q2 : j = tn r n
      · rw [if_pos q2]; exact rv _ (by omega) (by omega)
      · rw [if_neg q2]
        split
        · exact rv _ (by omega) (by omega)
        · exact rv _ (by omega) (by omega)
  obtain ⟨s1, f1, f2, f3, f4⟩ := dfs_backs n1 n5 D dp lf rv (n - 1 - tn r n).toNat (by omega)
  rw [show n - 1 - (((n - 1 - tn r n).toNat : Nat) : Int) = tn r n by omega] at f1 f3
  rw [show n - (((n - 1 - tn r n).toNat : Nat) : Int) = tn r n + 1 by omega] at f4
  have rx := rv (tn r n) ht (by omega)
  have ry := rv (gt r n (tn r n)) (by omega) (by omega)
  obtain ⟨t, s2, ⟨x1, x2, x3, x4⟩, y1, y2, -, y3⟩ := iter_ok (p := p) n5 ht (show tn r n < n by omega) (f3 _ ht (Int.le_refl _)) (by omega) (by omega) (fun u a' b' => by rw [f4 u a' b']; have := cn_b r (tn r n + 1) n u; omega)
  have lE : ∀ u : Int, s1 136 u + (if u = r (tn r n) then 1 else 0) = s1 136 u + (if r (tn r n) = u then 1 else 0) := fun u => by
    congr 1
    exact ite_iff ⟨fun q => q.symm, fun q => q.symm⟩
  have tE : t = r (gt r n (tn r n)) := by
    have t5 : t ≤ r (gt r n (tn r n)) := by
      by_cases z : t ≤ r (gt r n (tn r n))
      · exact z
      · have := x4 (r (gt r n (tn r n))) g3 (by omega)
        simp only at this
        have l1 := cn_ge (r := r) (lo := tn r n + 1) (n := n) (k := gt r n (tn r n)) (by omega) (by omega) (by omega) n5
        rw [f4 _ (by omega) (by omega), if_neg (by omega)] at this
        omega
    have t6 := x3 (by omega)
    simp only at t6
    rw [f4 t (by omega) (by omega), if_neg (by omega), Int.add_zero] at t6
    obtain ⟨k, k0, k1, k2, k3⟩ := cn_pos t6
    by_cases z : k ≤ gt r n (tn r n)
    · have := tn_mono' r n1 (show tn r n < k by omega) z (by omega)
      omega
    · have := g4 k (by omega) (by omega)
      omega
  obtain ⟨z1, -, z2⟩ := y3 (by omega)
  have z2 := z2 (by omega)
  have u1 : ∀ b i : Int, ¬ (b = 137 ∧ i = tn r n + 1) → fx_up s2 137 (tn r n + 1) (-1) b i = s2 b i := fun b i q => up_ne (by omega)
  have u2 : fx_up s2 137 (tn r n + 1) (-1) 137 (tn r n + 1) = -1 := up_eq rfl rfl
  generalize fx_up s2 137 (tn r n + 1) (-1) = s3 at u1 u2 z2
  obtain ⟨s4, h1, h2, h3, h4⟩ := dfs_down (g := g) (r0 := r0) p0 p5 n1 n5 hc (a := nx r n) (fun j a b => by rw [hnx]) (n - 2 - tn r n).toNat (tn r n + 1) s3 (by omega) (by omega) (DS_congr (fun b i q1 q2 => by rw [u1 b i (by omega), y1 b i (by omega) q1]) f2) (fun j a b => by
    rw [u1 _ _ (by omega)]
    by_cases e : j = tn r n
    · rw [e, y2, tE, nx_at n1 ht]
    · rw [y1 _ _ (by omega) (by omega), f3 j a (by omega), nx_lt (by omega)]) u2 (fun u a b => by
    rw [u1 _ _ (by omega), z1 u a b, f4 u a b, tE]
    have := nx_sum (r := r) (n := n) (fun v => if v = u then 1 else 0) n1 n5 ht
    have e1 : cn (nx r n) (tn r n + 1) n u = cn r (tn r n + 1) n u - (if r (gt r n (tn r n)) = u then 1 else 0) + (if r (tn r n) = u then 1 else 0) := this
    rw [e1]
    have e2 : (if u = r (gt r n (tn r n)) then (1 : Int) else 0) = if r (gt r n (tn r n)) = u then 1 else 0 := ite_iff ⟨fun q => q.symm, fun q => q.symm⟩
    have e3 : (if u = r (tn r n) then (1 : Int) else 0) = if r (tn r n) = u then 1 else 0 := ite_iff ⟨fun q => q.symm, fun q => q.symm⟩
    rw [e2, e3]
    omega) (fun j a b => nx_up n1 ht (by omega) b) (fun j a b => nv j (by omega) b)
  refine ⟨(n - 1 - tn r n).toNat + 1 + ((n - 2 - tn r n).toNat + 1), s4, by omega, (f1.trans (Rch.one z2)).trans h1, h2, fun j a b => by rw [hnx]; exact h3 j a b, h4, fun j a b => by rw [hnx]; exact nv j a b⟩
/-- all rows -/
theorem dfs_rows (p0 : 0 ≤ p) (p5 : p < 5) (n1 : 1 ≤ n) (n5 : n ≤ 5) {s : fx_H} (D : DS g p n r0 0 s) (d0 : s 137 0 = -1) (lf : ∀ u : Int, 0 ≤ u → u ≤ 9 → s 136 u = cn r0 0 n u) (as : ∀ j : Int, 0 ≤ j → j + 1 < n → r0 j ≤ r0 (j + 1)) (rv : ∀ j : Int, 0 ≤ j → j < n → 0 ≤ r0 j ∧ r0 j ≤ 9) : ∀ c : Nat, c < rc n r0 →
    ∃ (k : Nat) (s' : fx_H), k ≤ 10 * (c + 1) ∧ Rch (s_X6_findRows_1 FU La_167 126 p n) k (0, s) (n - 1, s') ∧ DS g p n r0 (c + 1) s' ∧ (∀ j : Int, 0 ≤ j → j < n → s' 137 j = Rq n r0 c j) ∧ (∀ u : Int, 0 ≤ u → u ≤ 9 → s' 136 u = 0) ∧ ∀ j : Int, 0 ≤ j → j < n → 0 ≤ Rq n r0 c j ∧ Rq n r0 c j ≤ 9 := by
  obtain ⟨q1, q2, -, q3, q4⟩ := rc_ok n1 n5 r0
  intro c
  induction c with
  | zero =>
    intro _
    obtain ⟨s', h1, h2, h3, h4⟩ := dfs_down (g := g) (r0 := r0) (c := 0) p0 p5 n1 n5 (by omega) (a := r0) (fun j a b => rfl) (n - 1).toNat 0 s (by omega) (by omega) D (fun j a b => by omega) d0 lf as rv
    exact ⟨_, s', by omega, h1, h2, h3, h4, rv⟩
  | succ c ih =>
    intro hc
    obtain ⟨k, s1, f1, f2, f3, f4, f5, f6⟩ := ih (by omega)
    obtain ⟨k2, s2, g1, g2, g3, g4, g5, g6⟩ := dfs_next p0 p5 n1 n5 (by omega) f3 f4 f5 f6 (q4 c hc)
    exact ⟨k + k2, s2, by omega, f2.trans g2, g3, g4, g5, g6⟩
theorem findRows_ok {g : fx_H} {nd : Int → Int} (p0 : 0 ≤ p) (p5 : p < 5) (n1 : 1 ≤ n) (n5 : n ≤ 5) (hd : ∀ t : Int, 0 ≤ t → t < 9 → g 127 (44 + 9 * p + t) = nd t ∧ 0 ≤ nd t) (hb : sumI 9 nd ≤ 1000) : Ret (f_X6_findRows FU La_167 126 p n g) (fun g' => (∀ a i : Int, a ≠ 136 → a ≠ 137 → ¬ (a = 135 ∧ i = p) → ¬ (a = 134 ∧ 600 * p ≤ i ∧ i < 600 * p + 600) → g' a i = g a i) ∧ g' 135 p = cnF nd n ∧ ∀ i j : Int, 0 ≤ i → i < cnF nd n → 0 ≤ j → j < n → g' 134 (600 * p + 5 * i + j) = de (rwF nd n i j)) := by
  unfold f_X6_findRows
  obtain ⟨g1, e1, f1, f2, f3⟩ := takeNeeds_ok p0 p5 (show 0 ≤ n by omega) n5 hd hb
  have d0 : ∀ t : Int, 0 ≤ t → t < 9 → 0 ≤ nd t := fun t a b => (hd t a b).2
  rw [e1, Option.bind_some, lb_tg_126_10, wrl lb_ln_135 p0 p5, Option.bind_some, lb_tg_126_11, rdl lb_ln_136 (by omega) (by omega), Option.bind_some, up_ne (by omega), f3]
  by_cases c : n - sumI 9 nd < 0
  · rw [if_pos c]
    have c0 : cnF nd n = 0 := by unfold cnF; rw [if_neg (by omega)]
    exact Ret.ok ⟨fun a i x y z w => by rw [up_ne (by omega)]; exact f1 a i x, by rw [up_eq rfl rfl, c0], fun i j a b => by omega⟩
  · rw [if_neg c, lb_tg_126_12, wrl lb_ln_137 (by omega) (by omega), Option.bind_some]
    have u1 : ∀ a i : Int, ¬ (a = 135 ∧ i = p) → ¬ (a = 137 ∧ i = 0) → fx_up (fx_up g1 135 p 0) 137 0 (-1) a i = g1 a i := fun a i x y => by rw [up_ne (by omega), up_ne (by omega)]
    have u2 : fx_up (fx_up g1 135 p 0) 137 0 (-1) 135 p = 0 := by rw [up_ne (by omega), up_eq rfl rfl]
    have u3 : fx_up (fx_up g1 135 p 0) 137 0 (-1) 137 0 = -1 := up_eq rfl rfl
    generalize fx_up (fx_up g1 135 p 0) 137 0 (-1) = s at u1 u2 u3
    obtain ⟨q1, q2, -, q3, q4⟩ := rc_ok n1 n5 (fr0 nd)
    obtain ⟨k, s1, h1, h2, h3, h4, h5, h6⟩ := dfs_rows (g := g) (r0 := fr0 nd) p0 p5 n1 n5 (s := s) ⟨fun a i x y z w => by rw [u1 a i z (by omega)]; exact f1 a i x, u2, fun i j a b => by have : i < ((0 : Nat) : Int) := b; omega⟩ u3 (fun u a b => by
      have e := fr0_cnt (nd := nd) (n := n) d0 n5 (by omega) a b
      have e : cn (fr0 nd) 0 n u = _ := e
      rw [e, u1 _ _ (by omega) (by omega)]
      by_cases z : u = 9
      · rw [if_pos z, z, f3]
      · rw [if_neg z, f2 u a (by omega)]) (fun j _ _ => fr0_mono nd (by omega)) (fun j _ _ => fr0_b nd j) (rc n (fr0 nd) - 1) (by omega)
    obtain ⟨s2, k1, k2, k3, k4⟩ := dfs_backs n1 n5 h3 h4 h5 h6 n.toNat (by omega)
    rw [show n - 1 - ((n.toNat : Nat) : Int) = -1 by omega] at k1
    have fin := (h2.trans k1).fin (e := (-1, s2)) (Fu := FU) (by
      unfold s_X6_findRows_1
      simp only
      rw [if_neg (by decide)]) (FU_gt (by omega))
    rw [fin, Option.bind_some]
    have cE : cnF nd n = ((rc n (fr0 nd) - 1 + 1 : Nat) : Int) := by unfold cnF; rw [if_pos (by omega)]; omega
    rw [cE]
    exact Ret.ok k2
end DFS
