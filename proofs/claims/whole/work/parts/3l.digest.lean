-- needs: 3a 3b 3c 3d 3e 3f 3j
/-- a loop whose states are told in advance -/
theorem loop_seq {S E : Type} {step : S → Option (S ⊕ E)} (St : Nat → S) (N : Nat) {e : E} (hb : ∀ j, j < N → step (St j) = some (.inl (St (j + 1)))) (he : step (St N) = some (.inr e)) {Fu : Nat} (hF : N < Fu) : fx_loop step Fu (St 0) = some e := by
  have key : ∀ (n j : Nat), j ≤ N → N - j < n → fx_loop step n (St j) = some e := by
    intro n
    induction n with
    | zero => intro j _ h; omega
    | succ n ih =>
      intro j hj hn
      by_cases c : j < N
      · simp only [fx_loop, hb j c]
        exact ih (j + 1) (by omega) (by omega)
      · have : j = N := by omega
        subst this
        simp only [fx_loop, he]
  exact key Fu 0 (by omega) (by omega)
def gf (z : Int) (n : Nat) (F : Int → Int → Int) : Int := match n with
  | 0 => z
  | k + 1 => F (gf z k F) k
theorem gf_congr {z : Int} {F G : Int → Int → Int} : ∀ {n : Nat}, (∀ (w : Int) (i : Int), 0 ≤ i → i < n → F w i = G w i) → gf z n F = gf z n G
  | 0, _ => rfl
  | n + 1, h => by
    show F (gf z n F) n = G (gf z n G) n
    rw [gf_congr (n := n) (fun w i h0 h1 => h w i h0 (by omega)), h _ n (by omega) (by omega)]
def hx31 (f : Int → Int) (z i : Int) : Int := fx_wl (fx_wl (31 * z) + f i)
theorem gloop {step : Int × Int → Option ((Int × Int) ⊕ (Int × Int))} {F : Int → Int → Int} {n z0 : Int} (hn : 0 ≤ n) (h9 : n ≤ 1000) (hs : ∀ z i : Int, 0 ≤ i → i < n → step (z, i) = some (.inl (F z i, i + 1))) (he : ∀ z : Int, step (z, n) = some (.inr (z, n))) : fx_loop step FU (z0, 0) = some (gf z0 n.toNat F, n) := by
  have e : ((n.toNat : Nat) : Int) = n := by omega
  refine loop_seq (fun j => (gf z0 j F, (j : Int))) n.toNat (fun j hj => ?_) ?_ (FU_gt (by omega))
  · exact hs _ j (by omega) (by omega)
  · simp only [e]; exact he _
section SIM
variable {CL CP : fx_H → Prop} {k : Int} {h : fx_H}
theorem sums_ok {g : fx_H} {z first n : Int} (h0 : 0 ≤ first) (h1 : 0 ≤ n) (h2 : first + n ≤ 125) : f_X6_sums FU La_167 126 z first n g = some (gf z n.toNat (hx31 (fun i => g 127 (first + i)))) := by
  unfold f_X6_sums
  rw [gloop (F := hx31 (fun i => g 127 (first + i))) h1 (by omega) (fun w i a b => by
    unfold s_X6_sums_1
    simp only [lb_tg_126_0]
    rw [if_pos b, wid (z := first + i) (by omega) (by omega), rd127 (by omega) (by omega), Option.bind_some, wid (z := i + 1) (by omega) (by omega)]
    rfl) (fun w => by
    unfold s_X6_sums_1
    simp only
    rw [if_neg (by omega)])]
  rfl
theorem shown_ok (v : Int) (g : fx_H) : f_X5_shown FU La_167 v g = some (de v) := by
  unfold f_X5_shown de
  split <;> rfl
theorem sim_digest (R : Rel CL CP k h) : ∃ v : Int, f_X5_digest FU La_167 0 h = some v ∧ f_X6_digest FU La_167 126 h = some v := by
  obtain ⟨RV, RR, R3, R4, R5, R6, R7⟩ := id R
  have RV' := RV
  have RR' := RR
  unfold TV at RV'
  unfold TR at RR'
  obtain ⟨⟨v1, v1'⟩, ⟨v2, v2'⟩, ⟨v3, v3'⟩, ⟨v4, v4'⟩, ⟨v5, v5'⟩, ⟨v6, v6'⟩, v7, v8, v9, v10, v11, v12, v13⟩ := RV'
  obtain ⟨r1, r2, r3, r4, r5, r6, r7, r8, r9, r10, r11, r12⟩ := RR'
  simp only [Int.zero_add] at r1 r2 r3 r4 r5 r6 r7 r8 r9 r10 r11 r12
  obtain ⟨⟨k1, k2⟩, -⟩ := id R7
  obtain ⟨A, hA1, hA2⟩ : ∃ A : Int → Int, (∀ w : Int, 0 ≤ w → w < 5 → f_X5_amount FU La_167 0 w h = some (A w)) ∧ (∀ w : Int, 0 ≤ w → w < 5 → f_X6_counted FU La_167 126 w h = some (A w)) := by
    refine ⟨fun w => (f_X5_amount FU La_167 0 w h).getD 0, fun w w0 w5 => ?_, fun w w0 w5 => ?_⟩
    · obtain ⟨v, e1, e2, -⟩ := amount_ok R w0 (by omega)
      simp only [e1, Option.getD_some]
    · obtain ⟨v, e1, e2, -⟩ := amount_ok R w0 (by omega)
      simp only [e1, e2 h (fun _ => rfl) rfl, Option.getD_some]
  obtain ⟨⟨-, -, -⟩, a4, a5⟩ := R4
  have hd : ∀ z p : Int, 0 ≤ p → p < 5 → f_X5_digestWith FU La_167 0 z p h = some (hx31 (fun p => h 16 p) (gf (gf z (h 1 3).toNat (hx31 (fun q => de (h (5 + q) p)))) (h 1 0).toNat (hx31 (fun t => h (11 + p) t))) p) := fun z p p0 p5 => by
    unfold f_X5_digestWith
    rw [gloop (F := hx31 (fun q => de (h (5 + q) p))) (n := h 1 3) (by omega) (by omega) (fun w i a b => by
      unfold s_X5_digestWith_1
      simp only [lb_tg_0_0, tc_tg_8 TC_1]
      rw [if_pos b, rr_ok a (by rw [show (1 : Int) + 3 = 4 from rfl, lb_ln_4]; omega), Option.bind_some, tc_doing TC_1 a (by omega), rd_ok p0 (by rw [tc_lnD TC_1 a (by omega)]; exact p5), Option.bind_some, shown_ok, Option.bind_some, wid (z := i + 1) (by omega) (by omega), show (1 : Int) + 4 + i = 5 + i by omega]
      rfl) (fun w => by
      unfold s_X5_digestWith_1
      simp only [lb_tg_0_0]
      rw [if_neg (by omega)]), Option.bind_some]
    simp only
    rw [gloop (F := hx31 (fun t => h (11 + p) t)) (n := h 1 0) (by omega) (by omega) (fun w i a b => by
      unfold s_X5_digestWith_2
      simp only [lb_tg_0_0, tc_tg_9 TC_1]
      rw [if_pos b, rr_ok p0 (by rw [show (1 : Int) + 9 = 10 from rfl, lb_ln_10]; omega), Option.bind_some, tc_needs TC_1 p0 p5, rd_ok a (by rw [tc_lnN TC_1 p0 p5]; omega), Option.bind_some, wid (z := i + 1) (by omega) (by omega), show (1 : Int) + 10 + p = 11 + p by omega]
      rfl) (fun w => by
      unfold s_X5_digestWith_2
      simp only [lb_tg_0_0]
      rw [if_neg (by omega)]), Option.bind_some]
    simp only [lb_tg_0_0, tc_tg_10 TC_1]
    rw [rd_ok p0 (by rw [tc_ln_15 TC_1]; exact p5), Option.bind_some]
    rfl
  refine ⟨fx_wl (fx_wl (31 * fx_wl (fx_wl (31 * gf (gf (fx_wl (fx_wl (31 * fx_wl (fx_wl (31 * gf (gf 751 5 (hx31 A)) (h 1 0).toNat (hx31 (fun t => h 2 t))) + h 1 1)) + h 1 4)) (h 1 3).toNat (hx31 (fun q => h 3 q))) (h 1 2).toNat (fun z p => hx31 (fun p => h 16 p) (gf (gf z (h 1 3).toNat (hx31 (fun q => de (h (5 + q) p)))) (h 1 0).toNat (hx31 (fun t => h (11 + p) t))) p)) + h 0 1000008)) + h 0 1000009), ?_, ?_⟩
  · unfold f_X5_digest
    rw [gloop (F := hx31 A) (n := 5) (by omega) (by omega) (fun w i a b => by
      unfold s_X5_digest_1
      simp only
      rw [if_pos (by omega), hA1 i a b, Option.bind_some, wid (z := i + 1) (by omega) (by omega)]
      rfl) (fun w => by
      unfold s_X5_digest_1
      simp only
      rw [if_neg (by omega)]), Option.bind_some]
    simp only
    rw [gloop (F := hx31 (fun t => h 2 t)) (n := h 1 0) (by omega) (by omega) (fun w i a b => by
      unfold s_X5_digest_2
      simp only [lb_tg_0_0, tc_tg_6 TC_1]
      rw [if_pos b, rd_ok a (by rw [tc_ln_1 TC_1]; omega), Option.bind_some, wid (z := i + 1) (by omega) (by omega)]
      rfl) (fun w => by
      unfold s_X5_digest_2
      simp only [lb_tg_0_0]
      rw [if_neg (by omega)]), Option.bind_some]
    simp only [lb_tg_0_0]
    rw [gloop (F := hx31 (fun q => h 3 q)) (n := h 1 3) (by omega) (by omega) (fun w i a b => by
      unfold s_X5_digest_3
      simp only [lb_tg_0_0, tc_tg_7 TC_1]
      rw [if_pos b, rd_ok a (by rw [tc_ln_2 TC_1]; omega), Option.bind_some, wid (z := i + 1) (by omega) (by omega)]
      rfl) (fun w => by
      unfold s_X5_digest_3
      simp only [lb_tg_0_0]
      rw [if_neg (by omega)]), Option.bind_some]
    simp only
    rw [gloop (F := fun z p => hx31 (fun p => h 16 p) (gf (gf z (h 1 3).toNat (hx31 (fun q => de (h (5 + q) p)))) (h 1 0).toNat (hx31 (fun t => h (11 + p) t))) p) (n := h 1 2) (by omega) (by omega) (fun w i a b => by
      unfold s_X5_digest_4
      simp only [lb_tg_0_0]
      rw [if_pos b, hd w i a (by omega), Option.bind_some, wid (z := i + 1) (by omega) (by omega)]) (fun w => by
      unfold s_X5_digest_4
      simp only [lb_tg_0_0]
      rw [if_neg (by omega)]), Option.bind_some]
    rfl
  · unfold f_X6_digest
    rw [gloop (F := hx31 A) (n := 5) (by omega) (by omega) (fun w i a b => by
      unfold s_X6_digest_1
      simp only
      rw [if_pos (by omega), hA2 i a b, Option.bind_some, wid (z := i + 1) (by omega) (by omega)]
      rfl) (fun w => by
      unfold s_X6_digest_1
      simp only
      rw [if_neg (by omega)]), Option.bind_some]
    simp only
    rw [ev_things, Option.bind_some, sums_ok (by omega) (by omega) (by omega), Option.bind_some, sums_ok (by omega) (by omega) (by omega), Option.bind_some, ev_hours, Option.bind_some, sums_ok (by omega) (by omega) (by omega), Option.bind_some]
    rw [gloop (F := fun z p => hx31 (fun p => h 127 (89 + p)) (gf (gf z (h 127 11).toNat (hx31 (fun q => h 127 (19 + 5 * p + q)))) (h 127 0).toNat (hx31 (fun t => h 127 (44 + 9 * p + t)))) p) (n := h 1 2) (by omega) (by omega) (fun w i a b => by
      unfold s_X6_digest_2
      simp only [lb_tg_126_0]
      simp (disch := omega) only [wid]
      rw [ev_people, Option.bind_some, if_pos (by omega), ev_hours, Option.bind_some, sums_ok (by omega) (by omega) (by omega), Option.bind_some, ev_things, Option.bind_some, sums_ok (by omega) (by omega) (by omega), Option.bind_some, rd127 (by omega) (by omega), Option.bind_some]
      rfl) (fun w => by
      unfold s_X6_digest_2
      simp only
      rw [ev_people, Option.bind_some, if_neg (by omega)]), Option.bind_some]
    simp only
    refine congrArg some ?_
    rw [← a4, ← a5, r1, r4]
    rw [gf_congr (F := hx31 (fun i => h 127 (1 + i))) (G := hx31 (fun t => h 2 t)) (fun w i a b => by unfold hx31; simp only; rw [r7 i a (by omega)]; rfl)]
    rw [gf_congr (F := hx31 (fun i => h 127 (14 + i))) (G := hx31 (fun q => h 3 q)) (fun w i a b => by unfold hx31; simp only; rw [r8 i a (by omega)]; rfl)]
    rw [gf_congr (n := (h 1 2).toNat) (G := fun z p => hx31 (fun p => h 16 p) (gf (gf z (h 1 3).toNat (hx31 (fun q => de (h (5 + q) p)))) (h 1 0).toNat (hx31 (fun t => h (11 + p) t))) p) (fun w p a b => by
      rw [gf_congr (F := hx31 (fun q => h 127 (19 + 5 * p + q))) (G := hx31 (fun q => de (h (5 + q) p))) (fun w q a' b' => by unfold hx31; simp only; rw [r9 q p a' (by omega) a (by omega), show (1 : Int) + 4 + q = 5 + q by omega])]
      rw [gf_congr (F := hx31 (fun t => h 127 (44 + 9 * p + t))) (G := hx31 (fun t => h (11 + p) t)) (fun w t a' b' => by unfold hx31; simp only; rw [r10 p t a (by omega) a' (by omega), show (1 : Int) + 10 + p = 11 + p by omega])]
      unfold hx31
      simp only
      rw [r11 p a (by omega)]; rfl)]
    have e2 : ∀ (z : Int) (F : Int → Int → Int), gf z (Int.toNat 2) F = F (F z 0) 1 := fun _ _ => rfl
    have e3 : ∀ z : Int, hx31 (fun i => h 127 (12 + i)) (hx31 (fun i => h 127 (12 + i)) z 0) 1 = fx_wl (fx_wl (31 * fx_wl (fx_wl (31 * z) + h 1 1)) + h 1 4) := fun z => by
      unfold hx31
      simp only
      rw [show h 127 (12 + 0) = h 1 1 from r2, show h 127 (12 + 1) = h 1 4 from r5]
    rw [e2, e3]
    rfl
end SIM
