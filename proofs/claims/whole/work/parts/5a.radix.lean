-- needs: 4m
/-! ===== codes of ways: mixed bases ===== -/
def Mq (c : Int → Int) (P : Int) : Nat → Int
  | 0 => 1
  | m + 1 => Mq c P m * c (P - 1 - m)
def rq (c : Int → Int) (P code : Int) : Nat → Int
  | 0 => code
  | m + 1 => rq c P code m / c (P - 1 - m)
def dq (c : Int → Int) (P code p : Int) : Int := rq c P code (P - 1 - p).toNat % c p
def Kq (c pk : Int → Int) : Nat → Int
  | 0 => 0
  | j + 1 => Kq c pk j * c j + pk j
theorem Mq_pos {c : Int → Int} {P : Int} : ∀ m : Nat, (m : Int) ≤ P → (∀ p : Int, 0 ≤ p → p < P → 0 < c p) → 0 < Mq c P m
  | 0, _, _ => (by decide : (0 : Int) < 1)
  | m + 1, h, hc => Int.mul_pos (Mq_pos m (by omega) hc) (hc _ (by omega) (by omega))
theorem Mq_nn {c : Int → Int} {P : Int} : ∀ m : Nat, (m : Int) ≤ P → (∀ p : Int, 0 ≤ p → p < P → 0 ≤ c p) → 0 ≤ Mq c P m
  | 0, _, _ => (by decide : (0 : Int) ≤ 1)
  | m + 1, h, hc => Int.mul_nonneg (Mq_nn m (by omega) hc) (hc _ (by omega) (by omega))
theorem rq_spec {c : Int → Int} {P code : Int} : ∀ m : Nat, (m : Int) ≤ P → (∀ p : Int, 0 ≤ p → p < P → 0 < c p) → rq c P code m * Mq c P m ≤ code ∧ code < (rq c P code m + 1) * Mq c P m
  | 0, _, _ => by show code * 1 ≤ code ∧ code < (code + 1) * 1; omega
  | m + 1, h, hc => by
    obtain ⟨a, b⟩ := rq_spec (code := code) m (by omega) hc
    have hm := Mq_pos m (by omega) hc
    have hcp := hc (P - 1 - m) (by omega) (by omega)
    show rq c P code m / c (P - 1 - m) * (Mq c P m * c (P - 1 - m)) ≤ code ∧ code < (rq c P code m / c (P - 1 - m) + 1) * (Mq c P m * c (P - 1 - m))
    generalize rq c P code m = q at a b
    generalize Mq c P m = M at *
    generalize c (P - 1 - m) = d at *
    have e1 : q / d * d ≤ q := Int.ediv_mul_le q (by omega)
    have e2 : q < (q / d + 1) * d := Int.lt_ediv_add_one_mul_self q hcp
    generalize q / d = x at *
    constructor
    · have := Int.mul_le_mul_of_nonneg_right e1 (show 0 ≤ M by omega)
      rw [show x * (M * d) = x * d * M by rw [Int.mul_comm M d, Int.mul_assoc]]
      omega
    · have h1 : q + 1 ≤ (x + 1) * d := e2
      have := Int.mul_le_mul_of_nonneg_right h1 (show 0 ≤ M by omega)
      rw [show (x + 1) * (M * d) = (x + 1) * d * M by rw [Int.mul_comm M d, Int.mul_assoc]]
      omega
theorem rq_in {c : Int → Int} {P code X : Int} {m : Nat} (h : (m : Int) ≤ P) (hc : ∀ p : Int, 0 ≤ p → p < P → 0 < c p) (a : X * Mq c P m ≤ code) (b : code < (X + 1) * Mq c P m) : rq c P code m = X := by
  obtain ⟨a', b'⟩ := rq_spec (code := code) m h hc
  have hm := Mq_pos m h hc
  have h1 : X < rq c P code m + 1 := Int.lt_of_mul_lt_mul_right (Int.lt_of_le_of_lt a b') (by omega)
  have h2 : rq c P code m < X + 1 := Int.lt_of_mul_lt_mul_right (Int.lt_of_le_of_lt a' b) (by omega)
  omega
/-- a code whose beginning is known: its digits there -/
theorem dq_of {c pk : Int → Int} {P code : Int} : ∀ j : Nat, (j : Int) ≤ P → rq c P code (P - j).toNat = Kq c pk j → (∀ i : Int, 0 ≤ i → i < j → 0 ≤ pk i ∧ pk i < c i) → ∀ i : Int, 0 ≤ i → i < j → dq c P code i = pk i
  | 0, _, _, _, i, a, b => by omega
  | j + 1, h, e, hp, i, a, b => by
    obtain ⟨p0, p1⟩ := hp j (by omega) (by omega)
    have hK : Kq c pk (j + 1) = Kq c pk j * c j + pk j := rfl
    have hc : 0 < c j := by omega
    by_cases z : i = j
    · rw [z]
      unfold dq
      rw [show (P - 1 - (j : Int)).toNat = (P - ((j + 1 : Nat) : Int)).toNat by omega, e, hK, Int.add_comm, Int.add_mul_emod_self_right, Int.emod_eq_of_lt p0 p1]
    · refine dq_of j (by omega) ?_ (fun i a b => hp i a (by omega)) i a (by omega)
      rw [show (P - (j : Int)).toNat = (P - ((j + 1 : Nat) : Int)).toNat + 1 by omega]
      show rq c P code (P - ((j + 1 : Nat) : Int)).toNat / c (P - 1 - (((P - ((j + 1 : Nat) : Int)).toNat : Nat) : Int)) = _
      rw [show P - 1 - (((P - ((j + 1 : Nat) : Int)).toNat : Nat) : Int) = (j : Int) by omega, e, hK, Int.add_comm, Int.add_mul_ediv_right _ _ (by omega), Int.ediv_eq_zero_of_lt p0 p1, Int.zero_add]
theorem Kq_congr {c pk pk' : Int → Int} : ∀ j : Nat, (∀ i : Int, 0 ≤ i → i < j → pk i = pk' i) → Kq c pk j = Kq c pk' j
  | 0, _ => rfl
  | j + 1, h => by
    show Kq c pk j * c j + pk j = Kq c pk' j * c j + pk' j
    rw [Kq_congr j (fun i a b => h i a (by omega)), h j (by omega) (by omega)]
/-- where a search stands: all codes below are through -/
def cur (c pk : Int → Int) (P p : Int) : Int := (Kq c pk p.toNat * c p + pk p + 1) * Mq c P (P - 1 - p).toNat
theorem cur_pop {c pk : Int → Int} {P p : Int} (p1 : 1 ≤ p) (hp : p < P) (e : pk p + 1 = c p) : cur c pk P p = cur c pk P (p - 1) := by
  unfold cur
  have hK : Kq c pk p.toNat = Kq c pk (p - 1).toNat * c (p - 1) + pk (p - 1) := by
    rw [show p.toNat = (p - 1).toNat + 1 by omega]
    show Kq c pk (p - 1).toNat * c (((p - 1).toNat : Nat) : Int) + pk (((p - 1).toNat : Nat) : Int) = _
    rw [show (((p - 1).toNat : Nat) : Int) = p - 1 by omega]
  have hM : Mq c P (P - 1 - (p - 1)).toNat = Mq c P (P - 1 - p).toNat * c p := by
    rw [show (P - 1 - (p - 1)).toNat = (P - 1 - p).toNat + 1 by omega]
    show Mq c P (P - 1 - p).toNat * c (P - 1 - (((P - 1 - p).toNat : Nat) : Int)) = _
    rw [show P - 1 - (((P - 1 - p).toNat : Nat) : Int) = p by omega]
  rw [hM, ← hK, show Kq c pk p.toNat * c p + pk p + 1 = (Kq c pk p.toNat + 1) * c p by rw [Int.add_mul]; omega, Int.mul_assoc, Int.mul_comm (c p)]
theorem cur_end {c pk : Int → Int} {P : Int} (P1 : 1 ≤ P) (e : pk 0 + 1 = c 0) : cur c pk P 0 = Mq c P P.toNat := by
  unfold cur
  rw [show P.toNat = (P - 1 - 0).toNat + 1 by omega]
  show (0 * c 0 + pk 0 + 1) * Mq c P (P - 1 - 0).toNat = Mq c P (P - 1 - 0).toNat * c (P - 1 - (((P - 1 - 0).toNat : Nat) : Int))
  rw [show P - 1 - (((P - 1 - 0).toNat : Nat) : Int) = 0 by omega, ← e, Int.mul_comm]
  congr 1
  omega
/-- one deeper -/
theorem cur_push {c pk : Int → Int} {P p : Int} (p0 : 0 ≤ p) (hp : p + 1 < P) (e : pk (p + 1) = -1) : cur c pk P (p + 1) = (Kq c pk p.toNat * c p + pk p) * Mq c P (P - 1 - p).toNat := by
  unfold cur
  have hK : Kq c pk (p + 1).toNat = Kq c pk p.toNat * c p + pk p := by
    rw [show (p + 1).toNat = p.toNat + 1 by omega]
    show Kq c pk p.toNat * c ((p.toNat : Nat) : Int) + pk ((p.toNat : Nat) : Int) = _
    rw [show ((p.toNat : Nat) : Int) = p by omega]
  have hM : Mq c P (P - 1 - p).toNat = Mq c P (P - 1 - (p + 1)).toNat * c (p + 1) := by
    rw [show (P - 1 - p).toNat = (P - 1 - (p + 1)).toNat + 1 by omega]
    show Mq c P (P - 1 - (p + 1)).toNat * c (P - 1 - (((P - 1 - (p + 1)).toNat : Nat) : Int)) = _
    rw [show P - 1 - (((P - 1 - (p + 1)).toNat : Nat) : Int) = p + 1 by omega]
  rw [hK, e, hM, Int.mul_comm (Mq c P (P - 1 - (p + 1)).toNat) (c (p + 1)), ← Int.mul_assoc]
  congr 1
  omega
/-- what a pick costs at most, m levels being below it -/
def Cst (c : Int → Int) (P : Int) : Nat → Int
  | 0 => 1
  | m + 1 => 2 + c (P - 1 - m) * Cst c P m
theorem Cst_pos {c : Int → Int} {P : Int} : ∀ m : Nat, (m : Int) < P → (∀ p : Int, 0 ≤ p → p < P → 0 ≤ c p) → 1 ≤ Cst c P m
  | 0, _, _ => Int.le_refl 1
  | m + 1, h, hc => by
    have a := Cst_pos m (by omega) hc
    have := Int.mul_nonneg (hc (P - 1 - m) (by omega) (by omega)) (show 0 ≤ Cst c P m by omega)
    show 1 ≤ 2 + c (P - 1 - m) * Cst c P m
    omega
/-- what is still to do -/
def Rm (c pk : Int → Int) (P : Int) : Nat → Int
  | 0 => 0
  | j + 1 => Rm c pk P j + (c j - 1 - pk j) * Cst c P (P - 1 - j).toNat + 1
theorem Rm_congr {c pk pk' : Int → Int} {P : Int} : ∀ j : Nat, (∀ i : Int, 0 ≤ i → i < j → pk i = pk' i) → Rm c pk P j = Rm c pk' P j
  | 0, _ => rfl
  | j + 1, h => by
    show Rm c pk P j + (c j - 1 - pk j) * Cst c P (P - 1 - j).toNat + 1 = Rm c pk' P j + (c j - 1 - pk' j) * Cst c P (P - 1 - j).toNat + 1
    rw [Rm_congr j (fun i a b => h i a (by omega)), h j (by omega) (by omega)]
theorem Rm_nn {c pk : Int → Int} {P : Int} : ∀ j : Nat, (j : Int) ≤ P → (∀ p : Int, 0 ≤ p → p < P → 0 ≤ c p) → (∀ i : Int, 0 ≤ i → i < j → pk i ≤ c i - 1) → (j : Int) ≤ Rm c pk P j
  | 0, _, _, _ => Int.le_refl 0
  | j + 1, h, hc, hp => by
    have a := Rm_nn j (by omega) hc (fun i a b => hp i a (by omega))
    have b := Cst_pos (c := c) (P := P) (P - 1 - j).toNat (by omega) hc
    have d := hp j (by omega) (by omega)
    have := Int.mul_nonneg (show 0 ≤ c j - 1 - pk j by omega) (show 0 ≤ Cst c P (P - 1 - j).toNat by omega)
    show ((j + 1 : Nat) : Int) ≤ Rm c pk P j + (c j - 1 - pk j) * Cst c P (P - 1 - j).toNat + 1
    omega
theorem Rm_s {c pk : Int → Int} {P p : Int} (p0 : 0 ≤ p) : Rm c pk P (p + 1).toNat = Rm c pk P p.toNat + (c p - 1 - pk p) * Cst c P (P - 1 - p).toNat + 1 := by
  rw [show (p + 1).toNat = p.toNat + 1 by omega]
  show Rm c pk P p.toNat + (c ((p.toNat : Nat) : Int) - 1 - pk ((p.toNat : Nat) : Int)) * Cst c P (P - 1 - ((p.toNat : Nat) : Int)).toNat + 1 = _
  rw [show ((p.toNat : Nat) : Int) = p by omega]
/-- the next pick costs its price -/
theorem Rm_pick {c pk pk' : Int → Int} {P p : Int} (p0 : 0 ≤ p) (e : ∀ i : Int, 0 ≤ i → i < p → pk' i = pk i) (ep : pk' p = pk p + 1) : Rm c pk' P (p + 1).toNat = Rm c pk P (p + 1).toNat - Cst c P (P - 1 - p).toNat := by
  rw [Rm_s p0, Rm_s p0, Rm_congr p.toNat (fun i a b => e i a (by omega)), ep, show c p - 1 - pk p = c p - 1 - (pk p + 1) + 1 by omega, Int.add_mul (c p - 1 - (pk p + 1)) 1]
  omega
theorem Rm_push {c pk : Int → Int} {P p : Int} (p0 : 0 ≤ p) (hp : p + 1 < P) (e : pk (p + 1) = -1) : Rm c pk P (p + 1 + 1).toNat = Rm c pk P (p + 1).toNat + Cst c P (P - 1 - p).toNat - 1 := by
  rw [Rm_s (show 0 ≤ p + 1 by omega), e]
  have hC : Cst c P (P - 1 - p).toNat = 2 + c (p + 1) * Cst c P (P - 1 - (p + 1)).toNat := by
    rw [show (P - 1 - p).toNat = (P - 1 - (p + 1)).toNat + 1 by omega]
    show 2 + c (P - 1 - (((P - 1 - (p + 1)).toNat : Nat) : Int)) * Cst c P (P - 1 - (p + 1)).toNat = _
    rw [show P - 1 - (((P - 1 - (p + 1)).toNat : Nat) : Int) = p + 1 by omega]
  rw [hC, show c (p + 1) - 1 - -1 = c (p + 1) by omega]
  omega
