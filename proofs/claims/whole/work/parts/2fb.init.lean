def La_20 : fx_L := (20, fx_kd La_19, fx_ln La_19, (fun a' i' => if a' = 0 ∧ i' = 0 then 1 else fx_tg La_19 a' i'))
def La_21 : fx_L := (21, (fun a => if a = 20 then 16 else fx_kd La_20 a), (fun a => if a = 20 then 0 else fx_ln La_20 a), (fun a i => if a = 20 then -1 else fx_tg La_20 a i))
def La_22 : fx_L := (22, (fun a => if a = 21 then 8 else fx_kd La_21 a), (fun a => if a = 21 then 9 else fx_ln La_21 a), (fun a i => if a = 21 then -1 else fx_tg La_21 a i))
def La_23 : fx_L := (22, fx_kd La_22, fx_ln La_22, (fun a' i' => if a' = 20 ∧ i' = 6 then 21 else fx_tg La_22 a' i'))
def La_24 : fx_L := (23, (fun a => if a = 22 then 8 else fx_kd La_23 a), (fun a => if a = 22 then 5 else fx_ln La_23 a), (fun a i => if a = 22 then -1 else fx_tg La_23 a i))
def La_25 : fx_L := (23, fx_kd La_24, fx_ln La_24, (fun a' i' => if a' = 20 ∧ i' = 7 then 22 else fx_tg La_24 a' i'))
def La_26 : fx_L := (29, (fun a => if a = 23 then 11 else if 23 < a then 8 else fx_kd La_25 a), (fun a => if a = 23 then 5 else if 23 < a then 5 else fx_ln La_25 a), (fun a i => if a = 23 then (if 0 ≤ i ∧ i < 5 then 23 + 1 + i else -1) else if 23 < a then -1 else fx_tg La_25 a i))
def La_27 : fx_L := (29, fx_kd La_26, fx_ln La_26, (fun a' i' => if a' = 20 ∧ i' = 8 then 23 else fx_tg La_26 a' i'))
def La_28 : fx_L := (35, (fun a => if a = 29 then 11 else if 29 < a then 8 else fx_kd La_27 a), (fun a => if a = 29 then 5 else if 29 < a then 9 else fx_ln La_27 a), (fun a i => if a = 29 then (if 0 ≤ i ∧ i < 5 then 29 + 1 + i else -1) else if 29 < a then -1 else fx_tg La_27 a i))
def La_29 : fx_L := (35, fx_kd La_28, fx_ln La_28, (fun a' i' => if a' = 20 ∧ i' = 9 then 29 else fx_tg La_28 a' i'))
def La_30 : fx_L := (36, (fun a => if a = 35 then 8 else fx_kd La_29 a), (fun a => if a = 35 then 5 else fx_ln La_29 a), (fun a i => if a = 35 then -1 else fx_tg La_29 a i))
def La_31 : fx_L := (36, fx_kd La_30, fx_ln La_30, (fun a' i' => if a' = 20 ∧ i' = 10 then 35 else fx_tg La_30 a' i'))
def La_32 : fx_L := (37, (fun a => if a = 36 then 8 else fx_kd La_31 a), (fun a => if a = 36 then 10 else fx_ln La_31 a), (fun a i => if a = 36 then -1 else fx_tg La_31 a i))
def La_33 : fx_L := (37, fx_kd La_32, fx_ln La_32, (fun a' i' => if a' = 20 ∧ i' = 11 then 36 else fx_tg La_32 a' i'))
def La_34 : fx_L := (38, (fun a => if a = 37 then 8 else fx_kd La_33 a), (fun a => if a = 37 then 10 else fx_ln La_33 a), (fun a i => if a = 37 then -1 else fx_tg La_33 a i))
def La_35 : fx_L := (38, fx_kd La_34, fx_ln La_34, (fun a' i' => if a' = 20 ∧ i' = 12 then 37 else fx_tg La_34 a' i'))
def La_36 : fx_L := (39, (fun a => if a = 38 then 8 else fx_kd La_35 a), (fun a => if a = 38 then 10 else fx_ln La_35 a), (fun a i => if a = 38 then -1 else fx_tg La_35 a i))
def La_37 : fx_L := (39, fx_kd La_36, fx_ln La_36, (fun a' i' => if a' = 20 ∧ i' = 13 then 38 else fx_tg La_36 a' i'))
def La_38 : fx_L := (39, (fun a' => if a' = 20 then 4 else fx_kd La_37 a'), fx_ln La_37, fx_tg La_37)
def fi_X4_init_3 (Fu : Nat) (h : fx_H) : Option fx_H :=
  (f_X4_begin Fu La_38 20 (fx_z (fx_z (fx_z (fx_z (fx_zg (fx_zg (fx_z (fx_z h 21) 22) 23) 29) 35) 36) 37) 38)).bind fun h1 =>
  some h1
abbrev rmi_X4_init_3 : Room := { frames := 3, cells := 18, slots := 129, locals := 66 }
set_option maxRecDepth 100000 in
set_option maxHeartbeats 8000000 in
theorem mi_X4_init_3 (Fu : Nat) (h ho : fx_H) (hf : fi_X4_init_3 Fu h = some ho) : fx_MetC yX4_init cX4_init 1 rmi_X4_init_3 18 129 La_21 [(18, 20)] h La_38 ho := by
  unfold fi_X4_init_3 at hf
  refine fx_enterC (ls := [some (18, 20)]) (by decide) rfl (Nat.le_of_ble_eq_true rfl) rfl (fun M D cy ad ex A F K => ?_)
  refine fx_aload_n (pc := 0) (t := 16) F.1 0 rfl rfl dX4_init_0 ?_
  refine fx_objI (pc := 1) (k := 16) F (by decide) wM_X4_3 wIn_objectInit wCo_objectInit (by decide) (Nat.le_of_ble_eq_true rfl) dX4_init_1 ?_
  refine fx_aload_n (pc := 4) (t := 16) F.1 0 rfl rfl dX4_init_4 ?_
  refine fx_bipush (pc := 5) F.1 ⟨by decide, by decide⟩ (by decide) dX4_init_5 ?_
  refine fx_newarr (pc := 7) (atype := .int) (ty := .int) F 8 1 rfl (Or.inr (Or.inl ⟨rfl, rfl, rfl⟩)) ⟨by decide, by decide⟩ wA_int ⟨by decide, by decide⟩ dX4_init_7 (fun ad F => ?_)
  have K := fx_FrC_inc (a := 1) (b := 9) K
  show fx_J _ _ La_22 1 9 [some (18, 20)] [(10, 21), (18, 20)] (fx_z h 21)
  refine fx_putF (pc := 9) (ty := .array .int) F K 4 6 8 6 rfl kC_X4 (by decide) ⟨_, rfl⟩ rfl rfl (by decide +kernel) (fun _ => ⟨rfl, rfl⟩) wF_X4_9 dX4_init_9 (fun F => ?_)
  show fx_J _ _ La_23 1 12 [some (18, 20)] [] (fx_z h 21)
  refine fx_aload_n (pc := 12) (t := 16) F.1 0 rfl rfl dX4_init_12 ?_
  refine fx_iconst (pc := 13) F.1 ⟨by decide, by decide⟩ dX4_init_13 ?_
  refine fx_newarr (pc := 14) (atype := .int) (ty := .int) F 8 1 rfl (Or.inr (Or.inl ⟨rfl, rfl, rfl⟩)) ⟨by decide, by decide⟩ wA_int ⟨by decide, by decide⟩ dX4_init_14 (fun ad F => ?_)
  have K := fx_FrC_inc (a := 1) (b := 5) K
  show fx_J _ _ La_24 1 16 [some (18, 20)] [(10, 22), (18, 20)] (fx_z (fx_z h 21) 22)
  refine fx_putF (pc := 16) (ty := .array .int) F K 4 7 8 7 rfl kC_X4 (by decide) ⟨_, rfl⟩ rfl rfl (by decide +kernel) (fun _ => ⟨rfl, rfl⟩) wF_X4_15 dX4_init_16 (fun F => ?_)
  show fx_J _ _ La_25 1 19 [some (18, 20)] [] (fx_z (fx_z h 21) 22)
  refine fx_aload_n (pc := 19) (t := 16) F.1 0 rfl rfl dX4_init_19 ?_
  refine fx_iconst (pc := 20) F.1 ⟨by decide, by decide⟩ dX4_init_20 ?_
  refine fx_iconst (pc := 21) F.1 ⟨by decide, by decide⟩ dX4_init_21 ?_
  refine fx_mna (pc := 22) F 5 5 ⟨by decide, by decide⟩ wC_X4_18 wA_int ⟨by decide, by decide⟩ dX4_init_22 (fun ad F => ?_)
  have K := fx_FrC_inc (a := (1 + 5)) (b := (5 + 5 * 5)) K
  show fx_J _ _ La_26 1 26 [some (18, 20)] [(13, 23), (18, 20)] (fx_zg (fx_z (fx_z h 21) 22) 23)
  refine fx_putF (pc := 26) (ty := .array (.array .int)) F K 4 8 11 8 rfl kC_X4 (by decide) ⟨_, rfl⟩ rfl rfl (by decide +kernel) (fun _ => ⟨rfl, rfl⟩) wF_X4_20 dX4_init_26 (fun F => ?_)
  show fx_J _ _ La_27 1 29 [some (18, 20)] [] (fx_zg (fx_z (fx_z h 21) 22) 23)
  refine fx_aload_n (pc := 29) (t := 16) F.1 0 rfl rfl dX4_init_29 ?_
  refine fx_iconst (pc := 30) F.1 ⟨by decide, by decide⟩ dX4_init_30 ?_
  refine fx_bipush (pc := 31) F.1 ⟨by decide, by decide⟩ (by decide) dX4_init_31 ?_
  refine fx_mna (pc := 33) F 5 9 ⟨by decide, by decide⟩ wC_X4_18 wA_int ⟨by decide, by decide⟩ dX4_init_33 (fun ad F => ?_)
  have K := fx_FrC_inc (a := (1 + 5)) (b := (5 + 5 * 9)) K
  show fx_J _ _ La_28 1 37 [some (18, 20)] [(13, 29), (18, 20)] (fx_zg (fx_zg (fx_z (fx_z h 21) 22) 23) 29)
  refine fx_putF (pc := 37) (ty := .array (.array .int)) F K 4 9 11 9 rfl kC_X4 (by decide) ⟨_, rfl⟩ rfl rfl (by decide +kernel) (fun _ => ⟨rfl, rfl⟩) wF_X4_23 dX4_init_37 (fun F => ?_)
  show fx_J _ _ La_29 1 40 [some (18, 20)] [] (fx_zg (fx_zg (fx_z (fx_z h 21) 22) 23) 29)
  refine fx_aload_n (pc := 40) (t := 16) F.1 0 rfl rfl dX4_init_40 ?_
  refine fx_iconst (pc := 41) F.1 ⟨by decide, by decide⟩ dX4_init_41 ?_
  refine fx_newarr (pc := 42) (atype := .int) (ty := .int) F 8 1 rfl (Or.inr (Or.inl ⟨rfl, rfl, rfl⟩)) ⟨by decide, by decide⟩ wA_int ⟨by decide, by decide⟩ dX4_init_42 (fun ad F => ?_)
  have K := fx_FrC_inc (a := 1) (b := 5) K
  show fx_J _ _ La_30 1 44 [some (18, 20)] [(10, 35), (18, 20)] (fx_z (fx_zg (fx_zg (fx_z (fx_z h 21) 22) 23) 29) 35)
  refine fx_putF (pc := 44) (ty := .array .int) F K 4 10 8 10 rfl kC_X4 (by decide) ⟨_, rfl⟩ rfl rfl (by decide +kernel) (fun _ => ⟨rfl, rfl⟩) wF_X4_26 dX4_init_44 (fun F => ?_)
  show fx_J _ _ La_31 1 47 [some (18, 20)] [] (fx_z (fx_zg (fx_zg (fx_z (fx_z h 21) 22) 23) 29) 35)
  refine fx_aload_n (pc := 47) (t := 16) F.1 0 rfl rfl dX4_init_47 ?_
  refine fx_bipush (pc := 48) F.1 ⟨by decide, by decide⟩ (by decide) dX4_init_48 ?_
  refine fx_newarr (pc := 50) (atype := .int) (ty := .int) F 8 1 rfl (Or.inr (Or.inl ⟨rfl, rfl, rfl⟩)) ⟨by decide, by decide⟩ wA_int ⟨by decide, by decide⟩ dX4_init_50 (fun ad F => ?_)
  have K := fx_FrC_inc (a := 1) (b := 10) K
  show fx_J _ _ La_32 1 52 [some (18, 20)] [(10, 36), (18, 20)] (fx_z (fx_z (fx_zg (fx_zg (fx_z (fx_z h 21) 22) 23) 29) 35) 36)
  refine fx_putF (pc := 52) (ty := .array .int) F K 4 11 8 11 rfl kC_X4 (by decide) ⟨_, rfl⟩ rfl rfl (by decide +kernel) (fun _ => ⟨rfl, rfl⟩) wF_X4_29 dX4_init_52 (fun F => ?_)
  show fx_J _ _ La_33 1 55 [some (18, 20)] [] (fx_z (fx_z (fx_zg (fx_zg (fx_z (fx_z h 21) 22) 23) 29) 35) 36)
  refine fx_aload_n (pc := 55) (t := 16) F.1 0 rfl rfl dX4_init_55 ?_
  refine fx_bipush (pc := 56) F.1 ⟨by decide, by decide⟩ (by decide) dX4_init_56 ?_
  refine fx_newarr (pc := 58) (atype := .int) (ty := .int) F 8 1 rfl (Or.inr (Or.inl ⟨rfl, rfl, rfl⟩)) ⟨by decide, by decide⟩ wA_int ⟨by decide, by decide⟩ dX4_init_58 (fun ad F => ?_)
  have K := fx_FrC_inc (a := 1) (b := 10) K
  show fx_J _ _ La_34 1 60 [some (18, 20)] [(10, 37), (18, 20)] (fx_z (fx_z (fx_z (fx_zg (fx_zg (fx_z (fx_z h 21) 22) 23) 29) 35) 36) 37)
  refine fx_putF (pc := 60) (ty := .array .int) F K 4 12 8 12 rfl kC_X4 (by decide) ⟨_, rfl⟩ rfl rfl (by decide +kernel) (fun _ => ⟨rfl, rfl⟩) wF_X4_32 dX4_init_60 (fun F => ?_)
  show fx_J _ _ La_35 1 63 [some (18, 20)] [] (fx_z (fx_z (fx_z (fx_zg (fx_zg (fx_z (fx_z h 21) 22) 23) 29) 35) 36) 37)
  refine fx_aload_n (pc := 63) (t := 16) F.1 0 rfl rfl dX4_init_63 ?_
  refine fx_bipush (pc := 64) F.1 ⟨by decide, by decide⟩ (by decide) dX4_init_64 ?_
  refine fx_newarr (pc := 66) (atype := .int) (ty := .int) F 8 1 rfl (Or.inr (Or.inl ⟨rfl, rfl, rfl⟩)) ⟨by decide, by decide⟩ wA_int ⟨by decide, by decide⟩ dX4_init_66 (fun ad F => ?_)
  have K := fx_FrC_inc (a := 1) (b := 10) K
  show fx_J _ _ La_36 1 68 [some (18, 20)] [(10, 38), (18, 20)] (fx_z (fx_z (fx_z (fx_z (fx_zg (fx_zg (fx_z (fx_z h 21) 22) 23) 29) 35) 36) 37) 38)
  refine fx_putF (pc := 68) (ty := .array .int) F K 4 13 8 13 rfl kC_X4 (by decide) ⟨_, rfl⟩ rfl rfl (by decide +kernel) (fun _ => ⟨rfl, rfl⟩) wF_X4_35 dX4_init_68 (fun F => ?_)
  show fx_J _ _ La_37 1 71 [some (18, 20)] [] (fx_z (fx_z (fx_z (fx_z (fx_zg (fx_zg (fx_z (fx_z h 21) 22) 23) 29) 35) 36) 37) 38)
  refine fx_seal (pc := 71) (ls' := [some (6, 20)]) (st' := []) F (a := 20) 16 4 (by decide) ⟨by decide, by decide +kernel, by decide +kernel⟩ ⟨fun _ => fx_chk_use (Λ := fx_skd La_37 20 4) (by decide +kernel), fun q => absurd q (by decide)⟩ rfl rfl (fun F => ?_)
  show fx_J _ _ La_38 1 71 [some (6, 20)] [] (fx_z (fx_z (fx_z (fx_z (fx_zg (fx_zg (fx_z (fx_z h 21) 22) 23) 29) 35) 36) 37) 38)
  refine fx_aload_n (pc := 71) (t := 4) F.1 0 rfl rfl dX4_init_71 ?_
  obtain ⟨h1, e2, hf⟩ := fx_bnd hf
  refine fx_cVv (pc := 72) F.1 4 kC_X4 [] 20 [] (m_X4_begin Fu La_38 20 (fx_z (fx_z (fx_z (fx_z (fx_zg (fx_zg (fx_z (fx_z h 21) 22) 23) 29) 35) 36) 37) 38) _ e2) kD_X4_begin kI_X4_begin rfl wM_X4_38 ⟨rfl, rfl⟩ ⟨by decide, by decide⟩ (Nat.le_of_ble_eq_true rfl) rfl dX4_init_72 ?_
  cases hf
  exact fx_vretC (pc := 75) F K dX4_init_75
