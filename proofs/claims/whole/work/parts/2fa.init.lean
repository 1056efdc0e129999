def La_0 : fx_L := (0, (fun _ => 0), (fun _ => 0), (fun _ _ => -1))
def La_1 : fx_L := fx_push La_0 17 0 (fun _ => -1)
def La_2 : fx_L := fx_push La_1 16 0 (fun _ => -1)
def La_3 : fx_L := fx_push La_2 8 9 (fun _ => -1)
def La_4 : fx_L := fx_stg La_3 1 6 2
def La_5 : fx_L := fx_push La_4 8 5 (fun _ => -1)
def La_6 : fx_L := fx_stg La_5 1 7 3
def La_7 : fx_L := fx_grid La_6 5 5
def La_8 : fx_L := fx_stg La_7 1 8 4
def La_9 : fx_L := fx_grid La_8 5 9
def La_10 : fx_L := fx_stg La_9 1 9 10
def La_11 : fx_L := fx_push La_10 8 5 (fun _ => -1)
def La_12 : fx_L := fx_stg La_11 1 10 16
def La_13 : fx_L := fx_push La_12 8 10 (fun _ => -1)
def La_14 : fx_L := fx_stg La_13 1 11 17
def La_15 : fx_L := fx_push La_14 8 10 (fun _ => -1)
def La_16 : fx_L := fx_stg La_15 1 12 18
def La_17 : fx_L := fx_push La_16 8 10 (fun _ => -1)
def La_18 : fx_L := fx_stg La_17 1 13 19
def La_19 : fx_L := fx_skd La_18 1 4
def fi_X4_init_2 (Fu : Nat) (h : fx_H) : Option fx_H :=
  (f_X4_begin Fu La_19 1 (fx_z (fx_z (fx_z (fx_z (fx_zg (fx_zg (fx_z (fx_z h 2) 3) 4) 10) 16) 17) 18) 19)).bind fun h1 =>
  some h1
abbrev rmi_X4_init_2 : Room := { frames := 3, cells := 18, slots := 129, locals := 66 }
set_option maxRecDepth 100000 in
set_option maxHeartbeats 8000000 in
theorem mi_X4_init_2 (Fu : Nat) (h ho : fx_H) (hf : fi_X4_init_2 Fu h = some ho) : fx_MetC yX4_init cX4_init 1 rmi_X4_init_2 18 129 La_2 [(18, 1)] h La_19 ho := by
  unfold fi_X4_init_2 at hf
  refine fx_enterC (ls := [some (18, 1)]) (by decide) rfl (Nat.le_of_ble_eq_true rfl) rfl (fun M D cy ad ex A F K => ?_)
  refine fx_aload_n (pc := 0) (t := 16) F.1 0 rfl rfl dX4_init_0 ?_
  refine fx_objI (pc := 1) (k := 16) F (by decide) wM_X4_3 wIn_objectInit wCo_objectInit (by decide) (Nat.le_of_ble_eq_true rfl) dX4_init_1 ?_
  refine fx_aload_n (pc := 4) (t := 16) F.1 0 rfl rfl dX4_init_4 ?_
  refine fx_bipush (pc := 5) F.1 ⟨by decide, by decide⟩ (by decide) dX4_init_5 ?_
  refine fx_newarr2 (pc := 7) (atype := .int) (ty := .int) F 8 1 rfl (Or.inr (Or.inl ⟨rfl, rfl, rfl⟩)) ⟨by decide, by decide⟩ wA_int ⟨by decide, by decide⟩ dX4_init_7 (Λ2 := La_3) (a := 2) rfl (by decide +kernel) rfl (fun ad F => ?_)
  have K := fx_FrC_inc (a := 1) (b := 9) K
  show fx_J _ _ La_3 1 9 [some (18, 1)] [(10, 2), (18, 1)] (fx_z h 2)
  refine fx_putF2 (pc := 9) (ty := .array .int) F K 4 6 8 6 rfl kC_X4 (by decide) ⟨_, rfl⟩ rfl rfl (by decide +kernel) (fun _ => ⟨rfl, rfl⟩) wF_X4_9 dX4_init_9 (Λ2 := La_4) rfl (fun F => ?_)
  show fx_J _ _ La_4 1 12 [some (18, 1)] [] (fx_z h 2)
  refine fx_aload_n (pc := 12) (t := 16) F.1 0 rfl rfl dX4_init_12 ?_
  refine fx_iconst (pc := 13) F.1 ⟨by decide, by decide⟩ dX4_init_13 ?_
  refine fx_newarr2 (pc := 14) (atype := .int) (ty := .int) F 8 1 rfl (Or.inr (Or.inl ⟨rfl, rfl, rfl⟩)) ⟨by decide, by decide⟩ wA_int ⟨by decide, by decide⟩ dX4_init_14 (Λ2 := La_5) (a := 3) rfl (by decide +kernel) rfl (fun ad F => ?_)
  have K := fx_FrC_inc (a := 1) (b := 5) K
  show fx_J _ _ La_5 1 16 [some (18, 1)] [(10, 3), (18, 1)] (fx_z (fx_z h 2) 3)
  refine fx_putF2 (pc := 16) (ty := .array .int) F K 4 7 8 7 rfl kC_X4 (by decide) ⟨_, rfl⟩ rfl rfl (by decide +kernel) (fun _ => ⟨rfl, rfl⟩) wF_X4_15 dX4_init_16 (Λ2 := La_6) rfl (fun F => ?_)
  show fx_J _ _ La_6 1 19 [some (18, 1)] [] (fx_z (fx_z h 2) 3)
  refine fx_aload_n (pc := 19) (t := 16) F.1 0 rfl rfl dX4_init_19 ?_
  refine fx_iconst (pc := 20) F.1 ⟨by decide, by decide⟩ dX4_init_20 ?_
  refine fx_iconst (pc := 21) F.1 ⟨by decide, by decide⟩ dX4_init_21 ?_
  refine fx_mna2 (pc := 22) F 5 5 ⟨by decide, by decide⟩ wC_X4_18 wA_int ⟨by decide, by decide⟩ dX4_init_22 (Λ2 := La_7) (a := 4) rfl (by decide +kernel) (fun ad F => ?_)
  have K := fx_FrC_inc (a := (1 + 5)) (b := (5 + 5 * 5)) K
  show fx_J _ _ La_7 1 26 [some (18, 1)] [(13, 4), (18, 1)] (fx_zg (fx_z (fx_z h 2) 3) 4)
  refine fx_putF2 (pc := 26) (ty := .array (.array .int)) F K 4 8 11 8 rfl kC_X4 (by decide) ⟨_, rfl⟩ rfl rfl (by decide +kernel) (fun _ => ⟨rfl, rfl⟩) wF_X4_20 dX4_init_26 (Λ2 := La_8) rfl (fun F => ?_)
  show fx_J _ _ La_8 1 29 [some (18, 1)] [] (fx_zg (fx_z (fx_z h 2) 3) 4)
  refine fx_aload_n (pc := 29) (t := 16) F.1 0 rfl rfl dX4_init_29 ?_
  refine fx_iconst (pc := 30) F.1 ⟨by decide, by decide⟩ dX4_init_30 ?_
  refine fx_bipush (pc := 31) F.1 ⟨by decide, by decide⟩ (by decide) dX4_init_31 ?_
  refine fx_mna2 (pc := 33) F 5 9 ⟨by decide, by decide⟩ wC_X4_18 wA_int ⟨by decide, by decide⟩ dX4_init_33 (Λ2 := La_9) (a := 10) rfl (by decide +kernel) (fun ad F => ?_)
  have K := fx_FrC_inc (a := (1 + 5)) (b := (5 + 5 * 9)) K
  show fx_J _ _ La_9 1 37 [some (18, 1)] [(13, 10), (18, 1)] (fx_zg (fx_zg (fx_z (fx_z h 2) 3) 4) 10)
  refine fx_putF2 (pc := 37) (ty := .array (.array .int)) F K 4 9 11 9 rfl kC_X4 (by decide) ⟨_, rfl⟩ rfl rfl (by decide +kernel) (fun _ => ⟨rfl, rfl⟩) wF_X4_23 dX4_init_37 (Λ2 := La_10) rfl (fun F => ?_)
  show fx_J _ _ La_10 1 40 [some (18, 1)] [] (fx_zg (fx_zg (fx_z (fx_z h 2) 3) 4) 10)
  refine fx_aload_n (pc := 40) (t := 16) F.1 0 rfl rfl dX4_init_40 ?_
  refine fx_iconst (pc := 41) F.1 ⟨by decide, by decide⟩ dX4_init_41 ?_
  refine fx_newarr2 (pc := 42) (atype := .int) (ty := .int) F 8 1 rfl (Or.inr (Or.inl ⟨rfl, rfl, rfl⟩)) ⟨by decide, by decide⟩ wA_int ⟨by decide, by decide⟩ dX4_init_42 (Λ2 := La_11) (a := 16) rfl (by decide +kernel) rfl (fun ad F => ?_)
  have K := fx_FrC_inc (a := 1) (b := 5) K
  show fx_J _ _ La_11 1 44 [some (18, 1)] [(10, 16), (18, 1)] (fx_z (fx_zg (fx_zg (fx_z (fx_z h 2) 3) 4) 10) 16)
  refine fx_putF2 (pc := 44) (ty := .array .int) F K 4 10 8 10 rfl kC_X4 (by decide) ⟨_, rfl⟩ rfl rfl (by decide +kernel) (fun _ => ⟨rfl, rfl⟩) wF_X4_26 dX4_init_44 (Λ2 := La_12) rfl (fun F => ?_)
  show fx_J _ _ La_12 1 47 [some (18, 1)] [] (fx_z (fx_zg (fx_zg (fx_z (fx_z h 2) 3) 4) 10) 16)
  refine fx_aload_n (pc := 47) (t := 16) F.1 0 rfl rfl dX4_init_47 ?_
  refine fx_bipush (pc := 48) F.1 ⟨by decide, by decide⟩ (by decide) dX4_init_48 ?_
  refine fx_newarr2 (pc := 50) (atype := .int) (ty := .int) F 8 1 rfl (Or.inr (Or.inl ⟨rfl, rfl, rfl⟩)) ⟨by decide, by decide⟩ wA_int ⟨by decide, by decide⟩ dX4_init_50 (Λ2 := La_13) (a := 17) rfl (by decide +kernel) rfl (fun ad F => ?_)
  have K := fx_FrC_inc (a := 1) (b := 10) K
  show fx_J _ _ La_13 1 52 [some (18, 1)] [(10, 17), (18, 1)] (fx_z (fx_z (fx_zg (fx_zg (fx_z (fx_z h 2) 3) 4) 10) 16) 17)
  refine fx_putF2 (pc := 52) (ty := .array .int) F K 4 11 8 11 rfl kC_X4 (by decide) ⟨_, rfl⟩ rfl rfl (by decide +kernel) (fun _ => ⟨rfl, rfl⟩) wF_X4_29 dX4_init_52 (Λ2 := La_14) rfl (fun F => ?_)
  show fx_J _ _ La_14 1 55 [some (18, 1)] [] (fx_z (fx_z (fx_zg (fx_zg (fx_z (fx_z h 2) 3) 4) 10) 16) 17)
  refine fx_aload_n (pc := 55) (t := 16) F.1 0 rfl rfl dX4_init_55 ?_
  refine fx_bipush (pc := 56) F.1 ⟨by decide, by decide⟩ (by decide) dX4_init_56 ?_
  refine fx_newarr2 (pc := 58) (atype := .int) (ty := .int) F 8 1 rfl (Or.inr (Or.inl ⟨rfl, rfl, rfl⟩)) ⟨by decide, by decide⟩ wA_int ⟨by decide, by decide⟩ dX4_init_58 (Λ2 := La_15) (a := 18) rfl (by decide +kernel) rfl (fun ad F => ?_)
  have K := fx_FrC_inc (a := 1) (b := 10) K
  show fx_J _ _ La_15 1 60 [some (18, 1)] [(10, 18), (18, 1)] (fx_z (fx_z (fx_z (fx_zg (fx_zg (fx_z (fx_z h 2) 3) 4) 10) 16) 17) 18)
  refine fx_putF2 (pc := 60) (ty := .array .int) F K 4 12 8 12 rfl kC_X4 (by decide) ⟨_, rfl⟩ rfl rfl (by decide +kernel) (fun _ => ⟨rfl, rfl⟩) wF_X4_32 dX4_init_60 (Λ2 := La_16) rfl (fun F => ?_)
  show fx_J _ _ La_16 1 63 [some (18, 1)] [] (fx_z (fx_z (fx_z (fx_zg (fx_zg (fx_z (fx_z h 2) 3) 4) 10) 16) 17) 18)
  refine fx_aload_n (pc := 63) (t := 16) F.1 0 rfl rfl dX4_init_63 ?_
  refine fx_bipush (pc := 64) F.1 ⟨by decide, by decide⟩ (by decide) dX4_init_64 ?_
  refine fx_newarr2 (pc := 66) (atype := .int) (ty := .int) F 8 1 rfl (Or.inr (Or.inl ⟨rfl, rfl, rfl⟩)) ⟨by decide, by decide⟩ wA_int ⟨by decide, by decide⟩ dX4_init_66 (Λ2 := La_17) (a := 19) rfl (by decide +kernel) rfl (fun ad F => ?_)
  have K := fx_FrC_inc (a := 1) (b := 10) K
  show fx_J _ _ La_17 1 68 [some (18, 1)] [(10, 19), (18, 1)] (fx_z (fx_z (fx_z (fx_z (fx_zg (fx_zg (fx_z (fx_z h 2) 3) 4) 10) 16) 17) 18) 19)
  refine fx_putF2 (pc := 68) (ty := .array .int) F K 4 13 8 13 rfl kC_X4 (by decide) ⟨_, rfl⟩ rfl rfl (by decide +kernel) (fun _ => ⟨rfl, rfl⟩) wF_X4_35 dX4_init_68 (Λ2 := La_18) rfl (fun F => ?_)
  show fx_J _ _ La_18 1 71 [some (18, 1)] [] (fx_z (fx_z (fx_z (fx_z (fx_zg (fx_zg (fx_z (fx_z h 2) 3) 4) 10) 16) 17) 18) 19)
  refine fx_seal2 (pc := 71) (ls' := [some (6, 1)]) (st' := []) F (a := 1) 16 4 (by decide) ⟨by decide, by decide +kernel, by decide +kernel⟩ (Λ2 := La_19) rfl ⟨fun _ => fx_chk_use (Λ := La_19) (by decide +kernel), fun q => absurd q (by decide)⟩ rfl rfl (fun F => ?_)
  show fx_J _ _ La_19 1 71 [some (6, 1)] [] (fx_z (fx_z (fx_z (fx_z (fx_zg (fx_zg (fx_z (fx_z h 2) 3) 4) 10) 16) 17) 18) 19)
  refine fx_aload_n (pc := 71) (t := 4) F.1 0 rfl rfl dX4_init_71 ?_
  obtain ⟨h1, e2, hf⟩ := fx_bnd hf
  refine fx_cVv (pc := 72) F.1 4 kC_X4 [] 1 [] (m_X4_begin Fu La_19 1 (fx_z (fx_z (fx_z (fx_z (fx_zg (fx_zg (fx_z (fx_z h 2) 3) 4) 10) 16) 17) 18) 19) _ e2) kD_X4_begin kI_X4_begin rfl wM_X4_38 ⟨rfl, rfl⟩ ⟨by decide, by decide⟩ (Nat.le_of_ble_eq_true rfl) rfl dX4_init_72 ?_
  cases hf
  exact fx_vretC (pc := 75) F K dX4_init_75
