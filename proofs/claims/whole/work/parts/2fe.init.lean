def La_59 : fx_L := fx_stg La_58 0 5 43
def La_60 : fx_L := fx_push La_59 13 0 (fun _ => -1)
def La_61 : fx_L := fx_grid La_60 5 5
def La_62 : fx_L := fx_stg La_61 48 0 49
def La_63 : fx_L := fx_grid La_62 5 5
def La_64 : fx_L := fx_stg La_63 48 1 55
def La_65 : fx_L := fx_grid La_64 5 5
def La_66 : fx_L := fx_stg La_65 48 3 61
def La_67 : fx_L := fx_grid La_66 5 600
def La_68 : fx_L := fx_stg La_67 48 6 67
def La_69 : fx_L := fx_push La_68 8 5 (fun _ => -1)
def La_70 : fx_L := fx_stg La_69 48 7 73
def La_71 : fx_L := fx_push La_70 8 5 (fun _ => -1)
def La_72 : fx_L := fx_stg La_71 48 8 74
def La_73 : fx_L := fx_push La_72 8 5 (fun _ => -1)
def La_74 : fx_L := fx_stg La_73 48 9 75
def La_75 : fx_L := fx_push La_74 8 5 (fun _ => -1)
def La_76 : fx_L := fx_stg La_75 48 10 76
def La_77 : fx_L := fx_push La_76 8 5 (fun _ => -1)
def La_78 : fx_L := fx_stg La_77 48 11 77
def La_79 : fx_L := fx_grid La_78 5 50
def La_80 : fx_L := fx_stg La_79 48 12 78
def La_81 : fx_L := fx_skd La_80 48 1
def fi_X1_init_6 (Fu : Nat) (h : fx_H) : Option fx_H :=
  some (fx_zg (fx_z (fx_z (fx_z (fx_z (fx_z (fx_zg (fx_up (fx_zg (fx_zg (fx_zg h 49) 55) 61) 48 5 (-1)) 67) 73) 74) 75) 76) 77) 78)
abbrev rmi_X1_init_6 : Room := { frames := 1, cells := 35, slots := 3375, locals := 20 }
set_option maxRecDepth 100000 in
set_option maxHeartbeats 8000000 in
theorem mi_X1_init_6 (Fu : Nat) (h ho : fx_H) (hf : fi_X1_init_6 Fu h = some ho) : fx_MetC yX1_init cX1_init 1 rmi_X1_init_6 35 3375 La_60 [(15, 48)] h La_81 ho := by
  unfold fi_X1_init_6 at hf
  refine fx_enterC (ls := [some (15, 48)]) (by decide) rfl (Nat.le_of_ble_eq_true rfl) rfl (fun M D cy ad ex A F K => ?_)
  refine fx_aload_n (pc := 0) (t := 13) F.1 0 rfl rfl dX1_init_0 ?_
  refine fx_objI (pc := 1) (k := 13) F (by decide) wM_X1_3 wIn_objectInit wCo_objectInit (by decide) (Nat.le_of_ble_eq_true rfl) dX1_init_1 ?_
  refine fx_aload_n (pc := 4) (t := 13) F.1 0 rfl rfl dX1_init_4 ?_
  refine fx_iconst (pc := 5) F.1 ⟨by decide, by decide⟩ dX1_init_5 ?_
  refine fx_iconst (pc := 6) F.1 ⟨by decide, by decide⟩ dX1_init_6 ?_
  refine fx_mna2 (pc := 7) F 5 5 ⟨by decide, by decide⟩ wC_X1_9 wA_int ⟨by decide, by decide⟩ dX1_init_7 (Λ2 := La_61) (a := 49) rfl (by decide +kernel) (fun ad F => ?_)
  have K := fx_FrC_inc (a := (1 + 5)) (b := (5 + 5 * 5)) K
  show fx_J _ _ La_61 1 11 [some (15, 48)] [(13, 49), (15, 48)] (fx_zg h 49)
  refine fx_putF2 (pc := 11) (ty := .array (.array .int)) F K 1 0 11 0 rfl kC_X1 (by decide) ⟨_, rfl⟩ rfl rfl (by decide +kernel) (fun _ => ⟨rfl, rfl⟩) wF_X1_11 dX1_init_11 (Λ2 := La_62) rfl (fun F => ?_)
  show fx_J _ _ La_62 1 14 [some (15, 48)] [] (fx_zg h 49)
  refine fx_aload_n (pc := 14) (t := 13) F.1 0 rfl rfl dX1_init_14 ?_
  refine fx_iconst (pc := 15) F.1 ⟨by decide, by decide⟩ dX1_init_15 ?_
  refine fx_iconst (pc := 16) F.1 ⟨by decide, by decide⟩ dX1_init_16 ?_
  refine fx_mna2 (pc := 17) F 5 5 ⟨by decide, by decide⟩ wC_X1_9 wA_int ⟨by decide, by decide⟩ dX1_init_17 (Λ2 := La_63) (a := 55) rfl (by decide +kernel) (fun ad F => ?_)
  have K := fx_FrC_inc (a := (1 + 5)) (b := (5 + 5 * 5)) K
  show fx_J _ _ La_63 1 21 [some (15, 48)] [(13, 55), (15, 48)] (fx_zg (fx_zg h 49) 55)
  refine fx_putF2 (pc := 21) (ty := .array (.array .int)) F K 1 1 11 1 rfl kC_X1 (by decide) ⟨_, rfl⟩ rfl rfl (by decide +kernel) (fun _ => ⟨rfl, rfl⟩) wF_X1_16 dX1_init_21 (Λ2 := La_64) rfl (fun F => ?_)
  show fx_J _ _ La_64 1 24 [some (15, 48)] [] (fx_zg (fx_zg h 49) 55)
  refine fx_aload_n (pc := 24) (t := 13) F.1 0 rfl rfl dX1_init_24 ?_
  refine fx_iconst (pc := 25) F.1 ⟨by decide, by decide⟩ dX1_init_25 ?_
  refine fx_iconst (pc := 26) F.1 ⟨by decide, by decide⟩ dX1_init_26 ?_
  refine fx_mna2 (pc := 27) F 5 5 ⟨by decide, by decide⟩ wC_X1_9 wA_int ⟨by decide, by decide⟩ dX1_init_27 (Λ2 := La_65) (a := 61) rfl (by decide +kernel) (fun ad F => ?_)
  have K := fx_FrC_inc (a := (1 + 5)) (b := (5 + 5 * 5)) K
  show fx_J _ _ La_65 1 31 [some (15, 48)] [(13, 61), (15, 48)] (fx_zg (fx_zg (fx_zg h 49) 55) 61)
  refine fx_putF2 (pc := 31) (ty := .array (.array .int)) F K 1 3 11 3 rfl kC_X1 (by decide) ⟨_, rfl⟩ rfl rfl (by decide +kernel) (fun _ => ⟨rfl, rfl⟩) wF_X1_19 dX1_init_31 (Λ2 := La_66) rfl (fun F => ?_)
  show fx_J _ _ La_66 1 34 [some (15, 48)] [] (fx_zg (fx_zg (fx_zg h 49) 55) 61)
  refine fx_aload_n (pc := 34) (t := 13) F.1 0 rfl rfl dX1_init_34 ?_
  refine fx_iconst (pc := 35) F.1 ⟨by decide, by decide⟩ dX1_init_35 ?_
  refine fx_putU (pc := 36) F 1 5 0 5 (Or.inl ⟨rfl, rfl⟩) kC_X1 rfl rfl (by decide +kernel) wF_X1_22 dX1_init_36 ?_
  refine fx_aload_n (pc := 39) (t := 13) F.1 0 rfl rfl dX1_init_39 ?_
  refine fx_iconst (pc := 40) F.1 ⟨by decide, by decide⟩ dX1_init_40 ?_
  refine fx_sipush (pc := 41) F.1 ⟨by decide, by decide⟩ (by decide) dX1_init_41 ?_
  refine fx_mna2 (pc := 44) F 5 600 ⟨by decide, by decide⟩ wC_X1_9 wA_int ⟨by decide, by decide⟩ dX1_init_44 (Λ2 := La_67) (a := 67) rfl (by decide +kernel) (fun ad F => ?_)
  have K := fx_FrC_inc (a := (1 + 5)) (b := (5 + 5 * 600)) K
  show fx_J _ _ La_67 1 48 [some (15, 48)] [(13, 67), (15, 48)] (fx_zg (fx_up (fx_zg (fx_zg (fx_zg h 49) 55) 61) 48 5 (-1)) 67)
  refine fx_putF2 (pc := 48) (ty := .array (.array .int)) F K 1 6 11 6 rfl kC_X1 (by decide) ⟨_, rfl⟩ rfl rfl (by decide +kernel) (fun _ => ⟨rfl, rfl⟩) wF_X1_26 dX1_init_48 (Λ2 := La_68) rfl (fun F => ?_)
  show fx_J _ _ La_68 1 51 [some (15, 48)] [] (fx_zg (fx_up (fx_zg (fx_zg (fx_zg h 49) 55) 61) 48 5 (-1)) 67)
  refine fx_aload_n (pc := 51) (t := 13) F.1 0 rfl rfl dX1_init_51 ?_
  refine fx_iconst (pc := 52) F.1 ⟨by decide, by decide⟩ dX1_init_52 ?_
  refine fx_newarr2 (pc := 53) (atype := .int) (ty := .int) F 8 1 rfl (Or.inr (Or.inl ⟨rfl, rfl, rfl⟩)) ⟨by decide, by decide⟩ wA_int ⟨by decide, by decide⟩ dX1_init_53 (Λ2 := La_69) (a := 73) rfl (by decide +kernel) rfl (fun ad F => ?_)
  have K := fx_FrC_inc (a := 1) (b := 5) K
  show fx_J _ _ La_69 1 55 [some (15, 48)] [(10, 73), (15, 48)] (fx_z (fx_zg (fx_up (fx_zg (fx_zg (fx_zg h 49) 55) 61) 48 5 (-1)) 67) 73)
  refine fx_putF2 (pc := 55) (ty := .array .int) F K 1 7 8 7 rfl kC_X1 (by decide) ⟨_, rfl⟩ rfl rfl (by decide +kernel) (fun _ => ⟨rfl, rfl⟩) wF_X1_29 dX1_init_55 (Λ2 := La_70) rfl (fun F => ?_)
  show fx_J _ _ La_70 1 58 [some (15, 48)] [] (fx_z (fx_zg (fx_up (fx_zg (fx_zg (fx_zg h 49) 55) 61) 48 5 (-1)) 67) 73)
  refine fx_aload_n (pc := 58) (t := 13) F.1 0 rfl rfl dX1_init_58 ?_
  refine fx_iconst (pc := 59) F.1 ⟨by decide, by decide⟩ dX1_init_59 ?_
  refine fx_newarr2 (pc := 60) (atype := .int) (ty := .int) F 8 1 rfl (Or.inr (Or.inl ⟨rfl, rfl, rfl⟩)) ⟨by decide, by decide⟩ wA_int ⟨by decide, by decide⟩ dX1_init_60 (Λ2 := La_71) (a := 74) rfl (by decide +kernel) rfl (fun ad F => ?_)
  have K := fx_FrC_inc (a := 1) (b := 5) K
  show fx_J _ _ La_71 1 62 [some (15, 48)] [(10, 74), (15, 48)] (fx_z (fx_z (fx_zg (fx_up (fx_zg (fx_zg (fx_zg h 49) 55) 61) 48 5 (-1)) 67) 73) 74)
  refine fx_putF2 (pc := 62) (ty := .array .int) F K 1 8 8 8 rfl kC_X1 (by decide) ⟨_, rfl⟩ rfl rfl (by decide +kernel) (fun _ => ⟨rfl, rfl⟩) wF_X1_33 dX1_init_62 (Λ2 := La_72) rfl (fun F => ?_)
  show fx_J _ _ La_72 1 65 [some (15, 48)] [] (fx_z (fx_z (fx_zg (fx_up (fx_zg (fx_zg (fx_zg h 49) 55) 61) 48 5 (-1)) 67) 73) 74)
  refine fx_aload_n (pc := 65) (t := 13) F.1 0 rfl rfl dX1_init_65 ?_
  refine fx_iconst (pc := 66) F.1 ⟨by decide, by decide⟩ dX1_init_66 ?_
  refine fx_newarr2 (pc := 67) (atype := .int) (ty := .int) F 8 1 rfl (Or.inr (Or.inl ⟨rfl, rfl, rfl⟩)) ⟨by decide, by decide⟩ wA_int ⟨by decide, by decide⟩ dX1_init_67 (Λ2 := La_73) (a := 75) rfl (by decide +kernel) rfl (fun ad F => ?_)
  have K := fx_FrC_inc (a := 1) (b := 5) K
  show fx_J _ _ La_73 1 69 [some (15, 48)] [(10, 75), (15, 48)] (fx_z (fx_z (fx_z (fx_zg (fx_up (fx_zg (fx_zg (fx_zg h 49) 55) 61) 48 5 (-1)) 67) 73) 74) 75)
  refine fx_putF2 (pc := 69) (ty := .array .int) F K 1 9 8 9 rfl kC_X1 (by decide) ⟨_, rfl⟩ rfl rfl (by decide +kernel) (fun _ => ⟨rfl, rfl⟩) wF_X1_36 dX1_init_69 (Λ2 := La_74) rfl (fun F => ?_)
  show fx_J _ _ La_74 1 72 [some (15, 48)] [] (fx_z (fx_z (fx_z (fx_zg (fx_up (fx_zg (fx_zg (fx_zg h 49) 55) 61) 48 5 (-1)) 67) 73) 74) 75)
  refine fx_aload_n (pc := 72) (t := 13) F.1 0 rfl rfl dX1_init_72 ?_
  refine fx_iconst (pc := 73) F.1 ⟨by decide, by decide⟩ dX1_init_73 ?_
  refine fx_newarr2 (pc := 74) (atype := .int) (ty := .int) F 8 1 rfl (Or.inr (Or.inl ⟨rfl, rfl, rfl⟩)) ⟨by decide, by decide⟩ wA_int ⟨by decide, by decide⟩ dX1_init_74 (Λ2 := La_75) (a := 76) rfl (by decide +kernel) rfl (fun ad F => ?_)
  have K := fx_FrC_inc (a := 1) (b := 5) K
  show fx_J _ _ La_75 1 76 [some (15, 48)] [(10, 76), (15, 48)] (fx_z (fx_z (fx_z (fx_z (fx_zg (fx_up (fx_zg (fx_zg (fx_zg h 49) 55) 61) 48 5 (-1)) 67) 73) 74) 75) 76)
  refine fx_putF2 (pc := 76) (ty := .array .int) F K 1 10 8 10 rfl kC_X1 (by decide) ⟨_, rfl⟩ rfl rfl (by decide +kernel) (fun _ => ⟨rfl, rfl⟩) wF_X1_39 dX1_init_76 (Λ2 := La_76) rfl (fun F => ?_)
  show fx_J _ _ La_76 1 79 [some (15, 48)] [] (fx_z (fx_z (fx_z (fx_z (fx_zg (fx_up (fx_zg (fx_zg (fx_zg h 49) 55) 61) 48 5 (-1)) 67) 73) 74) 75) 76)
  refine fx_aload_n (pc := 79) (t := 13) F.1 0 rfl rfl dX1_init_79 ?_
  refine fx_iconst (pc := 80) F.1 ⟨by decide, by decide⟩ dX1_init_80 ?_
  refine fx_newarr2 (pc := 81) (atype := .int) (ty := .int) F 8 1 rfl (Or.inr (Or.inl ⟨rfl, rfl, rfl⟩)) ⟨by decide, by decide⟩ wA_int ⟨by decide, by decide⟩ dX1_init_81 (Λ2 := La_77) (a := 77) rfl (by decide +kernel) rfl (fun ad F => ?_)
  have K := fx_FrC_inc (a := 1) (b := 5) K
  show fx_J _ _ La_77 1 83 [some (15, 48)] [(10, 77), (15, 48)] (fx_z (fx_z (fx_z (fx_z (fx_z (fx_zg (fx_up (fx_zg (fx_zg (fx_zg h 49) 55) 61) 48 5 (-1)) 67) 73) 74) 75) 76) 77)
  refine fx_putF2 (pc := 83) (ty := .array .int) F K 1 11 8 11 rfl kC_X1 (by decide) ⟨_, rfl⟩ rfl rfl (by decide +kernel) (fun _ => ⟨rfl, rfl⟩) wF_X1_42 dX1_init_83 (Λ2 := La_78) rfl (fun F => ?_)
  show fx_J _ _ La_78 1 86 [some (15, 48)] [] (fx_z (fx_z (fx_z (fx_z (fx_z (fx_zg (fx_up (fx_zg (fx_zg (fx_zg h 49) 55) 61) 48 5 (-1)) 67) 73) 74) 75) 76) 77)
  refine fx_aload_n (pc := 86) (t := 13) F.1 0 rfl rfl dX1_init_86 ?_
  refine fx_iconst (pc := 87) F.1 ⟨by decide, by decide⟩ dX1_init_87 ?_
  refine fx_bipush (pc := 88) F.1 ⟨by decide, by decide⟩ (by decide) dX1_init_88 ?_
  refine fx_mna2 (pc := 90) F 5 50 ⟨by decide, by decide⟩ wC_X1_9 wA_int ⟨by decide, by decide⟩ dX1_init_90 (Λ2 := La_79) (a := 78) rfl (by decide +kernel) (fun ad F => ?_)
  have K := fx_FrC_inc (a := (1 + 5)) (b := (5 + 5 * 50)) K
  show fx_J _ _ La_79 1 94 [some (15, 48)] [(13, 78), (15, 48)] (fx_zg (fx_z (fx_z (fx_z (fx_z (fx_z (fx_zg (fx_up (fx_zg (fx_zg (fx_zg h 49) 55) 61) 48 5 (-1)) 67) 73) 74) 75) 76) 77) 78)
  refine fx_putF2 (pc := 94) (ty := .array (.array .int)) F K 1 12 11 12 rfl kC_X1 (by decide) ⟨_, rfl⟩ rfl rfl (by decide +kernel) (fun _ => ⟨rfl, rfl⟩) wF_X1_45 dX1_init_94 (Λ2 := La_80) rfl (fun F => ?_)
  show fx_J _ _ La_80 1 97 [some (15, 48)] [] (fx_zg (fx_z (fx_z (fx_z (fx_z (fx_z (fx_zg (fx_up (fx_zg (fx_zg (fx_zg h 49) 55) 61) 48 5 (-1)) 67) 73) 74) 75) 76) 77) 78)
  refine fx_seal2 (pc := 97) (ls' := [some (3, 48)]) (st' := []) F (a := 48) 13 1 (by decide) ⟨by decide, by decide +kernel, by decide +kernel⟩ (Λ2 := La_81) rfl ⟨fun _ => fx_chk_use (Λ := La_81) (by decide +kernel), fun q => absurd q (by decide)⟩ rfl rfl (fun F => ?_)
  show fx_J _ _ La_81 1 97 [some (3, 48)] [] (fx_zg (fx_z (fx_z (fx_z (fx_z (fx_z (fx_zg (fx_up (fx_zg (fx_zg (fx_zg h 49) 55) 61) 48 5 (-1)) 67) 73) 74) 75) 76) 77) 78)
  cases hf
  exact fx_vretC (pc := 97) F K dX1_init_97
