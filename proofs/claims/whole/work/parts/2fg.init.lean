def La_91 : fx_L := fx_stg La_90 0 7 84
def La_92 : fx_L := fx_push La_91 16 0 (fun _ => -1)
def La_93 : fx_L := fx_push La_92 8 9 (fun _ => -1)
def La_94 : fx_L := fx_stg La_93 88 6 89
def La_95 : fx_L := fx_push La_94 8 5 (fun _ => -1)
def La_96 : fx_L := fx_stg La_95 88 7 90
def La_97 : fx_L := fx_grid La_96 5 5
def La_98 : fx_L := fx_stg La_97 88 8 91
def La_99 : fx_L := fx_grid La_98 5 9
def La_100 : fx_L := fx_stg La_99 88 9 97
def La_101 : fx_L := fx_push La_100 8 5 (fun _ => -1)
def La_102 : fx_L := fx_stg La_101 88 10 103
def La_103 : fx_L := fx_push La_102 8 10 (fun _ => -1)
def La_104 : fx_L := fx_stg La_103 88 11 104
def La_105 : fx_L := fx_push La_104 8 10 (fun _ => -1)
def La_106 : fx_L := fx_stg La_105 88 12 105
def La_107 : fx_L := fx_push La_106 8 10 (fun _ => -1)
def La_108 : fx_L := fx_stg La_107 88 13 106
def La_109 : fx_L := fx_skd La_108 88 4
def fi_X4_init_8 (Fu : Nat) (h : fx_H) : Option fx_H :=
  (f_X4_begin Fu La_109 88 (fx_z (fx_z (fx_z (fx_z (fx_zg (fx_zg (fx_z (fx_z h 89) 90) 91) 97) 103) 104) 105) 106)).bind fun h1 =>
  some h1
abbrev rmi_X4_init_8 : Room := { frames := 3, cells := 18, slots := 129, locals := 66 }
set_option maxRecDepth 100000 in
set_option maxHeartbeats 8000000 in
theorem mi_X4_init_8 (Fu : Nat) (h ho : fx_H) (hf : fi_X4_init_8 Fu h = some ho) : fx_MetC yX4_init cX4_init 1 rmi_X4_init_8 18 129 La_92 [(18, 88)] h La_109 ho := by
  unfold fi_X4_init_8 at hf
  refine fx_enterC (ls := [some (18, 88)]) (by decide) rfl (Nat.le_of_ble_eq_true rfl) rfl (fun M D cy ad ex A F K => ?_)
  refine fx_aload_n (pc := 0) (t := 16) F.1 0 rfl rfl dX4_init_0 ?_
  refine fx_objI (pc := 1) (k := 16) F (by decide) wM_X4_3 wIn_objectInit wCo_objectInit (by decide) (Nat.le_of_ble_eq_true rfl) dX4_init_1 ?_
  refine fx_aload_n (pc := 4) (t := 16) F.1 0 rfl rfl dX4_init_4 ?_
  refine fx_bipush (pc := 5) F.1 ⟨by decide, by decide⟩ (by decide) dX4_init_5 ?_
  refine fx_newarr2 (pc := 7) (atype := .int) (ty := .int) F 8 1 rfl (Or.inr (Or.inl ⟨rfl, rfl, rfl⟩)) ⟨by decide, by decide⟩ wA_int ⟨by decide, by decide⟩ dX4_init_7 (Λ2 := La_93) (a := 89) rfl (by decide +kernel) rfl (fun ad F => ?_)
  have K := fx_FrC_inc (a := 1) (b := 9) K
  show fx_J _ _ La_93 1 9 [some (18, 88)] [(10, 89), (18, 88)] (fx_z h 89)
  refine fx_putF2 (pc := 9) (ty := .array .int) F K 4 6 8 6 rfl kC_X4 (by decide) ⟨_, rfl⟩ rfl rfl (by decide +kernel) (fun _ => ⟨rfl, rfl⟩) wF_X4_9 dX4_init_9 (Λ2 := La_94) rfl (fun F => ?_)
  show fx_J _ _ La_94 1 12 [some (18, 88)] [] (fx_z h 89)
  refine fx_aload_n (pc := 12) (t := 16) F.1 0 rfl rfl dX4_init_12 ?_
  refine fx_iconst (pc := 13) F.1 ⟨by decide, by decide⟩ dX4_init_13 ?_
  refine fx_newarr2 (pc := 14) (atype := .int) (ty := .int) F 8 1 rfl (Or.inr (Or.inl ⟨rfl, rfl, rfl⟩)) ⟨by decide, by decide⟩ wA_int ⟨by decide, by decide⟩ dX4_init_14 (Λ2 := La_95) (a := 90) rfl (by decide +kernel) rfl (fun ad F => ?_)
  have K := fx_FrC_inc (a := 1) (b := 5) K
  show fx_J _ _ La_95 1 16 [some (18, 88)] [(10, 90), (18, 88)] (fx_z (fx_z h 89) 90)
  refine fx_putF2 (pc := 16) (ty := .array .int) F K 4 7 8 7 rfl kC_X4 (by decide) ⟨_, rfl⟩ rfl rfl (by decide +kernel) (fun _ => ⟨rfl, rfl⟩) wF_X4_15 dX4_init_16 (Λ2 := La_96) rfl (fun F => ?_)
  show fx_J _ _ La_96 1 19 [some (18, 88)] [] (fx_z (fx_z h 89) 90)
  refine fx_aload_n (pc := 19) (t := 16) F.1 0 rfl rfl dX4_init_19 ?_
  refine fx_iconst (pc := 20) F.1 ⟨by decide, by decide⟩ dX4_init_20 ?_
  refine fx_iconst (pc := 21) F.1 ⟨by decide, by decide⟩ dX4_init_21 ?_
  refine fx_mna2 (pc := 22) F 5 5 ⟨by decide, by decide⟩ wC_X4_18 wA_int ⟨by decide, by decide⟩ dX4_init_22 (Λ2 := La_97) (a := 91) rfl (by decide +kernel) (fun ad F => ?_)
  have K := fx_FrC_inc (a := (1 + 5)) (b := (5 + 5 * 5)) K
  show fx_J _ _ La_97 1 26 [some (18, 88)] [(13, 91), (18, 88)] (fx_zg (fx_z (fx_z h 89) 90) 91)
  refine fx_putF2 (pc := 26) (ty := .array (.array .int)) F K 4 8 11 8 rfl kC_X4 (by decide) ⟨_, rfl⟩ rfl rfl (by decide +kernel) (fun _ => ⟨rfl, rfl⟩) wF_X4_20 dX4_init_26 (Λ2 := La_98) rfl (fun F => ?_)
  show fx_J _ _ La_98 1 29 [some (18, 88)] [] (fx_zg (fx_z (fx_z h 89) 90) 91)
  refine fx_aload_n (pc := 29) (t := 16) F.1 0 rfl rfl dX4_init_29 ?_
  refine fx_iconst (pc := 30) F.1 ⟨by decide, by decide⟩ dX4_init_30 ?_
  refine fx_bipush (pc := 31) F.1 ⟨by decide, by decide⟩ (by decide) dX4_init_31 ?_
  refine fx_mna2 (pc := 33) F 5 9 ⟨by decide, by decide⟩ wC_X4_18 wA_int ⟨by decide, by decide⟩ dX4_init_33 (Λ2 := La_99) (a := 97) rfl (by decide +kernel) (fun ad F => ?_)
  have K := fx_FrC_inc (a := (1 + 5)) (b := (5 + 5 * 9)) K
  show fx_J _ _ La_99 1 37 [some (18, 88)] [(13, 97), (18, 88)] (fx_zg (fx_zg (fx_z (fx_z h 89) 90) 91) 97)
  refine fx_putF2 (pc := 37) (ty := .array (.array .int)) F K 4 9 11 9 rfl kC_X4 (by decide) ⟨_, rfl⟩ rfl rfl (by decide +kernel) (fun _ => ⟨rfl, rfl⟩) wF_X4_23 dX4_init_37 (Λ2 := La_100) rfl (fun F => ?_)
  show fx_J _ _ La_100 1 40 [some (18, 88)] [] (fx_zg (fx_zg (fx_z (fx_z h 89) 90) 91) 97)
  refine fx_aload_n (pc := 40) (t := 16) F.1 0 rfl rfl dX4_init_40 ?_
  refine fx_iconst (pc := 41) F.1 ⟨by decide, by decide⟩ dX4_init_41 ?_
  refine fx_newarr2 (pc := 42) (atype := .int) (ty := .int) F 8 1 rfl (Or.inr (Or.inl ⟨rfl, rfl, rfl⟩)) ⟨by decide, by decide⟩ wA_int ⟨by decide, by decide⟩ dX4_init_42 (Λ2 := La_101) (a := 103) rfl (by decide +kernel) rfl (fun ad F => ?_)
  have K := fx_FrC_inc (a := 1) (b := 5) K
  show fx_J _ _ La_101 1 44 [some (18, 88)] [(10, 103), (18, 88)] (fx_z (fx_zg (fx_zg (fx_z (fx_z h 89) 90) 91) 97) 103)
  refine fx_putF2 (pc := 44) (ty := .array .int) F K 4 10 8 10 rfl kC_X4 (by decide) ⟨_, rfl⟩ rfl rfl (by decide +kernel) (fun _ => ⟨rfl, rfl⟩) wF_X4_26 dX4_init_44 (Λ2 := La_102) rfl (fun F => ?_)
  show fx_J _ _ La_102 1 47 [some (18, 88)] [] (fx_z (fx_zg (fx_zg (fx_z (fx_z h 89) 90) 91) 97) 103)
  refine fx_aload_n (pc := 47) (t := 16) F.1 0 rfl rfl dX4_init_47 ?_
  refine fx_bipush (pc := 48) F.1 ⟨by decide, by decide⟩ (by decide) dX4_init_48 ?_
  refine fx_newarr2 (pc := 50) (atype := .int) (ty := .int) F 8 1 rfl (Or.inr (Or.inl ⟨rfl, rfl, rfl⟩)) ⟨by decide, by decide⟩ wA_int ⟨by decide, by decide⟩ dX4_init_50 (Λ2 := La_103) (a := 104) rfl (by decide +kernel) rfl (fun ad F => ?_)
  have K := fx_FrC_inc (a := 1) (b := 10) K
  show fx_J _ _ La_103 1 52 [some (18, 88)] [(10, 104), (18, 88)] (fx_z (fx_z (fx_zg (fx_zg (fx_z (fx_z h 89) 90) 91) 97) 103) 104)
  refine fx_putF2 (pc := 52) (ty := .array .int) F K 4 11 8 11 rfl kC_X4 (by decide) ⟨_, rfl⟩ rfl rfl (by decide +kernel) (fun _ => ⟨rfl, rfl⟩) wF_X4_29 dX4_init_52 (Λ2 := La_104) rfl (fun F => ?_)
  show fx_J _ _ La_104 1 55 [some (18, 88)] [] (fx_z (fx_z (fx_zg (fx_zg (fx_z (fx_z h 89) 90) 91) 97) 103) 104)
  refine fx_aload_n (pc := 55) (t := 16) F.1 0 rfl rfl dX4_init_55 ?_
  refine fx_bipush (pc := 56) F.1 ⟨by decide, by decide⟩ (by decide) dX4_init_56 ?_
  refine fx_newarr2 (pc := 58) (atype := .int) (ty := .int) F 8 1 rfl (Or.inr (Or.inl ⟨rfl, rfl, rfl⟩)) ⟨by decide, by decide⟩ wA_int ⟨by decide, by decide⟩ dX4_init_58 (Λ2 := La_105) (a := 105) rfl (by decide +kernel) rfl (fun ad F => ?_)
  have K := fx_FrC_inc (a := 1) (b := 10) K
  show fx_J _ _ La_105 1 60 [some (18, 88)] [(10, 105), (18, 88)] (fx_z (fx_z (fx_z (fx_zg (fx_zg (fx_z (fx_z h 89) 90) 91) 97) 103) 104) 105)
  refine fx_putF2 (pc := 60) (ty := .array .int) F K 4 12 8 12 rfl kC_X4 (by decide) ⟨_, rfl⟩ rfl rfl (by decide +kernel) (fun _ => ⟨rfl, rfl⟩) wF_X4_32 dX4_init_60 (Λ2 := La_106) rfl (fun F => ?_)
  show fx_J _ _ La_106 1 63 [some (18, 88)] [] (fx_z (fx_z (fx_z (fx_zg (fx_zg (fx_z (fx_z h 89) 90) 91) 97) 103) 104) 105)
  refine fx_aload_n (pc := 63) (t := 16) F.1 0 rfl rfl dX4_init_63 ?_
  refine fx_bipush (pc := 64) F.1 ⟨by decide, by decide⟩ (by decide) dX4_init_64 ?_
  refine fx_newarr2 (pc := 66) (atype := .int) (ty := .int) F 8 1 rfl (Or.inr (Or.inl ⟨rfl, rfl, rfl⟩)) ⟨by decide, by decide⟩ wA_int ⟨by decide, by decide⟩ dX4_init_66 (Λ2 := La_107) (a := 106) rfl (by decide +kernel) rfl (fun ad F => ?_)
  have K := fx_FrC_inc (a := 1) (b := 10) K
  show fx_J _ _ La_107 1 68 [some (18, 88)] [(10, 106), (18, 88)] (fx_z (fx_z (fx_z (fx_z (fx_zg (fx_zg (fx_z (fx_z h 89) 90) 91) 97) 103) 104) 105) 106)
  refine fx_putF2 (pc := 68) (ty := .array .int) F K 4 13 8 13 rfl kC_X4 (by decide) ⟨_, rfl⟩ rfl rfl (by decide +kernel) (fun _ => ⟨rfl, rfl⟩) wF_X4_35 dX4_init_68 (Λ2 := La_108) rfl (fun F => ?_)
  show fx_J _ _ La_108 1 71 [some (18, 88)] [] (fx_z (fx_z (fx_z (fx_z (fx_zg (fx_zg (fx_z (fx_z h 89) 90) 91) 97) 103) 104) 105) 106)
  refine fx_seal2 (pc := 71) (ls' := [some (6, 88)]) (st' := []) F (a := 88) 16 4 (by decide) ⟨by decide, by decide +kernel, by decide +kernel⟩ (Λ2 := La_109) rfl ⟨fun _ => fx_chk_use (Λ := La_109) (by decide +kernel), fun q => absurd q (by decide)⟩ rfl rfl (fun F => ?_)
  show fx_J _ _ La_109 1 71 [some (6, 88)] [] (fx_z (fx_z (fx_z (fx_z (fx_zg (fx_zg (fx_z (fx_z h 89) 90) 91) 97) 103) 104) 105) 106)
  refine fx_aload_n (pc := 71) (t := 4) F.1 0 rfl rfl dX4_init_71 ?_
  obtain ⟨h1, e2, hf⟩ := fx_bnd hf
  refine fx_cVv (pc := 72) F.1 4 kC_X4 [] 88 [] (m_X4_begin Fu La_109 88 (fx_z (fx_z (fx_z (fx_z (fx_zg (fx_zg (fx_z (fx_z h 89) 90) 91) 97) 103) 104) 105) 106) _ e2) kD_X4_begin kI_X4_begin rfl wM_X4_38 ⟨rfl, rfl⟩ ⟨by decide, by decide⟩ (Nat.le_of_ble_eq_true rfl) rfl dX4_init_72 ?_
  cases hf
  exact fx_vretC (pc := 75) F K dX4_init_75
