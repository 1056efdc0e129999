def La_110 : fx_L := fx_stg La_109 39 0 88
def La_111 : fx_L := fx_push La_110 16 0 (fun _ => -1)
def La_112 : fx_L := fx_push La_111 8 9 (fun _ => -1)
def La_113 : fx_L := fx_stg La_112 107 6 108
def La_114 : fx_L := fx_push La_113 8 5 (fun _ => -1)
def La_115 : fx_L := fx_stg La_114 107 7 109
def La_116 : fx_L := fx_grid La_115 5 5
def La_117 : fx_L := fx_stg La_116 107 8 110
def La_118 : fx_L := fx_grid La_117 5 9
def La_119 : fx_L := fx_stg La_118 107 9 116
def La_120 : fx_L := fx_push La_119 8 5 (fun _ => -1)
def La_121 : fx_L := fx_stg La_120 107 10 122
def La_122 : fx_L := fx_push La_121 8 10 (fun _ => -1)
def La_123 : fx_L := fx_stg La_122 107 11 123
def La_124 : fx_L := fx_push La_123 8 10 (fun _ => -1)
def La_125 : fx_L := fx_stg La_124 107 12 124
def La_126 : fx_L := fx_push La_125 8 10 (fun _ => -1)
def La_127 : fx_L := fx_stg La_126 107 13 125
def La_128 : fx_L := fx_skd La_127 107 4
def fi_X4_init_9 (Fu : Nat) (h : fx_H) : Option fx_H :=
  (f_X4_begin Fu La_128 107 (fx_z (fx_z (fx_z (fx_z (fx_zg (fx_zg (fx_z (fx_z h 108) 109) 110) 116) 122) 123) 124) 125)).bind fun h1 =>
  some h1
abbrev rmi_X4_init_9 : Room := { frames := 3, cells := 18, slots := 129, locals := 66 }
set_option maxRecDepth 100000 in
set_option maxHeartbeats 8000000 in
theorem mi_X4_init_9 (Fu : Nat) (h ho : fx_H) (hf : fi_X4_init_9 Fu h = some ho) : fx_MetC yX4_init cX4_init 1 rmi_X4_init_9 18 129 La_111 [(18, 107)] h La_128 ho := by
  unfold fi_X4_init_9 at hf
  refine fx_enterC (ls := [some (18, 107)]) (by decide) rfl (Nat.le_of_ble_eq_true rfl) rfl (fun M D cy ad ex A F K => ?_)
  refine fx_aload_n (pc := 0) (t := 16) F.1 0 rfl rfl dX4_init_0 ?_
  refine fx_objI (pc := 1) (k := 16) F (by decide) wM_X4_3 wIn_objectInit wCo_objectInit (by decide) (Nat.le_of_ble_eq_true rfl) dX4_init_1 ?_
  refine fx_aload_n (pc := 4) (t := 16) F.1 0 rfl rfl dX4_init_4 ?_
  refine fx_bipush (pc := 5) F.1 ⟨by decide, by decide⟩ (by decide) dX4_init_5 ?_
  refine fx_newarr2 (pc := 7) (atype := .int) (ty := .int) F 8 1 rfl (Or.inr (Or.inl ⟨rfl, rfl, rfl⟩)) ⟨by decide, by decide⟩ wA_int ⟨by decide, by decide⟩ dX4_init_7 (Λ2 := La_112) (a := 108) rfl (by decide +kernel) rfl (fun ad F => ?_)
  have K := fx_FrC_inc (a := 1) (b := 9) K
  show fx_J _ _ La_112 1 9 [some (18, 107)] [(10, 108), (18, 107)] (fx_z h 108)
  refine fx_putF2 (pc := 9) (ty := .array .int) F K 4 6 8 6 rfl kC_X4 (by decide) ⟨_, rfl⟩ rfl rfl (by decide +kernel) (fun _ => ⟨rfl, rfl⟩) wF_X4_9 dX4_init_9 (Λ2 := La_113) rfl (fun F => ?_)
  show fx_J _ _ La_113 1 12 [some (18, 107)] [] (fx_z h 108)
  refine fx_aload_n (pc := 12) (t := 16) F.1 0 rfl rfl dX4_init_12 ?_
  refine fx_iconst (pc := 13) F.1 ⟨by decide, by decide⟩ dX4_init_13 ?_
  refine fx_newarr2 (pc := 14) (atype := .int) (ty := .int) F 8 1 rfl (Or.inr (Or.inl ⟨rfl, rfl, rfl⟩)) ⟨by decide, by decide⟩ wA_int ⟨by decide, by decide⟩ dX4_init_14 (Λ2 := La_114) (a := 109) rfl (by decide +kernel) rfl (fun ad F => ?_)
  have K := fx_FrC_inc (a := 1) (b := 5) K
  show fx_J _ _ La_114 1 16 [some (18, 107)] [(10, 109), (18, 107)] (fx_z (fx_z h 108) 109)
  refine fx_putF2 (pc := 16) (ty := .array .int) F K 4 7 8 7 rfl kC_X4 (by decide) ⟨_, rfl⟩ rfl rfl (by decide +kernel) (fun _ => ⟨rfl, rfl⟩) wF_X4_15 dX4_init_16 (Λ2 := La_115) rfl (fun F => ?_)
  show fx_J _ _ La_115 1 19 [some (18, 107)] [] (fx_z (fx_z h 108) 109)
  refine fx_aload_n (pc := 19) (t := 16) F.1 0 rfl rfl dX4_init_19 ?_
  refine fx_iconst (pc := 20) F.1 ⟨by decide, by decide⟩ dX4_init_20 ?_
  refine fx_iconst (pc := 21) F.1 ⟨by decide, by decide⟩ dX4_init_21 ?_
  refine fx_mna2 (pc := 22) F 5 5 ⟨by decide, by decide⟩ wC_X4_18 wA_int ⟨by decide, by decide⟩ dX4_init_22 (Λ2 := La_116) (a := 110) rfl (by decide +kernel) (fun ad F => ?_)
  have K := fx_FrC_inc (a := (1 + 5)) (b := (5 + 5 * 5)) K
  show fx_J _ _ La_116 1 26 [some (18, 107)] [(13, 110), (18, 107)] (fx_zg (fx_z (fx_z h 108) 109) 110)
  refine fx_putF2 (pc := 26) (ty := .array (.array .int)) F K 4 8 11 8 rfl kC_X4 (by decide) ⟨_, rfl⟩ rfl rfl (by decide +kernel) (fun _ => ⟨rfl, rfl⟩) wF_X4_20 dX4_init_26 (Λ2 := La_117) rfl (fun F => ?_)
  show fx_J _ _ La_117 1 29 [some (18, 107)] [] (fx_zg (fx_z (fx_z h 108) 109) 110)
  refine fx_aload_n (pc := 29) (t := 16) F.1 0 rfl rfl dX4_init_29 ?_
  refine fx_iconst (pc := 30) F.1 ⟨by decide, by decide⟩ dX4_init_30 ?_
  refine fx_bipush (pc := 31) F.1 ⟨by decide, by decide⟩ (by decide) dX4_init_31 ?_
  refine fx_mna2 (pc := 33) F 5 9 ⟨by decide, by decide⟩ wC_X4_18 wA_int ⟨by decide, by decide⟩ dX4_init_33 (Λ2 := La_118) (a := 116) rfl (by decide +kernel) (fun ad F => ?_)
  have K := fx_FrC_inc (a := (1 + 5)) (b := (5 + 5 * 9)) K
  show fx_J _ _ La_118 1 37 [some (18, 107)] [(13, 116), (18, 107)] (fx_zg (fx_zg (fx_z (fx_z h 108) 109) 110) 116)
  refine fx_putF2 (pc := 37) (ty := .array (.array .int)) F K 4 9 11 9 rfl kC_X4 (by decide) ⟨_, rfl⟩ rfl rfl (by decide +kernel) (fun _ => ⟨rfl, rfl⟩) wF_X4_23 dX4_init_37 (Λ2 := La_119) rfl (fun F => ?_)
  show fx_J _ _ La_119 1 40 [some (18, 107)] [] (fx_zg (fx_zg (fx_z (fx_z h 108) 109) 110) 116)
  refine fx_aload_n (pc := 40) (t := 16) F.1 0 rfl rfl dX4_init_40 ?_
  refine fx_iconst (pc := 41) F.1 ⟨by decide, by decide⟩ dX4_init_41 ?_
  refine fx_newarr2 (pc := 42) (atype := .int) (ty := .int) F 8 1 rfl (Or.inr (Or.inl ⟨rfl, rfl, rfl⟩)) ⟨by decide, by decide⟩ wA_int ⟨by decide, by decide⟩ dX4_init_42 (Λ2 := La_120) (a := 122) rfl (by decide +kernel) rfl (fun ad F => ?_)
  have K := fx_FrC_inc (a := 1) (b := 5) K
  show fx_J _ _ La_120 1 44 [some (18, 107)] [(10, 122), (18, 107)] (fx_z (fx_zg (fx_zg (fx_z (fx_z h 108) 109) 110) 116) 122)
  refine fx_putF2 (pc := 44) (ty := .array .int) F K 4 10 8 10 rfl kC_X4 (by decide) ⟨_, rfl⟩ rfl rfl (by decide +kernel) (fun _ => ⟨rfl, rfl⟩) wF_X4_26 dX4_init_44 (Λ2 := La_121) rfl (fun F => ?_)
  show fx_J _ _ La_121 1 47 [some (18, 107)] [] (fx_z (fx_zg (fx_zg (fx_z (fx_z h 108) 109) 110) 116) 122)
  refine fx_aload_n (pc := 47) (t := 16) F.1 0 rfl rfl dX4_init_47 ?_
  refine fx_bipush (pc := 48) F.1 ⟨by decide, by decide⟩ (by decide) dX4_init_48 ?_
  refine fx_newarr2 (pc := 50) (atype := .int) (ty := .int) F 8 1 rfl (Or.inr (Or.inl ⟨rfl, rfl, rfl⟩)) ⟨by decide, by decide⟩ wA_int ⟨by decide, by decide⟩ dX4_init_50 (Λ2 := La_122) (a := 123) rfl (by decide +kernel) rfl (fun ad F => ?_)
  have K := fx_FrC_inc (a := 1) (b := 10) K
  show fx_J _ _ La_122 1 52 [some (18, 107)] [(10, 123), (18, 107)] (fx_z (fx_z (fx_zg (fx_zg (fx_z (fx_z h 108) 109) 110) 116) 122) 123)
  refine fx_putF2 (pc := 52) (ty := .array .int) F K 4 11 8 11 rfl kC_X4 (by decide) ⟨_, rfl⟩ rfl rfl (by decide +kernel) (fun _ => ⟨rfl, rfl⟩) wF_X4_29 dX4_init_52 (Λ2 := La_123) rfl (fun F => ?_)
  show fx_J _ _ La_123 1 55 [some (18, 107)] [] (fx_z (fx_z (fx_zg (fx_zg (fx_z (fx_z h 108) 109) 110) 116) 122) 123)
  refine fx_aload_n (pc := 55) (t := 16) F.1 0 rfl rfl dX4_init_55 ?_
  refine fx_bipush (pc := 56) F.1 ⟨by decide, by decide⟩ (by decide) dX4_init_56 ?_
  refine fx_newarr2 (pc := 58) (atype := .int) (ty := .int) F 8 1 rfl (Or.inr (Or.inl ⟨rfl, rfl, rfl⟩)) ⟨by decide, by decide⟩ wA_int ⟨by decide, by decide⟩ dX4_init_58 (Λ2 := La_124) (a := 124) rfl (by decide +kernel) rfl (fun ad F => ?_)
  have K := fx_FrC_inc (a := 1) (b := 10) K
  show fx_J _ _ La_124 1 60 [some (18, 107)] [(10, 124), (18, 107)] (fx_z (fx_z (fx_z (fx_zg (fx_zg (fx_z (fx_z h 108) 109) 110) 116) 122) 123) 124)
  refine fx_putF2 (pc := 60) (ty := .array .int) F K 4 12 8 12 rfl kC_X4 (by decide) ⟨_, rfl⟩ rfl rfl (by decide +kernel) (fun _ => ⟨rfl, rfl⟩) wF_X4_32 dX4_init_60 (Λ2 := La_125) rfl (fun F => ?_)
  show fx_J _ _ La_125 1 63 [some (18, 107)] [] (fx_z (fx_z (fx_z (fx_zg (fx_zg (fx_z (fx_z h 108) 109) 110) 116) 122) 123) 124)
  refine fx_aload_n (pc := 63) (t := 16) F.1 0 rfl rfl dX4_init_63 ?_
  refine fx_bipush (pc := 64) F.1 ⟨by decide, by decide⟩ (by decide) dX4_init_64 ?_
  refine fx_newarr2 (pc := 66) (atype := .int) (ty := .int) F 8 1 rfl (Or.inr (Or.inl ⟨rfl, rfl, rfl⟩)) ⟨by decide, by decide⟩ wA_int ⟨by decide, by decide⟩ dX4_init_66 (Λ2 := La_126) (a := 125) rfl (by decide +kernel) rfl (fun ad F => ?_)
  have K := fx_FrC_inc (a := 1) (b := 10) K
  show fx_J _ _ La_126 1 68 [some (18, 107)] [(10, 125), (18, 107)] (fx_z (fx_z (fx_z (fx_z (fx_zg (fx_zg (fx_z (fx_z h 108) 109) 110) 116) 122) 123) 124) 125)
  refine fx_putF2 (pc := 68) (ty := .array .int) F K 4 13 8 13 rfl kC_X4 (by decide) ⟨_, rfl⟩ rfl rfl (by decide +kernel) (fun _ => ⟨rfl, rfl⟩) wF_X4_35 dX4_init_68 (Λ2 := La_127) rfl (fun F => ?_)
  show fx_J _ _ La_127 1 71 [some (18, 107)] [] (fx_z (fx_z (fx_z (fx_z (fx_zg (fx_zg (fx_z (fx_z h 108) 109) 110) 116) 122) 123) 124) 125)
  refine fx_seal2 (pc := 71) (ls' := [some (6, 107)]) (st' := []) F (a := 107) 16 4 (by decide) ⟨by decide, by decide +kernel, by decide +kernel⟩ (Λ2 := La_128) rfl ⟨fun _ => fx_chk_use (Λ := La_128) (by decide +kernel), fun q => absurd q (by decide)⟩ rfl rfl (fun F => ?_)
  show fx_J _ _ La_128 1 71 [some (6, 107)] [] (fx_z (fx_z (fx_z (fx_z (fx_zg (fx_zg (fx_z (fx_z h 108) 109) 110) 116) 122) 123) 124) 125)
  refine fx_aload_n (pc := 71) (t := 4) F.1 0 rfl rfl dX4_init_71 ?_
  obtain ⟨h1, e2, hf⟩ := fx_bnd hf
  refine fx_cVv (pc := 72) F.1 4 kC_X4 [] 107 [] (m_X4_begin Fu La_128 107 (fx_z (fx_z (fx_z (fx_z (fx_zg (fx_zg (fx_z (fx_z h 108) 109) 110) 116) 122) 123) 124) 125) _ e2) kD_X4_begin kI_X4_begin rfl wM_X4_38 ⟨rfl, rfl⟩ ⟨by decide, by decide⟩ (Nat.le_of_ble_eq_true rfl) rfl dX4_init_72 ?_
  cases hf
  exact fx_vretC (pc := 75) F K dX4_init_75
