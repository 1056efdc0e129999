def La_20 : fx_L := fx_stg La_19 0 0 1
def La_21 : fx_L := fx_push La_20 16 0 (fun _ => -1)
def La_22 : fx_L := fx_push La_21 8 9 (fun _ => -1)
def La_23 : fx_L := fx_stg La_22 20 6 21
def La_24 : fx_L := fx_push La_23 8 5 (fun _ => -1)
def La_25 : fx_L := fx_stg La_24 20 7 22
def La_26 : fx_L := fx_grid La_25 5 5
def La_27 : fx_L := fx_stg La_26 20 8 23
def La_28 : fx_L := fx_grid La_27 5 9
def La_29 : fx_L := fx_stg La_28 20 9 29
def La_30 : fx_L := fx_push La_29 8 5 (fun _ => -1)
def La_31 : fx_L := fx_stg La_30 20 10 35
def La_32 : fx_L := fx_push La_31 8 10 (fun _ => -1)
def La_33 : fx_L := fx_stg La_32 20 11 36
def La_34 : fx_L := fx_push La_33 8 10 (fun _ => -1)
def La_35 : fx_L := fx_stg La_34 20 12 37
def La_36 : fx_L := fx_push La_35 8 10 (fun _ => -1)
def La_37 : fx_L := fx_stg La_36 20 13 38
def La_38 : fx_L := fx_skd La_37 20 4
def fi_X4_init_3 (Fu : Nat) (h : fx_H) : Option fx_H :=
  (f_X4_begin Fu La_38 20 (fx_z (fx_z (fx_z (fx_z (fx_zg (fx_zg (fx_z (fx_z h 21) 22) 23) 29) 35) 36) 37) 38)).bind fun h1 =>
  some h1
abbrev rmi_X4_init_3 : Room := { frames := 3, cells := 18, slots := 129, locals := 66 }
set_option maxRecDepth 100000 in
set_option maxHeartbeats 8000000 in
theorem mi_X4_init_3 (Fu : Nat) (h ho : fx_H) (hf : fi_X4_init_3 Fu h = some ho) : fx_MetC yX4_init cX4_init 1 rmi_X4_init_3 18 129 La_21 [(18, 20)] h La_38 ho := by
  unfold fi_X4_init_3 at hf
  refine fx_enterC (ls := [some (18, 20)]) (by decide) rfl (Nat.le_of_ble_eq_true rfl) rfl (fun M D cy ad ex A F K => ?_)
  refine fx_aload_n (pc := 0) (t := 16) F.1 0 rfl rfl dX4_init_0 ?_
  refine fx_objI (pc := 1) (k := 16) F (by decide) wM_X4_3 wIn_objectInit wCo_objectInit (by decide) (Nat.le_of_ble_eq_true rfl) dX4_init_1 ?_
  refine fx_aload_n (pc := 4) (t := 16) F.1 0 rfl rfl dX4_init_4 ?_
  refine fx_bipush (pc := 5) F.1 ⟨by decide, by decide⟩ (by decide) dX4_init_5 ?_
  refine fx_newarr2 (pc := 7) (atype := .int) (ty := .int) F 8 1 rfl (Or.inr (Or.inl ⟨rfl, rfl, rfl⟩)) ⟨by decide, by decide⟩ wA_int ⟨by decide, by decide⟩ dX4_init_7 (Λ2 := La_22) (a := 21) rfl (by decide +kernel) rfl (fun ad F => ?_)
  have K := fx_FrC_inc (a := 1) (b := 9) K
  show fx_J _ _ La_22 1 9 [some (18, 20)] [(10, 21), (18, 20)] (fx_z h 21)
  refine fx_putF2 (pc := 9) (ty := .array .int) F K 4 6 8 6 rfl kC_X4 (by decide) ⟨_, rfl⟩ rfl rfl (by decide +kernel) (fun _ => ⟨rfl, rfl⟩) wF_X4_9 dX4_init_9 (Λ2 := La_23) rfl (fun F => ?_)
  show fx_J _ _ La_23 1 12 [some (18, 20)] [] (fx_z h 21)
  refine fx_aload_n (pc := 12) (t := 16) F.1 0 rfl rfl dX4_init_12 ?_
  refine fx_iconst (pc := 13) F.1 ⟨by decide, by decide⟩ dX4_init_13 ?_
  refine fx_newarr2 (pc := 14) (atype := .int) (ty := .int) F 8 1 rfl (Or.inr (Or.inl ⟨rfl, rfl, rfl⟩)) ⟨by decide, by decide⟩ wA_int ⟨by decide, by decide⟩ dX4_init_14 (Λ2 := La_24) (a := 22) rfl (by decide +kernel) rfl (fun ad F => ?_)
  have K := fx_FrC_inc (a := 1) (b := 5) K
  show fx_J _ _ La_24 1 16 [some (18, 20)] [(10, 22), (18, 20)] (fx_z (fx_z h 21) 22)
  refine fx_putF2 (pc := 16) (ty := .array .int) F K 4 7 8 7 rfl kC_X4 (by decide) ⟨_, rfl⟩ rfl rfl (by decide +kernel) (fun _ => ⟨rfl, rfl⟩) wF_X4_15 dX4_init_16 (Λ2 := La_25) rfl (fun F => ?_)
  show fx_J _ _ La_25 1 19 [some (18, 20)] [] (fx_z (fx_z h 21) 22)
  refine fx_aload_n (pc := 19) (t := 16) F.1 0 rfl rfl dX4_init_19 ?_
  refine fx_iconst (pc := 20) F.1 ⟨by decide, by decide⟩ dX4_init_20 ?_
  refine fx_iconst (pc := 21) F.1 ⟨by decide, by decide⟩ dX4_init_21 ?_
  refine fx_mna2 (pc := 22) F 5 5 ⟨by decide, by decide⟩ wC_X4_18 wA_int ⟨by decide, by decide⟩ dX4_init_22 (Λ2 := La_26) (a := 23) rfl (by decide +kernel) (fun ad F => ?_)
  have K := fx_FrC_inc (a := (1 + 5)) (b := (5 + 5 * 5)) K
  show fx_J _ _ La_26 1 26 [some (18, 20)] [(13, 23), (18, 20)] (fx_zg (fx_z (fx_z h 21) 22) 23)
  refine fx_putF2 (pc := 26) (ty := .array (.array .int)) F K 4 8 11 8 rfl kC_X4 (by decide) ⟨_, rfl⟩ rfl rfl (by decide +kernel) (fun _ => ⟨rfl, rfl⟩) wF_X4_20 dX4_init_26 (Λ2 := La_27) rfl (fun F => ?_)
  show fx_J _ _ La_27 1 29 [some (18, 20)] [] (fx_zg (fx_z (fx_z h 21) 22) 23)
  refine fx_aload_n (pc := 29) (t := 16) F.1 0 rfl rfl dX4_init_29 ?_
  refine fx_iconst (pc := 30) F.1 ⟨by decide, by decide⟩ dX4_init_30 ?_
  refine fx_bipush (pc := 31) F.1 ⟨by decide, by decide⟩ (by decide) dX4_init_31 ?_
  refine fx_mna2 (pc := 33) F 5 9 ⟨by decide, by decide⟩ wC_X4_18 wA_int ⟨by decide, by decide⟩ dX4_init_33 (Λ2 := La_28) (a := 29) rfl (by decide +kernel) (fun ad F => ?_)
  have K := fx_FrC_inc (a := (1 + 5)) (b := (5 + 5 * 9)) K
  show fx_J _ _ La_28 1 37 [some (18, 20)] [(13, 29), (18, 20)] (fx_zg (fx_zg (fx_z (fx_z h 21) 22) 23) 29)
  refine fx_putF2 (pc := 37) (ty := .array (.array .int)) F K 4 9 11 9 rfl kC_X4 (by decide) ⟨_, rfl⟩ rfl rfl (by decide +kernel) (fun _ => ⟨rfl, rfl⟩) wF_X4_23 dX4_init_37 (Λ2 := La_29) rfl (fun F => ?_)
  show fx_J _ _ La_29 1 40 [some (18, 20)] [] (fx_zg (fx_zg (fx_z (fx_z h 21) 22) 23) 29)
  refine fx_aload_n (pc := 40) (t := 16) F.1 0 rfl rfl dX4_init_40 ?_
  refine fx_iconst (pc := 41) F.1 ⟨by decide, by decide⟩ dX4_init_41 ?_
  refine fx_newarr2 (pc := 42) (atype := .int) (ty := .int) F 8 1 rfl (Or.inr (Or.inl ⟨rfl, rfl, rfl⟩)) ⟨by decide, by decide⟩ wA_int ⟨by decide, by decide⟩ dX4_init_42 (Λ2 := La_30) (a := 35) rfl (by decide +kernel) rfl (fun ad F => ?_)
  have K := fx_FrC_inc (a := 1) (b := 5) K
  show fx_J _ _ La_30 1 44 [some (18, 20)] [(10, 35), (18, 20)] (fx_z (fx_zg (fx_zg (fx_z (fx_z h 21) 22) 23) 29) 35)
  refine fx_putF2 (pc := 44) (ty := .array .int) F K 4 10 8 10 rfl kC_X4 (by decide) ⟨_, rfl⟩ rfl rfl (by decide +kernel) (fun _ => ⟨rfl, rfl⟩) wF_X4_26 dX4_init_44 (Λ2 := La_31) rfl (fun F => ?_)
  show fx_J _ _ La_31 1 47 [some (18, 20)] [] (fx_z (fx_zg (fx_zg (fx_z (fx_z h 21) 22) 23) 29) 35)
  refine fx_aload_n (pc := 47) (t := 16) F.1 0 rfl rfl dX4_init_47 ?_
  refine fx_bipush (pc := 48) F.1 ⟨by decide, by decide⟩ (by decide) dX4_init_48 ?_
  refine fx_newarr2 (pc := 50) (atype := .int) (ty := .int) F 8 1 rfl (Or.inr (Or.inl ⟨rfl, rfl, rfl⟩)) ⟨by decide, by decide⟩ wA_int ⟨by decide, by decide⟩ dX4_init_50 (Λ2 := La_32) (a := 36) rfl (by decide +kernel) rfl (fun ad F => ?_)
  have K := fx_FrC_inc (a := 1) (b := 10) K
  show fx_J _ _ La_32 1 52 [some (18, 20)] [(10, 36), (18, 20)] (fx_z (fx_z (fx_zg (fx_zg (fx_z (fx_z h 21) 22) 23) 29) 35) 36)
  refine fx_putF2 (pc := 52) (ty := .array .int) F K 4 11 8 11 rfl kC_X4 (by decide) ⟨_, rfl⟩ rfl rfl (by decide +kernel) (fun _ => ⟨rfl, rfl⟩) wF_X4_29 dX4_init_52 (Λ2 := La_33) rfl (fun F => ?_)
  show fx_J _ _ La_33 1 55 [some (18, 20)] [] (fx_z (fx_z (fx_zg (fx_zg (fx_z (fx_z h 21) 22) 23) 29) 35) 36)
  refine fx_aload_n (pc := 55) (t := 16) F.1 0 rfl rfl dX4_init_55 ?_
  refine fx_bipush (pc := 56) F.1 ⟨by decide, by decide⟩ (by decide) dX4_init_56 ?_
  refine fx_newarr2 (pc := 58) (atype := .int) (ty := .int) F 8 1 rfl (Or.inr (Or.inl ⟨rfl, rfl, rfl⟩)) ⟨by decide, by decide⟩ wA_int ⟨by decide, by decide⟩ dX4_init_58 (Λ2 := La_34) (a := 37) rfl (by decide +kernel) rfl (fun ad F => ?_)
  have K := fx_FrC_inc (a := 1) (b := 10) K
  show fx_J _ _ La_34 1 60 [some (18, 20)] [(10, 37), (18, 20)] (fx_z (fx_z (fx_z (fx_zg (fx_zg (fx_z (fx_z h 21) 22) 23) 29) 35) 36) 37)
  refine fx_putF2 (pc := 60) (ty := .array .int) F K 4 12 8 12 rfl kC_X4 (by decide) ⟨_, rfl⟩ rfl rfl (by decide +kernel) (fun _ => ⟨rfl, rfl⟩) wF_X4_32 dX4_init_60 (Λ2 := La_35) rfl (fun F => ?_)
  show fx_J _ _ La_35 1 63 [some (18, 20)] [] (fx_z (fx_z (fx_z (fx_zg (fx_zg (fx_z (fx_z h 21) 22) 23) 29) 35) 36) 37)
  refine fx_aload_n (pc := 63) (t := 16) F.1 0 rfl rfl dX4_init_63 ?_
  refine fx_bipush (pc := 64) F.1 ⟨by decide, by decide⟩ (by decide) dX4_init_64 ?_
  refine fx_newarr2 (pc := 66) (atype := .int) (ty := .int) F 8 1 rfl (Or.inr (Or.inl ⟨rfl, rfl, rfl⟩)) ⟨by decide, by decide⟩ wA_int ⟨by decide, by decide⟩ dX4_init_66 (Λ2 := La_36) (a := 38) rfl (by decide +kernel) rfl (fun ad F => ?_)
  have K := fx_FrC_inc (a := 1) (b := 10) K
  show fx_J _ _ La_36 1 68 [some (18, 20)] [(10, 38), (18, 20)] (fx_z (fx_z (fx_z (fx_z (fx_zg (fx_zg (fx_z (fx_z h 21) 22) 23) 29) 35) 36) 37) 38)
  refine fx_putF2 (pc := 68) (ty := .array .int) F K 4 13 8 13 rfl kC_X4 (by decide) ⟨_, rfl⟩ rfl rfl (by decide +kernel) (fun _ => ⟨rfl, rfl⟩) wF_X4_35 dX4_init_68 (Λ2 := La_37) rfl (fun F => ?_)
  show fx_J _ _ La_37 1 71 [some (18, 20)] [] (fx_z (fx_z (fx_z (fx_z (fx_zg (fx_zg (fx_z (fx_z h 21) 22) 23) 29) 35) 36) 37) 38)
  refine fx_seal2 (pc := 71) (ls' := [some (6, 20)]) (st' := []) F (a := 20) 16 4 (by decide) ⟨by decide, by decide +kernel, by decide +kernel⟩ (Λ2 := La_38) rfl ⟨fun _ => fx_chk_use (Λ := La_38) (by decide +kernel), fun q => absurd q (by decide)⟩ rfl rfl (fun F => ?_)
  show fx_J _ _ La_38 1 71 [some (6, 20)] [] (fx_z (fx_z (fx_z (fx_z (fx_zg (fx_zg (fx_z (fx_z h 21) 22) 23) 29) 35) 36) 37) 38)
  refine fx_aload_n (pc := 71) (t := 4) F.1 0 rfl rfl dX4_init_71 ?_
  obtain ⟨h1, e2, hf⟩ := fx_bnd hf
  refine fx_cVv (pc := 72) F.1 4 kC_X4 [] 20 [] (m_X4_begin Fu La_38 20 (fx_z (fx_z (fx_z (fx_z (fx_zg (fx_zg (fx_z (fx_z h 21) 22) 23) 29) 35) 36) 37) 38) _ e2) kD_X4_begin kI_X4_begin rfl wM_X4_38 ⟨rfl, rfl⟩ ⟨by decide, by decide⟩ (Nat.le_of_ble_eq_true rfl) rfl dX4_init_72 ?_
  cases hf
  exact fx_vretC (pc := 75) F K dX4_init_75
