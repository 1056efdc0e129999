def La_48 : fx_L := fx_stg La_47 0 4 41
def La_49 : fx_L := fx_push La_48 12 0 (fun _ => -1)
def La_50 : fx_L := fx_push La_49 8 10 (fun _ => -1)
def La_51 : fx_L := fx_stg La_50 43 0 44
def La_52 : fx_L := fx_push La_51 8 9 (fun _ => -1)
def La_53 : fx_L := fx_stg La_52 43 1 45
def La_54 : fx_L := fx_push La_53 8 5 (fun _ => -1)
def La_55 : fx_L := fx_stg La_54 43 2 46
def La_56 : fx_L := fx_push La_55 8 5 (fun _ => -1)
def La_57 : fx_L := fx_stg La_56 43 3 47
def La_58 : fx_L := fx_skd La_57 43 0
def fi_X0_init_5 (Fu : Nat) (h : fx_H) : Option fx_H :=
  (f_J7_fill_53178 Fu La_58 46 9 (fx_z (fx_z (fx_z (fx_z h 44) 45) 46) 47)).bind fun h1 =>
  some h1
abbrev rmi_X0_init_5 : Room := { frames := 1, cells := 4, slots := 29, locals := 23 }
set_option maxRecDepth 100000 in
set_option maxHeartbeats 8000000 in
theorem mi_X0_init_5 (Fu : Nat) (h ho : fx_H) (hf : fi_X0_init_5 Fu h = some ho) : fx_MetC yX0_init cX0_init 1 rmi_X0_init_5 4 29 La_49 [(14, 43)] h La_58 ho := by
  unfold fi_X0_init_5 at hf
  refine fx_enterC (ls := [some (14, 43)]) (by decide) rfl (Nat.le_of_ble_eq_true rfl) rfl (fun M D cy ad ex A F K => ?_)
  refine fx_aload_n (pc := 0) (t := 12) F.1 0 rfl rfl dX0_init_0 ?_
  refine fx_objI (pc := 1) (k := 12) F (by decide) wM_X0_3 wIn_objectInit wCo_objectInit (by decide) (Nat.le_of_ble_eq_true rfl) dX0_init_1 ?_
  refine fx_aload_n (pc := 4) (t := 12) F.1 0 rfl rfl dX0_init_4 ?_
  refine fx_bipush (pc := 5) F.1 ⟨by decide, by decide⟩ (by decide) dX0_init_5 ?_
  refine fx_newarr2 (pc := 7) (atype := .int) (ty := .int) F 8 1 rfl (Or.inr (Or.inl ⟨rfl, rfl, rfl⟩)) ⟨by decide, by decide⟩ wA_int ⟨by decide, by decide⟩ dX0_init_7 (Λ2 := La_50) (a := 44) rfl (by decide +kernel) rfl (fun ad F => ?_)
  have K := fx_FrC_inc (a := 1) (b := 10) K
  show fx_J _ _ La_50 1 9 [some (14, 43)] [(10, 44), (14, 43)] (fx_z h 44)
  refine fx_putF2 (pc := 9) (ty := .array .int) F K 0 0 8 0 rfl kC_X0 (by decide) ⟨_, rfl⟩ rfl rfl (by decide +kernel) (fun _ => ⟨rfl, rfl⟩) wF_X0_9 dX0_init_9 (Λ2 := La_51) rfl (fun F => ?_)
  show fx_J _ _ La_51 1 12 [some (14, 43)] [] (fx_z h 44)
  refine fx_aload_n (pc := 12) (t := 12) F.1 0 rfl rfl dX0_init_12 ?_
  refine fx_bipush (pc := 13) F.1 ⟨by decide, by decide⟩ (by decide) dX0_init_13 ?_
  refine fx_newarr2 (pc := 15) (atype := .int) (ty := .int) F 8 1 rfl (Or.inr (Or.inl ⟨rfl, rfl, rfl⟩)) ⟨by decide, by decide⟩ wA_int ⟨by decide, by decide⟩ dX0_init_15 (Λ2 := La_52) (a := 45) rfl (by decide +kernel) rfl (fun ad F => ?_)
  have K := fx_FrC_inc (a := 1) (b := 9) K
  show fx_J _ _ La_52 1 17 [some (14, 43)] [(10, 45), (14, 43)] (fx_z (fx_z h 44) 45)
  refine fx_putF2 (pc := 17) (ty := .array .int) F K 0 1 8 1 rfl kC_X0 (by decide) ⟨_, rfl⟩ rfl rfl (by decide +kernel) (fun _ => ⟨rfl, rfl⟩) wF_X0_15 dX0_init_17 (Λ2 := La_53) rfl (fun F => ?_)
  show fx_J _ _ La_53 1 20 [some (14, 43)] [] (fx_z (fx_z h 44) 45)
  refine fx_aload_n (pc := 20) (t := 12) F.1 0 rfl rfl dX0_init_20 ?_
  refine fx_iconst (pc := 21) F.1 ⟨by decide, by decide⟩ dX0_init_21 ?_
  refine fx_newarr2 (pc := 22) (atype := .int) (ty := .int) F 8 1 rfl (Or.inr (Or.inl ⟨rfl, rfl, rfl⟩)) ⟨by decide, by decide⟩ wA_int ⟨by decide, by decide⟩ dX0_init_22 (Λ2 := La_54) (a := 46) rfl (by decide +kernel) rfl (fun ad F => ?_)
  have K := fx_FrC_inc (a := 1) (b := 5) K
  show fx_J _ _ La_54 1 24 [some (14, 43)] [(10, 46), (14, 43)] (fx_z (fx_z (fx_z h 44) 45) 46)
  refine fx_putF2 (pc := 24) (ty := .array .int) F K 0 2 8 2 rfl kC_X0 (by decide) ⟨_, rfl⟩ rfl rfl (by decide +kernel) (fun _ => ⟨rfl, rfl⟩) wF_X0_18 dX0_init_24 (Λ2 := La_55) rfl (fun F => ?_)
  show fx_J _ _ La_55 1 27 [some (14, 43)] [] (fx_z (fx_z (fx_z h 44) 45) 46)
  refine fx_aload_n (pc := 27) (t := 12) F.1 0 rfl rfl dX0_init_27 ?_
  refine fx_iconst (pc := 28) F.1 ⟨by decide, by decide⟩ dX0_init_28 ?_
  refine fx_newarr2 (pc := 29) (atype := .int) (ty := .int) F 8 1 rfl (Or.inr (Or.inl ⟨rfl, rfl, rfl⟩)) ⟨by decide, by decide⟩ wA_int ⟨by decide, by decide⟩ dX0_init_29 (Λ2 := La_56) (a := 47) rfl (by decide +kernel) rfl (fun ad F => ?_)
  have K := fx_FrC_inc (a := 1) (b := 5) K
  show fx_J _ _ La_56 1 31 [some (14, 43)] [(10, 47), (14, 43)] (fx_z (fx_z (fx_z (fx_z h 44) 45) 46) 47)
  refine fx_putF2 (pc := 31) (ty := .array .int) F K 0 3 8 3 rfl kC_X0 (by decide) ⟨_, rfl⟩ rfl rfl (by decide +kernel) (fun _ => ⟨rfl, rfl⟩) wF_X0_21 dX0_init_31 (Λ2 := La_57) rfl (fun F => ?_)
  show fx_J _ _ La_57 1 34 [some (14, 43)] [] (fx_z (fx_z (fx_z (fx_z h 44) 45) 46) 47)
  refine fx_seal2 (pc := 34) (ls' := [some (2, 43)]) (st' := []) F (a := 43) 12 0 (by decide) ⟨by decide, by decide +kernel, by decide +kernel⟩ (Λ2 := La_58) rfl ⟨fun _ => fx_chk_use (Λ := La_58) (by decide +kernel), fun q => absurd q (by decide)⟩ rfl rfl (fun F => ?_)
  show fx_J _ _ La_58 1 34 [some (2, 43)] [] (fx_z (fx_z (fx_z (fx_z h 44) 45) 46) 47)
  refine fx_aload_n (pc := 34) (t := 0) F.1 0 rfl rfl dX0_init_34 ?_
  refine fx_gR (pc := 35) F.1 0 2 2 8 rfl kC_X0 (by decide) rfl wF_X0_18 dX0_init_35 ?_
  refine fx_top (X := fx_X) (show fx_tg La_58 43 2 = 46 by decide +kernel) ?_
  refine fx_bipush (pc := 38) F.1 ⟨by decide, by decide⟩ (by decide) dX0_init_38 ?_
  obtain ⟨h1, e2, hf⟩ := fx_bnd hf
  refine fx_cSv (pc := 40) F.1 [(10, 46), (0, 9)] [] (m_J7_fill_53178 Fu La_58 46 9 (fx_z (fx_z (fx_z (fx_z h 44) 45) 46) 47) _ e2) kD_J7_fill_53178 wSt_J7_fill_53178 wM_X0_24 ⟨rfl, rfl⟩ ⟨by decide, by decide⟩ (Nat.le_of_ble_eq_true rfl) rfl dX0_init_40 ?_
  cases hf
  exact fx_vretC (pc := 43) F K dX0_init_43
