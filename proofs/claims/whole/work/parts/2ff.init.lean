def La_82 : fx_L := fx_stg La_81 0 6 48
def La_83 : fx_L := fx_push La_82 14 0 (fun _ => -1)
def La_84 : fx_L := fx_push La_83 8 5 (fun _ => -1)
def La_85 : fx_L := fx_stg La_84 84 1 85
def La_86 : fx_L := fx_push La_85 8 5 (fun _ => -1)
def La_87 : fx_L := fx_stg La_86 84 2 86
def La_88 : fx_L := fx_push La_87 8 5 (fun _ => -1)
def La_89 : fx_L := fx_stg La_88 84 3 87
def La_90 : fx_L := fx_skd La_89 84 2
def fi_X2_init_7 (Fu : Nat) (h : fx_H) : Option fx_H :=
  some (fx_up (fx_z (fx_z (fx_z h 85) 86) 87) 84 4 (-1))
abbrev rmi_X2_init_7 : Room := { frames := 1, cells := 3, slots := 15, locals := 20 }
set_option maxRecDepth 100000 in
set_option maxHeartbeats 8000000 in
theorem mi_X2_init_7 (Fu : Nat) (h ho : fx_H) (hf : fi_X2_init_7 Fu h = some ho) : fx_MetC yX2_init cX2_init 1 rmi_X2_init_7 3 15 La_83 [(16, 84)] h La_90 ho := by
  unfold fi_X2_init_7 at hf
  refine fx_enterC (ls := [some (16, 84)]) (by decide) rfl (Nat.le_of_ble_eq_true rfl) rfl (fun M D cy ad ex A F K => ?_)
  refine fx_aload_n (pc := 0) (t := 14) F.1 0 rfl rfl dX2_init_0 ?_
  refine fx_objI (pc := 1) (k := 14) F (by decide) wM_X2_3 wIn_objectInit wCo_objectInit (by decide) (Nat.le_of_ble_eq_true rfl) dX2_init_1 ?_
  refine fx_aload_n (pc := 4) (t := 14) F.1 0 rfl rfl dX2_init_4 ?_
  refine fx_iconst (pc := 5) F.1 ⟨by decide, by decide⟩ dX2_init_5 ?_
  refine fx_newarr2 (pc := 6) (atype := .int) (ty := .int) F 8 1 rfl (Or.inr (Or.inl ⟨rfl, rfl, rfl⟩)) ⟨by decide, by decide⟩ wA_int ⟨by decide, by decide⟩ dX2_init_6 (Λ2 := La_84) (a := 85) rfl (by decide +kernel) rfl (fun ad F => ?_)
  have K := fx_FrC_inc (a := 1) (b := 5) K
  show fx_J _ _ La_84 1 8 [some (16, 84)] [(10, 85), (16, 84)] (fx_z h 85)
  refine fx_putF2 (pc := 8) (ty := .array .int) F K 2 1 8 1 rfl kC_X2 (by decide) ⟨_, rfl⟩ rfl rfl (by decide +kernel) (fun _ => ⟨rfl, rfl⟩) wF_X2_9 dX2_init_8 (Λ2 := La_85) rfl (fun F => ?_)
  show fx_J _ _ La_85 1 11 [some (16, 84)] [] (fx_z h 85)
  refine fx_aload_n (pc := 11) (t := 14) F.1 0 rfl rfl dX2_init_11 ?_
  refine fx_iconst (pc := 12) F.1 ⟨by decide, by decide⟩ dX2_init_12 ?_
  refine fx_newarr2 (pc := 13) (atype := .int) (ty := .int) F 8 1 rfl (Or.inr (Or.inl ⟨rfl, rfl, rfl⟩)) ⟨by decide, by decide⟩ wA_int ⟨by decide, by decide⟩ dX2_init_13 (Λ2 := La_86) (a := 86) rfl (by decide +kernel) rfl (fun ad F => ?_)
  have K := fx_FrC_inc (a := 1) (b := 5) K
  show fx_J _ _ La_86 1 15 [some (16, 84)] [(10, 86), (16, 84)] (fx_z (fx_z h 85) 86)
  refine fx_putF2 (pc := 15) (ty := .array .int) F K 2 2 8 2 rfl kC_X2 (by decide) ⟨_, rfl⟩ rfl rfl (by decide +kernel) (fun _ => ⟨rfl, rfl⟩) wF_X2_15 dX2_init_15 (Λ2 := La_87) rfl (fun F => ?_)
  show fx_J _ _ La_87 1 18 [some (16, 84)] [] (fx_z (fx_z h 85) 86)
  refine fx_aload_n (pc := 18) (t := 14) F.1 0 rfl rfl dX2_init_18 ?_
  refine fx_iconst (pc := 19) F.1 ⟨by decide, by decide⟩ dX2_init_19 ?_
  refine fx_newarr2 (pc := 20) (atype := .int) (ty := .int) F 8 1 rfl (Or.inr (Or.inl ⟨rfl, rfl, rfl⟩)) ⟨by decide, by decide⟩ wA_int ⟨by decide, by decide⟩ dX2_init_20 (Λ2 := La_88) (a := 87) rfl (by decide +kernel) rfl (fun ad F => ?_)
  have K := fx_FrC_inc (a := 1) (b := 5) K
  show fx_J _ _ La_88 1 22 [some (16, 84)] [(10, 87), (16, 84)] (fx_z (fx_z (fx_z h 85) 86) 87)
  refine fx_putF2 (pc := 22) (ty := .array .int) F K 2 3 8 3 rfl kC_X2 (by decide) ⟨_, rfl⟩ rfl rfl (by decide +kernel) (fun _ => ⟨rfl, rfl⟩) wF_X2_18 dX2_init_22 (Λ2 := La_89) rfl (fun F => ?_)
  show fx_J _ _ La_89 1 25 [some (16, 84)] [] (fx_z (fx_z (fx_z h 85) 86) 87)
  refine fx_seal2 (pc := 25) (ls' := [some (4, 84)]) (st' := []) F (a := 84) 14 2 (by decide) ⟨by decide, by decide +kernel, by decide +kernel⟩ (Λ2 := La_90) rfl ⟨fun _ => fx_chk_use (Λ := La_90) (by decide +kernel), fun q => absurd q (by decide)⟩ rfl rfl (fun F => ?_)
  show fx_J _ _ La_90 1 25 [some (4, 84)] [] (fx_z (fx_z (fx_z h 85) 86) 87)
  refine fx_aload_n (pc := 25) (t := 2) F.1 0 rfl rfl dX2_init_25 ?_
  refine fx_iconst (pc := 26) F.1 ⟨by decide, by decide⟩ dX2_init_26 ?_
  refine fx_pI (pc := 27) F.1 2 4 4 rfl kC_X2 rfl rfl (by decide +kernel) wF_X2_21 dX2_init_27 ?_
  cases hf
  exact fx_vretC (pc := 30) F K dX2_init_30
