def La_39 : fx_L := fx_stg La_38 0 1 20
def La_40 : fx_L := fx_push La_39 22 2 (fun _ => -1)
def La_41 : fx_L := fx_stg La_40 0 2 39
def La_42 : fx_L := fx_push La_41 9 2 (fun _ => -1)
def La_43 : fx_L := fx_stg La_42 0 3 40
def La_44 : fx_L := fx_push La_43 15 0 (fun _ => -1)
def La_45 : fx_L := fx_push La_44 7 250 (fun _ => -1)
def La_46 : fx_L := fx_stg La_45 41 0 42
def La_47 : fx_L := fx_skd La_46 41 3
def fi_X3_init_4 (Fu : Nat) (h : fx_H) : Option fx_H :=
  some (fx_z h 42)
abbrev rmi_X3_init_4 : Room := { frames := 1, cells := 1, slots := 250, locals := 20 }
set_option maxRecDepth 100000 in
set_option maxHeartbeats 8000000 in
theorem mi_X3_init_4 (Fu : Nat) (h ho : fx_H) (hf : fi_X3_init_4 Fu h = some ho) : fx_MetC yX3_init cX3_init 1 rmi_X3_init_4 1 250 La_44 [(17, 41)] h La_47 ho := by
  unfold fi_X3_init_4 at hf
  refine fx_enterC (ls := [some (17, 41)]) (by decide) rfl (Nat.le_of_ble_eq_true rfl) rfl (fun M D cy ad ex A F K => ?_)
  refine fx_aload_n (pc := 0) (t := 15) F.1 0 rfl rfl dX3_init_0 ?_
  refine fx_objI (pc := 1) (k := 15) F (by decide) wM_X3_3 wIn_objectInit wCo_objectInit (by decide) (Nat.le_of_ble_eq_true rfl) dX3_init_1 ?_
  refine fx_aload_n (pc := 4) (t := 15) F.1 0 rfl rfl dX3_init_4 ?_
  refine fx_sipush (pc := 5) F.1 ⟨by decide, by decide⟩ (by decide) dX3_init_5 ?_
  refine fx_newarr2 (pc := 8) (atype := .byte) (ty := .byte) F 7 0 rfl (Or.inl ⟨rfl, rfl, rfl⟩) ⟨by decide, by decide⟩ wA_byte ⟨by decide, by decide⟩ dX3_init_8 (Λ2 := La_45) (a := 42) rfl (by decide +kernel) rfl (fun ad F => ?_)
  have K := fx_FrC_inc (a := 1) (b := 250) K
  show fx_J _ _ La_45 1 10 [some (17, 41)] [(9, 42), (17, 41)] (fx_z h 42)
  refine fx_putF2 (pc := 10) (ty := .array .byte) F K 3 0 7 0 rfl kC_X3 (by decide) ⟨_, rfl⟩ rfl rfl (by decide +kernel) (fun _ => ⟨rfl, rfl⟩) wF_X3_9 dX3_init_10 (Λ2 := La_46) rfl (fun F => ?_)
  show fx_J _ _ La_46 1 13 [some (17, 41)] [] (fx_z h 42)
  refine fx_seal2 (pc := 13) (ls' := [some (5, 41)]) (st' := []) F (a := 41) 15 3 (by decide) ⟨by decide, by decide +kernel, by decide +kernel⟩ (Λ2 := La_47) rfl ⟨fun _ => fx_chk_use (Λ := La_47) (by decide +kernel), fun q => absurd q (by decide)⟩ rfl rfl (fun F => ?_)
  show fx_J _ _ La_47 1 13 [some (5, 41)] [] (fx_z h 42)
  cases hf
  exact fx_vretC (pc := 13) F K dX3_init_13
