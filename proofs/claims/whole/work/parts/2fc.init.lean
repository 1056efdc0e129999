def La_39 : fx_L := (39, fx_kd La_38, fx_ln La_38, (fun a' i' => if a' = 0 ∧ i' = 1 then 20 else fx_tg La_38 a' i'))
def La_40 : fx_L := (40, (fun a => if a = 39 then 22 else fx_kd La_39 a), (fun a => if a = 39 then 2 else fx_ln La_39 a), (fun a i => if a = 39 then -1 else fx_tg La_39 a i))
def La_41 : fx_L := (40, fx_kd La_40, fx_ln La_40, (fun a' i' => if a' = 0 ∧ i' = 2 then 39 else fx_tg La_40 a' i'))
def La_42 : fx_L := (41, (fun a => if a = 40 then 9 else fx_kd La_41 a), (fun a => if a = 40 then 2 else fx_ln La_41 a), (fun a i => if a = 40 then -1 else fx_tg La_41 a i))
def La_43 : fx_L := (41, fx_kd La_42, fx_ln La_42, (fun a' i' => if a' = 0 ∧ i' = 3 then 40 else fx_tg La_42 a' i'))
def La_44 : fx_L := (42, (fun a => if a = 41 then 15 else fx_kd La_43 a), (fun a => if a = 41 then 0 else fx_ln La_43 a), (fun a i => if a = 41 then -1 else fx_tg La_43 a i))
def La_45 : fx_L := (43, (fun a => if a = 42 then 7 else fx_kd La_44 a), (fun a => if a = 42 then 250 else fx_ln La_44 a), (fun a i => if a = 42 then -1 else fx_tg La_44 a i))
def La_46 : fx_L := (43, fx_kd La_45, fx_ln La_45, (fun a' i' => if a' = 41 ∧ i' = 0 then 42 else fx_tg La_45 a' i'))
def La_47 : fx_L := (43, (fun a' => if a' = 41 then 3 else fx_kd La_46 a'), fx_ln La_46, fx_tg La_46)
def fi_X3_init_4 (Fu : Nat) (h : fx_H) : Option fx_H :=
  some (fx_z h 42)
abbrev rmi_X3_init_4 : Room := { frames := 1, cells := 1, slots := 250, locals := 20 }
set_option maxRecDepth 100000 in
set_option maxHeartbeats 8000000 in
theorem mi_X3_init_4 (Fu : Nat) (h ho : fx_H) (hf : fi_X3_init_4 Fu h = some ho) : fx_MetC yX3_init cX3_init 1 rmi_X3_init_4 1 250 La_44 [(17, 41)] h La_47 ho := by
  unfold fi_X3_init_4 at hf
  refine fx_enterC (ls := [some (17, 41)]) (by decide) rfl (Nat.le_of_ble_eq_true rfl) rfl (fun M D cy ad ex A F K => ?_)
  refine fx_aload_n (pc := 0) (t := 15) F.1 0 rfl rfl dX3_init_0 ?_
  refine fx_objI (pc := 1) (k := 15) F (by decide) wM_X3_3 wIn_objectInit wCo_objectInit (by decide) (Nat.le_of_ble_eq_true rfl) dX3_init_1 ?_
  refine fx_aload_n (pc := 4) (t := 15) F.1 0 rfl rfl dX3_init_4 ?_
  refine fx_sipush (pc := 5) F.1 ⟨by decide, by decide⟩ (by decide) dX3_init_5 ?_
  refine fx_newarr (pc := 8) (atype := .byte) (ty := .byte) F 7 0 rfl (Or.inl ⟨rfl, rfl, rfl⟩) ⟨by decide, by decide⟩ wA_byte ⟨by decide, by decide⟩ dX3_init_8 (fun ad F => ?_)
  have K := fx_FrC_inc (a := 1) (b := 250) K
  show fx_J _ _ La_45 1 10 [some (17, 41)] [(9, 42), (17, 41)] (fx_z h 42)
  refine fx_putF (pc := 10) (ty := .array .byte) F K 3 0 7 0 rfl kC_X3 (by decide) ⟨_, rfl⟩ rfl rfl (by decide +kernel) (fun _ => ⟨rfl, rfl⟩) wF_X3_9 dX3_init_10 (fun F => ?_)
  show fx_J _ _ La_46 1 13 [some (17, 41)] [] (fx_z h 42)
  refine fx_seal (pc := 13) (ls' := [some (5, 41)]) (st' := []) F (a := 41) 15 3 (by decide) ⟨by decide, by decide +kernel, by decide +kernel⟩ ⟨fun _ => fx_chk_use (Λ := fx_skd La_46 41 3) (by decide +kernel), fun q => absurd q (by decide)⟩ rfl rfl (fun F => ?_)
  show fx_J _ _ La_47 1 13 [some (5, 41)] [] (fx_z h 42)
  cases hf
  exact fx_vretC (pc := 13) F K dX3_init_13
