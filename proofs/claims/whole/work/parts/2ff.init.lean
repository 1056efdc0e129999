def La_82 : fx_L := (84, fx_kd La_81, fx_ln La_81, (fun a' i' => if a' = 0 ∧ i' = 6 then 48 else fx_tg La_81 a' i'))
def La_83 : fx_L := (85, (fun a => if a = 84 then 14 else fx_kd La_82 a), (fun a => if a = 84 then 0 else fx_ln La_82 a), (fun a i => if a = 84 then -1 else fx_tg La_82 a i))
def La_84 : fx_L := (86, (fun a => if a = 85 then 8 else fx_kd La_83 a), (fun a => if a = 85 then 5 else fx_ln La_83 a), (fun a i => if a = 85 then -1 else fx_tg La_83 a i))
def La_85 : fx_L := (86, fx_kd La_84, fx_ln La_84, (fun a' i' => if a' = 84 ∧ i' = 1 then 85 else fx_tg La_84 a' i'))
def La_86 : fx_L := (87, (fun a => if a = 86 then 8 else fx_kd La_85 a), (fun a => if a = 86 then 5 else fx_ln La_85 a), (fun a i => if a = 86 then -1 else fx_tg La_85 a i))
def La_87 : fx_L := (87, fx_kd La_86, fx_ln La_86, (fun a' i' => if a' = 84 ∧ i' = 2 then 86 else fx_tg La_86 a' i'))
def La_88 : fx_L := (88, (fun a => if a = 87 then 8 else fx_kd La_87 a), (fun a => if a = 87 then 5 else fx_ln La_87 a), (fun a i => if a = 87 then -1 else fx_tg La_87 a i))
def La_89 : fx_L := (88, fx_kd La_88, fx_ln La_88, (fun a' i' => if a' = 84 ∧ i' = 3 then 87 else fx_tg La_88 a' i'))
def La_90 : fx_L := (88, (fun a' => if a' = 84 then 2 else fx_kd La_89 a'), fx_ln La_89, fx_tg La_89)
def fi_X2_init_7 (Fu : Nat) (h : fx_H) : Option fx_H :=
  some (fx_up (fx_z (fx_z (fx_z h 85) 86) 87) 84 4 (-1))
abbrev rmi_X2_init_7 : Room := { frames := 1, cells := 3, slots := 15, locals := 20 }
set_option maxRecDepth 100000 in
set_option maxHeartbeats 8000000 in
theorem mi_X2_init_7 (Fu : Nat) (h ho : fx_H) (hf : fi_X2_init_7 Fu h = some ho) : fx_MetC yX2_init cX2_init 1 rmi_X2_init_7 3 15 La_83 [(16, 84)] h La_90 ho := by
  unfold fi_X2_init_7 at hf
  refine fx_enterC (ls := [some (16, 84)]) (by decide) rfl (Nat.le_of_ble_eq_true rfl) rfl (fun M D cy ad ex A F K => ?_)
  refine fx_aload_n (pc := 0) (t := 14) F.1 0 rfl rfl dX2_init_0 ?_
  refine fx_objI (pc := 1) (k := 14) F (by decide) wM_X2_3 wIn_objectInit wCo_objectInit (by decide) (Nat.le_of_ble_eq_true rfl) dX2_init_1 ?_
  refine fx_aload_n (pc := 4) (t := 14) F.1 0 rfl rfl dX2_init_4 ?_
  refine fx_iconst (pc := 5) F.1 ⟨by decide, by decide⟩ dX2_init_5 ?_
  refine fx_newarr (pc := 6) (atype := .int) (ty := .int) F 8 1 rfl (Or.inr (Or.inl ⟨rfl, rfl, rfl⟩)) ⟨by decide, by decide⟩ wA_int ⟨by decide, by decide⟩ dX2_init_6 (fun ad F => ?_)
  have K := fx_FrC_inc (a := 1) (b := 5) K
  show fx_J _ _ La_84 1 8 [some (16, 84)] [(10, 85), (16, 84)] (fx_z h 85)
  refine fx_putF (pc := 8) (ty := .array .int) F K 2 1 8 1 rfl kC_X2 (by decide) ⟨_, rfl⟩ rfl rfl (by decide +kernel) (fun _ => ⟨rfl, rfl⟩) wF_X2_9 dX2_init_8 (fun F => ?_)
  show fx_J _ _ La_85 1 11 [some (16, 84)] [] (fx_z h 85)
  refine fx_aload_n (pc := 11) (t := 14) F.1 0 rfl rfl dX2_init_11 ?_
  refine fx_iconst (pc := 12) F.1 ⟨by decide, by decide⟩ dX2_init_12 ?_
  refine fx_newarr (pc := 13) (atype := .int) (ty := .int) F 8 1 rfl (Or.inr (Or.inl ⟨rfl, rfl, rfl⟩)) ⟨by decide, by decide⟩ wA_int ⟨by decide, by decide⟩ dX2_init_13 (fun ad F => ?_)
  have K := fx_FrC_inc (a := 1) (b := 5) K
  show fx_J _ _ La_86 1 15 [some (16, 84)] [(10, 86), (16, 84)] (fx_z (fx_z h 85) 86)
  refine fx_putF (pc := 15) (ty := .array .int) F K 2 2 8 2 rfl kC_X2 (by decide) ⟨_, rfl⟩ rfl rfl (by decide +kernel) (fun _ => ⟨rfl, rfl⟩) wF_X2_15 dX2_init_15 (fun F => ?_)
  show fx_J _ _ La_87 1 18 [some (16, 84)] [] (fx_z (fx_z h 85) 86)
  refine fx_aload_n (pc := 18) (t := 14) F.1 0 rfl rfl dX2_init_18 ?_
  refine fx_iconst (pc := 19) F.1 ⟨by decide, by decide⟩ dX2_init_19 ?_
  refine fx_newarr (pc := 20) (atype := .int) (ty := .int) F 8 1 rfl (Or.inr (Or.inl ⟨rfl, rfl, rfl⟩)) ⟨by decide, by decide⟩ wA_int ⟨by decide, by decide⟩ dX2_init_20 (fun ad F => ?_)
  have K := fx_FrC_inc (a := 1) (b := 5) K
  show fx_J _ _ La_88 1 22 [some (16, 84)] [(10, 87), (16, 84)] (fx_z (fx_z (fx_z h 85) 86) 87)
  refine fx_putF (pc := 22) (ty := .array .int) F K 2 3 8 3 rfl kC_X2 (by decide) ⟨_, rfl⟩ rfl rfl (by decide +kernel) (fun _ => ⟨rfl, rfl⟩) wF_X2_18 dX2_init_22 (fun F => ?_)
  show fx_J _ _ La_89 1 25 [some (16, 84)] [] (fx_z (fx_z (fx_z h 85) 86) 87)
  refine fx_seal (pc := 25) (ls' := [some (4, 84)]) (st' := []) F (a := 84) 14 2 (by decide) ⟨by decide, by decide +kernel, by decide +kernel⟩ ⟨fun _ => fx_chk_use (Λ := fx_skd La_89 84 2) (by decide +kernel), fun q => absurd q (by decide)⟩ rfl rfl (fun F => ?_)
  show fx_J _ _ La_90 1 25 [some (4, 84)] [] (fx_z (fx_z (fx_z h 85) 86) 87)
  refine fx_aload_n (pc := 25) (t := 2) F.1 0 rfl rfl dX2_init_25 ?_
  refine fx_iconst (pc := 26) F.1 ⟨by decide, by decide⟩ dX2_init_26 ?_
  refine fx_pI (pc := 27) F.1 2 4 4 rfl kC_X2 rfl rfl (by decide +kernel) wF_X2_21 dX2_init_27 ?_
  cases hf
  exact fx_vretC (pc := 30) F K dX2_init_30
