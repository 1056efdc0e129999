def La_48 : fx_L := (43, fx_kd La_47, fx_ln La_47, (fun a' i' => if a' = 0 ∧ i' = 4 then 41 else fx_tg La_47 a' i'))
def La_49 : fx_L := (44, (fun a => if a = 43 then 12 else fx_kd La_48 a), (fun a => if a = 43 then 0 else fx_ln La_48 a), (fun a i => if a = 43 then -1 else fx_tg La_48 a i))
def La_50 : fx_L := (45, (fun a => if a = 44 then 8 else fx_kd La_49 a), (fun a => if a = 44 then 10 else fx_ln La_49 a), (fun a i => if a = 44 then -1 else fx_tg La_49 a i))
def La_51 : fx_L := (45, fx_kd La_50, fx_ln La_50, (fun a' i' => if a' = 43 ∧ i' = 0 then 44 else fx_tg La_50 a' i'))
def La_52 : fx_L := (46, (fun a => if a = 45 then 8 else fx_kd La_51 a), (fun a => if a = 45 then 9 else fx_ln La_51 a), (fun a i => if a = 45 then -1 else fx_tg La_51 a i))
def La_53 : fx_L := (46, fx_kd La_52, fx_ln La_52, (fun a' i' => if a' = 43 ∧ i' = 1 then 45 else fx_tg La_52 a' i'))
def La_54 : fx_L := (47, (fun a => if a = 46 then 8 else fx_kd La_53 a), (fun a => if a = 46 then 5 else fx_ln La_53 a), (fun a i => if a = 46 then -1 else fx_tg La_53 a i))
def La_55 : fx_L := (47, fx_kd La_54, fx_ln La_54, (fun a' i' => if a' = 43 ∧ i' = 2 then 46 else fx_tg La_54 a' i'))
def La_56 : fx_L := (48, (fun a => if a = 47 then 8 else fx_kd La_55 a), (fun a => if a = 47 then 5 else fx_ln La_55 a), (fun a i => if a = 47 then -1 else fx_tg La_55 a i))
def La_57 : fx_L := (48, fx_kd La_56, fx_ln La_56, (fun a' i' => if a' = 43 ∧ i' = 3 then 47 else fx_tg La_56 a' i'))
def La_58 : fx_L := (48, (fun a' => if a' = 43 then 0 else fx_kd La_57 a'), fx_ln La_57, fx_tg La_57)
def fi_X0_init_5 (Fu : Nat) (h : fx_H) : Option fx_H :=
  (f_J7_fill_53178 Fu La_58 46 9 (fx_z (fx_z (fx_z (fx_z h 44) 45) 46) 47)).bind fun h1 =>
  some h1
abbrev rmi_X0_init_5 : Room := { frames := 1, cells := 4, slots := 29, locals := 23 }
set_option maxRecDepth 100000 in
set_option maxHeartbeats 8000000 in
theorem mi_X0_init_5 (Fu : Nat) (h ho : fx_H) (hf : fi_X0_init_5 Fu h = some ho) : fx_MetC yX0_init cX0_init 1 rmi_X0_init_5 4 29 La_49 [(14, 43)] h La_58 ho := by
  unfold fi_X0_init_5 at hf
  refine fx_enterC (ls := [some (14, 43)]) (by decide) rfl (Nat.le_of_ble_eq_true rfl) rfl (fun M D cy ad ex A F K => ?_)
  refine fx_aload_n (pc := 0) (t := 12) F.1 0 rfl rfl dX0_init_0 ?_
  refine fx_objI (pc := 1) (k := 12) F (by decide) wM_X0_3 wIn_objectInit wCo_objectInit (by decide) (Nat.le_of_ble_eq_true rfl) dX0_init_1 ?_
  refine fx_aload_n (pc := 4) (t := 12) F.1 0 rfl rfl dX0_init_4 ?_
  refine fx_bipush (pc := 5) F.1 ⟨by decide, by decide⟩ (by decide) dX0_init_5 ?_
  refine fx_newarr (pc := 7) (atype := .int) (ty := .int) F 8 1 rfl (Or.inr (Or.inl ⟨rfl, rfl, rfl⟩)) ⟨by decide, by decide⟩ wA_int ⟨by decide, by decide⟩ dX0_init_7 (fun ad F => ?_)
  have K := fx_FrC_inc (a := 1) (b := 10) K
  show fx_J _ _ La_50 1 9 [some (14, 43)] [(10, 44), (14, 43)] (fx_z h 44)
  refine fx_putF (pc := 9) (ty := .array .int) F K 0 0 8 0 rfl kC_X0 (by decide) ⟨_, rfl⟩ rfl rfl (by decide +kernel) (fun _ => ⟨rfl, rfl⟩) wF_X0_9 dX0_init_9 (fun F => ?_)
  show fx_J _ _ La_51 1 12 [some (14, 43)] [] (fx_z h 44)
  refine fx_aload_n (pc := 12) (t := 12) F.1 0 rfl rfl dX0_init_12 ?_
  refine fx_bipush (pc := 13) F.1 ⟨by decide, by decide⟩ (by decide) dX0_init_13 ?_
  refine fx_newarr (pc := 15) (atype := .int) (ty := .int) F 8 1 rfl (Or.inr (Or.inl ⟨rfl, rfl, rfl⟩)) ⟨by decide, by decide⟩ wA_int ⟨by decide, by decide⟩ dX0_init_15 (fun ad F => ?_)
  have K := fx_FrC_inc (a := 1) (b := 9) K
  show fx_J _ _ La_52 1 17 [some (14, 43)] [(10, 45), (14, 43)] (fx_z (fx_z h 44) 45)
  refine fx_putF (pc := 17) (ty := .array .int) F K 0 1 8 1 rfl kC_X0 (by decide) ⟨_, rfl⟩ rfl rfl (by decide +kernel) (fun _ => ⟨rfl, rfl⟩) wF_X0_15 dX0_init_17 (fun F => ?_)
  show fx_J _ _ La_53 1 20 [some (14, 43)] [] (fx_z (fx_z h 44) 45)
  refine fx_aload_n (pc := 20) (t := 12) F.1 0 rfl rfl dX0_init_20 ?_
  refine fx_iconst (pc := 21) F.1 ⟨by decide, by decide⟩ dX0_init_21 ?_
  refine fx_newarr (pc := 22) (atype := .int) (ty := .int) F 8 1 rfl (Or.inr (Or.inl ⟨rfl, rfl, rfl⟩)) ⟨by decide, by decide⟩ wA_int ⟨by decide, by decide⟩ dX0_init_22 (fun ad F => ?_)
  have K := fx_FrC_inc (a := 1) (b := 5) K
  show fx_J _ _ La_54 1 24 [some (14, 43)] [(10, 46), (14, 43)] (fx_z (fx_z (fx_z h 44) 45) 46)
  refine fx_putF (pc := 24) (ty := .array .int) F K 0 2 8 2 rfl kC_X0 (by decide) ⟨_, rfl⟩ rfl rfl (by decide +kernel) (fun _ => ⟨rfl, rfl⟩) wF_X0_18 dX0_init_24 (fun F => ?_)
  show fx_J _ _ La_55 1 27 [some (14, 43)] [] (fx_z (fx_z (fx_z h 44) 45) 46)
  refine fx_aload_n (pc := 27) (t := 12) F.1 0 rfl rfl dX0_init_27 ?_
  refine fx_iconst (pc := 28) F.1 ⟨by decide, by decide⟩ dX0_init_28 ?_
  refine fx_newarr (pc := 29) (atype := .int) (ty := .int) F 8 1 rfl (Or.inr (Or.inl ⟨rfl, rfl, rfl⟩)) ⟨by decide, by decide⟩ wA_int ⟨by decide, by decide⟩ dX0_init_29 (fun ad F => ?_)
  have K := fx_FrC_inc (a := 1) (b := 5) K
  show fx_J _ _ La_56 1 31 [some (14, 43)] [(10, 47), (14, 43)] (fx_z (fx_z (fx_z (fx_z h 44) 45) 46) 47)
  refine fx_putF (pc := 31) (ty := .array .int) F K 0 3 8 3 rfl kC_X0 (by decide) ⟨_, rfl⟩ rfl rfl (by decide +kernel) (fun _ => ⟨rfl, rfl⟩) wF_X0_21 dX0_init_31 (fun F => ?_)
  show fx_J _ _ La_57 1 34 [some (14, 43)] [] (fx_z (fx_z (fx_z (fx_z h 44) 45) 46) 47)
  refine fx_seal (pc := 34) (ls' := [some (2, 43)]) (st' := []) F (a := 43) 12 0 (by decide) ⟨by decide, by decide +kernel, by decide +kernel⟩ ⟨fun _ => fx_chk_use (Λ := fx_skd La_57 43 0) (by decide +kernel), fun q => absurd q (by decide)⟩ rfl rfl (fun F => ?_)
  show fx_J _ _ La_58 1 34 [some (2, 43)] [] (fx_z (fx_z (fx_z (fx_z h 44) 45) 46) 47)
  refine fx_aload_n (pc := 34) (t := 0) F.1 0 rfl rfl dX0_init_34 ?_
  refine fx_gR (pc := 35) F.1 0 2 2 8 rfl kC_X0 (by decide) rfl wF_X0_18 dX0_init_35 ?_
  refine fx_top (X := fx_X) (show fx_tg La_58 43 2 = 46 by decide +kernel) ?_
  refine fx_bipush (pc := 38) F.1 ⟨by decide, by decide⟩ (by decide) dX0_init_38 ?_
  obtain ⟨h1, e2, hf⟩ := fx_bnd hf
  refine fx_cSv (pc := 40) F.1 [(10, 46), (0, 9)] [] (m_J7_fill_53178 Fu La_58 46 9 (fx_z (fx_z (fx_z (fx_z h 44) 45) 46) 47) _ e2) kD_J7_fill_53178 wSt_J7_fill_53178 wM_X0_24 ⟨rfl, rfl⟩ ⟨by decide, by decide⟩ (Nat.le_of_ble_eq_true rfl) rfl dX0_init_40 ?_
  cases hf
  exact fx_vretC (pc := 43) F K dX0_init_43
