def La_91 : fx_L := (88, fx_kd La_90, fx_ln La_90, (fun a' i' => if a' = 0 ∧ i' = 7 then 84 else fx_tg La_90 a' i'))
def La_92 : fx_L := (89, (fun a => if a = 88 then 16 else fx_kd La_91 a), (fun a => if a = 88 then 0 else fx_ln La_91 a), (fun a i => if a = 88 then -1 else fx_tg La_91 a i))
def La_93 : fx_L := (90, (fun a => if a = 89 then 8 else fx_kd La_92 a), (fun a => if a = 89 then 9 else fx_ln La_92 a), (fun a i => if a = 89 then -1 else fx_tg La_92 a i))
def La_94 : fx_L := (90, fx_kd La_93, fx_ln La_93, (fun a' i' => if a' = 88 ∧ i' = 6 then 89 else fx_tg La_93 a' i'))
def La_95 : fx_L := (91, (fun a => if a = 90 then 8 else fx_kd La_94 a), (fun a => if a = 90 then 5 else fx_ln La_94 a), (fun a i => if a = 90 then -1 else fx_tg La_94 a i))
def La_96 : fx_L := (91, fx_kd La_95, fx_ln La_95, (fun a' i' => if a' = 88 ∧ i' = 7 then 90 else fx_tg La_95 a' i'))
def La_97 : fx_L := (97, (fun a => if a = 91 then 11 else if 91 < a then 8 else fx_kd La_96 a), (fun a => if a = 91 then 5 else if 91 < a then 5 else fx_ln La_96 a), (fun a i => if a = 91 then (if 0 ≤ i ∧ i < 5 then 91 + 1 + i else -1) else if 91 < a then -1 else fx_tg La_96 a i))
def La_98 : fx_L := (97, fx_kd La_97, fx_ln La_97, (fun a' i' => if a' = 88 ∧ i' = 8 then 91 else fx_tg La_97 a' i'))
def La_99 : fx_L := (103, (fun a => if a = 97 then 11 else if 97 < a then 8 else fx_kd La_98 a), (fun a => if a = 97 then 5 else if 97 < a then 9 else fx_ln La_98 a), (fun a i => if a = 97 then (if 0 ≤ i ∧ i < 5 then 97 + 1 + i else -1) else if 97 < a then -1 else fx_tg La_98 a i))
def La_100 : fx_L := (103, fx_kd La_99, fx_ln La_99, (fun a' i' => if a' = 88 ∧ i' = 9 then 97 else fx_tg La_99 a' i'))
def La_101 : fx_L := (104, (fun a => if a = 103 then 8 else fx_kd La_100 a), (fun a => if a = 103 then 5 else fx_ln La_100 a), (fun a i => if a = 103 then -1 else fx_tg La_100 a i))
def La_102 : fx_L := (104, fx_kd La_101, fx_ln La_101, (fun a' i' => if a' = 88 ∧ i' = 10 then 103 else fx_tg La_101 a' i'))
def La_103 : fx_L := (105, (fun a => if a = 104 then 8 else fx_kd La_102 a), (fun a => if a = 104 then 10 else fx_ln La_102 a), (fun a i => if a = 104 then -1 else fx_tg La_102 a i))
def La_104 : fx_L := (105, fx_kd La_103, fx_ln La_103, (fun a' i' => if a' = 88 ∧ i' = 11 then 104 else fx_tg La_103 a' i'))
def La_105 : fx_L := (106, (fun a => if a = 105 then 8 else fx_kd La_104 a), (fun a => if a = 105 then 10 else fx_ln La_104 a), (fun a i => if a = 105 then -1 else fx_tg La_104 a i))
def La_106 : fx_L := (106, fx_kd La_105, fx_ln La_105, (fun a' i' => if a' = 88 ∧ i' = 12 then 105 else fx_tg La_105 a' i'))
def La_107 : fx_L := (107, (fun a => if a = 106 then 8 else fx_kd La_106 a), (fun a => if a = 106 then 10 else fx_ln La_106 a), (fun a i => if a = 106 then -1 else fx_tg La_106 a i))
def La_108 : fx_L := (107, fx_kd La_107, fx_ln La_107, (fun a' i' => if a' = 88 ∧ i' = 13 then 106 else fx_tg La_107 a' i'))
def La_109 : fx_L := (107, (fun a' => if a' = 88 then 4 else fx_kd La_108 a'), fx_ln La_108, fx_tg La_108)
def fi_X4_init_8 (Fu : Nat) (h : fx_H) : Option fx_H :=
  (f_X4_begin Fu La_109 88 (fx_z (fx_z (fx_z (fx_z (fx_zg (fx_zg (fx_z (fx_z h 89) 90) 91) 97) 103) 104) 105) 106)).bind fun h1 =>
  some h1
abbrev rmi_X4_init_8 : Room := { frames := 3, cells := 18, slots := 129, locals := 66 }
set_option maxRecDepth 100000 in
set_option maxHeartbeats 8000000 in
theorem mi_X4_init_8 (Fu : Nat) (h ho : fx_H) (hf : fi_X4_init_8 Fu h = some ho) : fx_MetC yX4_init cX4_init 1 rmi_X4_init_8 18 129 La_92 [(18, 88)] h La_109 ho := by
  unfold fi_X4_init_8 at hf
  refine fx_enterC (ls := [some (18, 88)]) (by decide) rfl (Nat.le_of_ble_eq_true rfl) rfl (fun M D cy ad ex A F K => ?_)
  refine fx_aload_n (pc := 0) (t := 16) F.1 0 rfl rfl dX4_init_0 ?_
  refine fx_objI (pc := 1) (k := 16) F (by decide) wM_X4_3 wIn_objectInit wCo_objectInit (by decide) (Nat.le_of_ble_eq_true rfl) dX4_init_1 ?_
  refine fx_aload_n (pc := 4) (t := 16) F.1 0 rfl rfl dX4_init_4 ?_
  refine fx_bipush (pc := 5) F.1 ⟨by decide, by decide⟩ (by decide) dX4_init_5 ?_
  refine fx_newarr (pc := 7) (atype := .int) (ty := .int) F 8 1 rfl (Or.inr (Or.inl ⟨rfl, rfl, rfl⟩)) ⟨by decide, by decide⟩ wA_int ⟨by decide, by decide⟩ dX4_init_7 (fun ad F => ?_)
  have K := fx_FrC_inc (a := 1) (b := 9) K
  show fx_J _ _ La_93 1 9 [some (18, 88)] [(10, 89), (18, 88)] (fx_z h 89)
  refine fx_putF (pc := 9) (ty := .array .int) F K 4 6 8 6 rfl kC_X4 (by decide) ⟨_, rfl⟩ rfl rfl (by decide +kernel) (fun _ => ⟨rfl, rfl⟩) wF_X4_9 dX4_init_9 (fun F => ?_)
  show fx_J _ _ La_94 1 12 [some (18, 88)] [] (fx_z h 89)
  refine fx_aload_n (pc := 12) (t := 16) F.1 0 rfl rfl dX4_init_12 ?_
  refine fx_iconst (pc := 13) F.1 ⟨by decide, by decide⟩ dX4_init_13 ?_
  refine fx_newarr (pc := 14) (atype := .int) (ty := .int) F 8 1 rfl (Or.inr (Or.inl ⟨rfl, rfl, rfl⟩)) ⟨by decide, by decide⟩ wA_int ⟨by decide, by decide⟩ dX4_init_14 (fun ad F => ?_)
  have K := fx_FrC_inc (a := 1) (b := 5) K
  show fx_J _ _ La_95 1 16 [some (18, 88)] [(10, 90), (18, 88)] (fx_z (fx_z h 89) 90)
  refine fx_putF (pc := 16) (ty := .array .int) F K 4 7 8 7 rfl kC_X4 (by decide) ⟨_, rfl⟩ rfl rfl (by decide +kernel) (fun _ => ⟨rfl, rfl⟩) wF_X4_15 dX4_init_16 (fun F => ?_)
  show fx_J _ _ La_96 1 19 [some (18, 88)] [] (fx_z (fx_z h 89) 90)
  refine fx_aload_n (pc := 19) (t := 16) F.1 0 rfl rfl dX4_init_19 ?_
  refine fx_iconst (pc := 20) F.1 ⟨by decide, by decide⟩ dX4_init_20 ?_
  refine fx_iconst (pc := 21) F.1 ⟨by decide, by decide⟩ dX4_init_21 ?_
  refine fx_mna (pc := 22) F 5 5 ⟨by decide, by decide⟩ wC_X4_18 wA_int ⟨by decide, by decide⟩ dX4_init_22 (fun ad F => ?_)
  have K := fx_FrC_inc (a := (1 + 5)) (b := (5 + 5 * 5)) K
  show fx_J _ _ La_97 1 26 [some (18, 88)] [(13, 91), (18, 88)] (fx_zg (fx_z (fx_z h 89) 90) 91)
  refine fx_putF (pc := 26) (ty := .array (.array .int)) F K 4 8 11 8 rfl kC_X4 (by decide) ⟨_, rfl⟩ rfl rfl (by decide +kernel) (fun _ => ⟨rfl, rfl⟩) wF_X4_20 dX4_init_26 (fun F => ?_)
  show fx_J _ _ La_98 1 29 [some (18, 88)] [] (fx_zg (fx_z (fx_z h 89) 90) 91)
  refine fx_aload_n (pc := 29) (t := 16) F.1 0 rfl rfl dX4_init_29 ?_
  refine fx_iconst (pc := 30) F.1 ⟨by decide, by decide⟩ dX4_init_30 ?_
  refine fx_bipush (pc := 31) F.1 ⟨by decide, by decide⟩ (by decide) dX4_init_31 ?_
  refine fx_mna (pc := 33) F 5 9 ⟨by decide, by decide⟩ wC_X4_18 wA_int ⟨by decide, by decide⟩ dX4_init_33 (fun ad F => ?_)
  have K := fx_FrC_inc (a := (1 + 5)) (b := (5 + 5 * 9)) K
  show fx_J _ _ La_99 1 37 [some (18, 88)] [(13, 97), (18, 88)] (fx_zg (fx_zg (fx_z (fx_z h 89) 90) 91) 97)
  refine fx_putF (pc := 37) (ty := .array (.array .int)) F K 4 9 11 9 rfl kC_X4 (by decide) ⟨_, rfl⟩ rfl rfl (by decide +kernel) (fun _ => ⟨rfl, rfl⟩) wF_X4_23 dX4_init_37 (fun F => ?_)
  show fx_J _ _ La_100 1 40 [some (18, 88)] [] (fx_zg (fx_zg (fx_z (fx_z h 89) 90) 91) 97)
  refine fx_aload_n (pc := 40) (t := 16) F.1 0 rfl rfl dX4_init_40 ?_
  refine fx_iconst (pc := 41) F.1 ⟨by decide, by decide⟩ dX4_init_41 ?_
  refine fx_newarr (pc := 42) (atype := .int) (ty := .int) F 8 1 rfl (Or.inr (Or.inl ⟨rfl, rfl, rfl⟩)) ⟨by decide, by decide⟩ wA_int ⟨by decide, by decide⟩ dX4_init_42 (fun ad F => ?_)
  have K := fx_FrC_inc (a := 1) (b := 5) K
  show fx_J _ _ La_101 1 44 [some (18, 88)] [(10, 103), (18, 88)] (fx_z (fx_zg (fx_zg (fx_z (fx_z h 89) 90) 91) 97) 103)
  refine fx_putF (pc := 44) (ty := .array .int) F K 4 10 8 10 rfl kC_X4 (by decide) ⟨_, rfl⟩ rfl rfl (by decide +kernel) (fun _ => ⟨rfl, rfl⟩) wF_X4_26 dX4_init_44 (fun F => ?_)
  show fx_J _ _ La_102 1 47 [some (18, 88)] [] (fx_z (fx_zg (fx_zg (fx_z (fx_z h 89) 90) 91) 97) 103)
  refine fx_aload_n (pc := 47) (t := 16) F.1 0 rfl rfl dX4_init_47 ?_
  refine fx_bipush (pc := 48) F.1 ⟨by decide, by decide⟩ (by decide) dX4_init_48 ?_
  refine fx_newarr (pc := 50) (atype := .int) (ty := .int) F 8 1 rfl (Or.inr (Or.inl ⟨rfl, rfl, rfl⟩)) ⟨by decide, by decide⟩ wA_int ⟨by decide, by decide⟩ dX4_init_50 (fun ad F => ?_)
  have K := fx_FrC_inc (a := 1) (b := 10) K
  show fx_J _ _ La_103 1 52 [some (18, 88)] [(10, 104), (18, 88)] (fx_z (fx_z (fx_zg (fx_zg (fx_z (fx_z h 89) 90) 91) 97) 103) 104)
  refine fx_putF (pc := 52) (ty := .array .int) F K 4 11 8 11 rfl kC_X4 (by decide) ⟨_, rfl⟩ rfl rfl (by decide +kernel) (fun _ => ⟨rfl, rfl⟩) wF_X4_29 dX4_init_52 (fun F => ?_)
  show fx_J _ _ La_104 1 55 [some (18, 88)] [] (fx_z (fx_z (fx_zg (fx_zg (fx_z (fx_z h 89) 90) 91) 97) 103) 104)
  refine fx_aload_n (pc := 55) (t := 16) F.1 0 rfl rfl dX4_init_55 ?_
  refine fx_bipush (pc := 56) F.1 ⟨by decide, by decide⟩ (by decide) dX4_init_56 ?_
  refine fx_newarr (pc := 58) (atype := .int) (ty := .int) F 8 1 rfl (Or.inr (Or.inl ⟨rfl, rfl, rfl⟩)) ⟨by decide, by decide⟩ wA_int ⟨by decide, by decide⟩ dX4_init_58 (fun ad F => ?_)
  have K := fx_FrC_inc (a := 1) (b := 10) K
  show fx_J _ _ La_105 1 60 [some (18, 88)] [(10, 105), (18, 88)] (fx_z (fx_z (fx_z (fx_zg (fx_zg (fx_z (fx_z h 89) 90) 91) 97) 103) 104) 105)
  refine fx_putF (pc := 60) (ty := .array .int) F K 4 12 8 12 rfl kC_X4 (by decide) ⟨_, rfl⟩ rfl rfl (by decide +kernel) (fun _ => ⟨rfl, rfl⟩) wF_X4_32 dX4_init_60 (fun F => ?_)
  show fx_J _ _ La_106 1 63 [some (18, 88)] [] (fx_z (fx_z (fx_z (fx_zg (fx_zg (fx_z (fx_z h 89) 90) 91) 97) 103) 104) 105)
  refine fx_aload_n (pc := 63) (t := 16) F.1 0 rfl rfl dX4_init_63 ?_
  refine fx_bipush (pc := 64) F.1 ⟨by decide, by decide⟩ (by decide) dX4_init_64 ?_
  refine fx_newarr (pc := 66) (atype := .int) (ty := .int) F 8 1 rfl (Or.inr (Or.inl ⟨rfl, rfl, rfl⟩)) ⟨by decide, by decide⟩ wA_int ⟨by decide, by decide⟩ dX4_init_66 (fun ad F => ?_)
  have K := fx_FrC_inc (a := 1) (b := 10) K
  show fx_J _ _ La_107 1 68 [some (18, 88)] [(10, 106), (18, 88)] (fx_z (fx_z (fx_z (fx_z (fx_zg (fx_zg (fx_z (fx_z h 89) 90) 91) 97) 103) 104) 105) 106)
  refine fx_putF (pc := 68) (ty := .array .int) F K 4 13 8 13 rfl kC_X4 (by decide) ⟨_, rfl⟩ rfl rfl (by decide +kernel) (fun _ => ⟨rfl, rfl⟩) wF_X4_35 dX4_init_68 (fun F => ?_)
  show fx_J _ _ La_108 1 71 [some (18, 88)] [] (fx_z (fx_z (fx_z (fx_z (fx_zg (fx_zg (fx_z (fx_z h 89) 90) 91) 97) 103) 104) 105) 106)
  refine fx_seal (pc := 71) (ls' := [some (6, 88)]) (st' := []) F (a := 88) 16 4 (by decide) ⟨by decide, by decide +kernel, by decide +kernel⟩ ⟨fun _ => fx_chk_use (Λ := fx_skd La_108 88 4) (by decide +kernel), fun q => absurd q (by decide)⟩ rfl rfl (fun F => ?_)
  show fx_J _ _ La_109 1 71 [some (6, 88)] [] (fx_z (fx_z (fx_z (fx_z (fx_zg (fx_zg (fx_z (fx_z h 89) 90) 91) 97) 103) 104) 105) 106)
  refine fx_aload_n (pc := 71) (t := 4) F.1 0 rfl rfl dX4_init_71 ?_
  obtain ⟨h1, e2, hf⟩ := fx_bnd hf
  refine fx_cVv (pc := 72) F.1 4 kC_X4 [] 88 [] (m_X4_begin Fu La_109 88 (fx_z (fx_z (fx_z (fx_z (fx_zg (fx_zg (fx_z (fx_z h 89) 90) 91) 97) 103) 104) 105) 106) _ e2) kD_X4_begin kI_X4_begin rfl wM_X4_38 ⟨rfl, rfl⟩ ⟨by decide, by decide⟩ (Nat.le_of_ble_eq_true rfl) rfl dX4_init_72 ?_
  cases hf
  exact fx_vretC (pc := 75) F K dX4_init_75
