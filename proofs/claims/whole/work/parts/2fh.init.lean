def La_110 : fx_L := (107, fx_kd La_109, fx_ln La_109, (fun a' i' => if a' = 39 ∧ i' = 0 then 88 else fx_tg La_109 a' i'))
def La_111 : fx_L := (108, (fun a => if a = 107 then 16 else fx_kd La_110 a), (fun a => if a = 107 then 0 else fx_ln La_110 a), (fun a i => if a = 107 then -1 else fx_tg La_110 a i))
def La_112 : fx_L := (109, (fun a => if a = 108 then 8 else fx_kd La_111 a), (fun a => if a = 108 then 9 else fx_ln La_111 a), (fun a i => if a = 108 then -1 else fx_tg La_111 a i))
def La_113 : fx_L := (109, fx_kd La_112, fx_ln La_112, (fun a' i' => if a' = 107 ∧ i' = 6 then 108 else fx_tg La_112 a' i'))
def La_114 : fx_L := (110, (fun a => if a = 109 then 8 else fx_kd La_113 a), (fun a => if a = 109 then 5 else fx_ln La_113 a), (fun a i => if a = 109 then -1 else fx_tg La_113 a i))
def La_115 : fx_L := (110, fx_kd La_114, fx_ln La_114, (fun a' i' => if a' = 107 ∧ i' = 7 then 109 else fx_tg La_114 a' i'))
def La_116 : fx_L := (116, (fun a => if a = 110 then 11 else if 110 < a then 8 else fx_kd La_115 a), (fun a => if a = 110 then 5 else if 110 < a then 5 else fx_ln La_115 a), (fun a i => if a = 110 then (if 0 ≤ i ∧ i < 5 then 110 + 1 + i else -1) else if 110 < a then -1 else fx_tg La_115 a i))
def La_117 : fx_L := (116, fx_kd La_116, fx_ln La_116, (fun a' i' => if a' = 107 ∧ i' = 8 then 110 else fx_tg La_116 a' i'))
def La_118 : fx_L := (122, (fun a => if a = 116 then 11 else if 116 < a then 8 else fx_kd La_117 a), (fun a => if a = 116 then 5 else if 116 < a then 9 else fx_ln La_117 a), (fun a i => if a = 116 then (if 0 ≤ i ∧ i < 5 then 116 + 1 + i else -1) else if 116 < a then -1 else fx_tg La_117 a i))
def La_119 : fx_L := (122, fx_kd La_118, fx_ln La_118, (fun a' i' => if a' = 107 ∧ i' = 9 then 116 else fx_tg La_118 a' i'))
def La_120 : fx_L := (123, (fun a => if a = 122 then 8 else fx_kd La_119 a), (fun a => if a = 122 then 5 else fx_ln La_119 a), (fun a i => if a = 122 then -1 else fx_tg La_119 a i))
def La_121 : fx_L := (123, fx_kd La_120, fx_ln La_120, (fun a' i' => if a' = 107 ∧ i' = 10 then 122 else fx_tg La_120 a' i'))
def La_122 : fx_L := (124, (fun a => if a = 123 then 8 else fx_kd La_121 a), (fun a => if a = 123 then 10 else fx_ln La_121 a), (fun a i => if a = 123 then -1 else fx_tg La_121 a i))
def La_123 : fx_L := (124, fx_kd La_122, fx_ln La_122, (fun a' i' => if a' = 107 ∧ i' = 11 then 123 else fx_tg La_122 a' i'))
def La_124 : fx_L := (125, (fun a => if a = 124 then 8 else fx_kd La_123 a), (fun a => if a = 124 then 10 else fx_ln La_123 a), (fun a i => if a = 124 then -1 else fx_tg La_123 a i))
def La_125 : fx_L := (125, fx_kd La_124, fx_ln La_124, (fun a' i' => if a' = 107 ∧ i' = 12 then 124 else fx_tg La_124 a' i'))
def La_126 : fx_L := (126, (fun a => if a = 125 then 8 else fx_kd La_125 a), (fun a => if a = 125 then 10 else fx_ln La_125 a), (fun a i => if a = 125 then -1 else fx_tg La_125 a i))
def La_127 : fx_L := (126, fx_kd La_126, fx_ln La_126, (fun a' i' => if a' = 107 ∧ i' = 13 then 125 else fx_tg La_126 a' i'))
def La_128 : fx_L := (126, (fun a' => if a' = 107 then 4 else fx_kd La_127 a'), fx_ln La_127, fx_tg La_127)
def fi_X4_init_9 (Fu : Nat) (h : fx_H) : Option fx_H :=
  (f_X4_begin Fu La_128 107 (fx_z (fx_z (fx_z (fx_z (fx_zg (fx_zg (fx_z (fx_z h 108) 109) 110) 116) 122) 123) 124) 125)).bind fun h1 =>
  some h1
abbrev rmi_X4_init_9 : Room := { frames := 3, cells := 18, slots := 129, locals := 66 }
set_option maxRecDepth 100000 in
set_option maxHeartbeats 8000000 in
theorem mi_X4_init_9 (Fu : Nat) (h ho : fx_H) (hf : fi_X4_init_9 Fu h = some ho) : fx_MetC yX4_init cX4_init 1 rmi_X4_init_9 18 129 La_111 [(18, 107)] h La_128 ho := by
  unfold fi_X4_init_9 at hf
  refine fx_enterC (ls := [some (18, 107)]) (by decide) rfl (Nat.le_of_ble_eq_true rfl) rfl (fun M D cy ad ex A F K => ?_)
  refine fx_aload_n (pc := 0) (t := 16) F.1 0 rfl rfl dX4_init_0 ?_
  refine fx_objI (pc := 1) (k := 16) F (by decide) wM_X4_3 wIn_objectInit wCo_objectInit (by decide) (Nat.le_of_ble_eq_true rfl) dX4_init_1 ?_
  refine fx_aload_n (pc := 4) (t := 16) F.1 0 rfl rfl dX4_init_4 ?_
  refine fx_bipush (pc := 5) F.1 ⟨by decide, by decide⟩ (by decide) dX4_init_5 ?_
  refine fx_newarr (pc := 7) (atype := .int) (ty := .int) F 8 1 rfl (Or.inr (Or.inl ⟨rfl, rfl, rfl⟩)) ⟨by decide, by decide⟩ wA_int ⟨by decide, by decide⟩ dX4_init_7 (fun ad F => ?_)
  have K := fx_FrC_inc (a := 1) (b := 9) K
  show fx_J _ _ La_112 1 9 [some (18, 107)] [(10, 108), (18, 107)] (fx_z h 108)
  refine fx_putF (pc := 9) (ty := .array .int) F K 4 6 8 6 rfl kC_X4 (by decide) ⟨_, rfl⟩ rfl rfl (by decide +kernel) (fun _ => ⟨rfl, rfl⟩) wF_X4_9 dX4_init_9 (fun F => ?_)
  show fx_J _ _ La_113 1 12 [some (18, 107)] [] (fx_z h 108)
  refine fx_aload_n (pc := 12) (t := 16) F.1 0 rfl rfl dX4_init_12 ?_
  refine fx_iconst (pc := 13) F.1 ⟨by decide, by decide⟩ dX4_init_13 ?_
  refine fx_newarr (pc := 14) (atype := .int) (ty := .int) F 8 1 rfl (Or.inr (Or.inl ⟨rfl, rfl, rfl⟩)) ⟨by decide, by decide⟩ wA_int ⟨by decide, by decide⟩ dX4_init_14 (fun ad F => ?_)
  have K := fx_FrC_inc (a := 1) (b := 5) K
  show fx_J _ _ La_114 1 16 [some (18, 107)] [(10, 109), (18, 107)] (fx_z (fx_z h 108) 109)
  refine fx_putF (pc := 16) (ty := .array .int) F K 4 7 8 7 rfl kC_X4 (by decide) ⟨_, rfl⟩ rfl rfl (by decide +kernel) (fun _ => ⟨rfl, rfl⟩) wF_X4_15 dX4_init_16 (fun F => ?_)
  show fx_J _ _ La_115 1 19 [some (18, 107)] [] (fx_z (fx_z h 108) 109)
  refine fx_aload_n (pc := 19) (t := 16) F.1 0 rfl rfl dX4_init_19 ?_
  refine fx_iconst (pc := 20) F.1 ⟨by decide, by decide⟩ dX4_init_20 ?_
  refine fx_iconst (pc := 21) F.1 ⟨by decide, by decide⟩ dX4_init_21 ?_
  refine fx_mna (pc := 22) F 5 5 ⟨by decide, by decide⟩ wC_X4_18 wA_int ⟨by decide, by decide⟩ dX4_init_22 (fun ad F => ?_)
  have K := fx_FrC_inc (a := (1 + 5)) (b := (5 + 5 * 5)) K
  show fx_J _ _ La_116 1 26 [some (18, 107)] [(13, 110), (18, 107)] (fx_zg (fx_z (fx_z h 108) 109) 110)
  refine fx_putF (pc := 26) (ty := .array (.array .int)) F K 4 8 11 8 rfl kC_X4 (by decide) ⟨_, rfl⟩ rfl rfl (by decide +kernel) (fun _ => ⟨rfl, rfl⟩) wF_X4_20 dX4_init_26 (fun F => ?_)
  show fx_J _ _ La_117 1 29 [some (18, 107)] [] (fx_zg (fx_z (fx_z h 108) 109) 110)
  refine fx_aload_n (pc := 29) (t := 16) F.1 0 rfl rfl dX4_init_29 ?_
  refine fx_iconst (pc := 30) F.1 ⟨by decide, by decide⟩ dX4_init_30 ?_
  refine fx_bipush (pc := 31) F.1 ⟨by decide, by decide⟩ (by decide) dX4_init_31 ?_
  refine fx_mna (pc := 33) F 5 9 ⟨by decide, by decide⟩ wC_X4_18 wA_int ⟨by decide, by decide⟩ dX4_init_33 (fun ad F => ?_)
  have K := fx_FrC_inc (a := (1 + 5)) (b := (5 + 5 * 9)) K
  show fx_J _ _ La_118 1 37 [some (18, 107)] [(13, 116), (18, 107)] (fx_zg (fx_zg (fx_z (fx_z h 108) 109) 110) 116)
  refine fx_putF (pc := 37) (ty := .array (.array .int)) F K 4 9 11 9 rfl kC_X4 (by decide) ⟨_, rfl⟩ rfl rfl (by decide +kernel) (fun _ => ⟨rfl, rfl⟩) wF_X4_23 dX4_init_37 (fun F => ?_)
  show fx_J _ _ La_119 1 40 [some (18, 107)] [] (fx_zg (fx_zg (fx_z (fx_z h 108) 109) 110) 116)
  refine fx_aload_n (pc := 40) (t := 16) F.1 0 rfl rfl dX4_init_40 ?_
  refine fx_iconst (pc := 41) F.1 ⟨by decide, by decide⟩ dX4_init_41 ?_
  refine fx_newarr (pc := 42) (atype := .int) (ty := .int) F 8 1 rfl (Or.inr (Or.inl ⟨rfl, rfl, rfl⟩)) ⟨by decide, by decide⟩ wA_int ⟨by decide, by decide⟩ dX4_init_42 (fun ad F => ?_)
  have K := fx_FrC_inc (a := 1) (b := 5) K
  show fx_J _ _ La_120 1 44 [some (18, 107)] [(10, 122), (18, 107)] (fx_z (fx_zg (fx_zg (fx_z (fx_z h 108) 109) 110) 116) 122)
  refine fx_putF (pc := 44) (ty := .array .int) F K 4 10 8 10 rfl kC_X4 (by decide) ⟨_, rfl⟩ rfl rfl (by decide +kernel) (fun _ => ⟨rfl, rfl⟩) wF_X4_26 dX4_init_44 (fun F => ?_)
  show fx_J _ _ La_121 1 47 [some (18, 107)] [] (fx_z (fx_zg (fx_zg (fx_z (fx_z h 108) 109) 110) 116) 122)
  refine fx_aload_n (pc := 47) (t := 16) F.1 0 rfl rfl dX4_init_47 ?_
  refine fx_bipush (pc := 48) F.1 ⟨by decide, by decide⟩ (by decide) dX4_init_48 ?_
  refine fx_newarr (pc := 50) (atype := .int) (ty := .int) F 8 1 rfl (Or.inr (Or.inl ⟨rfl, rfl, rfl⟩)) ⟨by decide, by decide⟩ wA_int ⟨by decide, by decide⟩ dX4_init_50 (fun ad F => ?_)
  have K := fx_FrC_inc (a := 1) (b := 10) K
  show fx_J _ _ La_122 1 52 [some (18, 107)] [(10, 123), (18, 107)] (fx_z (fx_z (fx_zg (fx_zg (fx_z (fx_z h 108) 109) 110) 116) 122) 123)
  refine fx_putF (pc := 52) (ty := .array .int) F K 4 11 8 11 rfl kC_X4 (by decide) ⟨_, rfl⟩ rfl rfl (by decide +kernel) (fun _ => ⟨rfl, rfl⟩) wF_X4_29 dX4_init_52 (fun F => ?_)
  show fx_J _ _ La_123 1 55 [some (18, 107)] [] (fx_z (fx_z (fx_zg (fx_zg (fx_z (fx_z h 108) 109) 110) 116) 122) 123)
  refine fx_aload_n (pc := 55) (t := 16) F.1 0 rfl rfl dX4_init_55 ?_
  refine fx_bipush (pc := 56) F.1 ⟨by decide, by decide⟩ (by decide) dX4_init_56 ?_
  refine fx_newarr (pc := 58) (atype := .int) (ty := .int) F 8 1 rfl (Or.inr (Or.inl ⟨rfl, rfl, rfl⟩)) ⟨by decide, by decide⟩ wA_int ⟨by decide, by decide⟩ dX4_init_58 (fun ad F => ?_)
  have K := fx_FrC_inc (a := 1) (b := 10) K
  show fx_J _ _ La_124 1 60 [some (18, 107)] [(10, 124), (18, 107)] (fx_z (fx_z (fx_z (fx_zg (fx_zg (fx_z (fx_z h 108) 109) 110) 116) 122) 123) 124)
  refine fx_putF (pc := 60) (ty := .array .int) F K 4 12 8 12 rfl kC_X4 (by decide) ⟨_, rfl⟩ rfl rfl (by decide +kernel) (fun _ => ⟨rfl, rfl⟩) wF_X4_32 dX4_init_60 (fun F => ?_)
  show fx_J _ _ La_125 1 63 [some (18, 107)] [] (fx_z (fx_z (fx_z (fx_zg (fx_zg (fx_z (fx_z h 108) 109) 110) 116) 122) 123) 124)
  refine fx_aload_n (pc := 63) (t := 16) F.1 0 rfl rfl dX4_init_63 ?_
  refine fx_bipush (pc := 64) F.1 ⟨by decide, by decide⟩ (by decide) dX4_init_64 ?_
  refine fx_newarr (pc := 66) (atype := .int) (ty := .int) F 8 1 rfl (Or.inr (Or.inl ⟨rfl, rfl, rfl⟩)) ⟨by decide, by decide⟩ wA_int ⟨by decide, by decide⟩ dX4_init_66 (fun ad F => ?_)
  have K := fx_FrC_inc (a := 1) (b := 10) K
  show fx_J _ _ La_126 1 68 [some (18, 107)] [(10, 125), (18, 107)] (fx_z (fx_z (fx_z (fx_z (fx_zg (fx_zg (fx_z (fx_z h 108) 109) 110) 116) 122) 123) 124) 125)
  refine fx_putF (pc := 68) (ty := .array .int) F K 4 13 8 13 rfl kC_X4 (by decide) ⟨_, rfl⟩ rfl rfl (by decide +kernel) (fun _ => ⟨rfl, rfl⟩) wF_X4_35 dX4_init_68 (fun F => ?_)
  show fx_J _ _ La_127 1 71 [some (18, 107)] [] (fx_z (fx_z (fx_z (fx_z (fx_zg (fx_zg (fx_z (fx_z h 108) 109) 110) 116) 122) 123) 124) 125)
  refine fx_seal (pc := 71) (ls' := [some (6, 107)]) (st' := []) F (a := 107) 16 4 (by decide) ⟨by decide, by decide +kernel, by decide +kernel⟩ ⟨fun _ => fx_chk_use (Λ := fx_skd La_127 107 4) (by decide +kernel), fun q => absurd q (by decide)⟩ rfl rfl (fun F => ?_)
  show fx_J _ _ La_128 1 71 [some (6, 107)] [] (fx_z (fx_z (fx_z (fx_z (fx_zg (fx_zg (fx_z (fx_z h 108) 109) 110) 116) 122) 123) 124) 125)
  refine fx_aload_n (pc := 71) (t := 4) F.1 0 rfl rfl dX4_init_71 ?_
  obtain ⟨h1, e2, hf⟩ := fx_bnd hf
  refine fx_cVv (pc := 72) F.1 4 kC_X4 [] 107 [] (m_X4_begin Fu La_128 107 (fx_z (fx_z (fx_z (fx_z (fx_zg (fx_zg (fx_z (fx_z h 108) 109) 110) 116) 122) 123) 124) 125) _ e2) kD_X4_begin kI_X4_begin rfl wM_X4_38 ⟨rfl, rfl⟩ ⟨by decide, by decide⟩ (Nat.le_of_ble_eq_true rfl) rfl dX4_init_72 ?_
  cases hf
  exact fx_vretC (pc := 75) F K dX4_init_75
