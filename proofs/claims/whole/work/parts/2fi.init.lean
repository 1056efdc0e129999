def La_129 : fx_L := fx_stg La_128 39 (fx_w (0 + 1)) 107
def La_130 : fx_L := fx_skd La_129 39 10
def La_131 : fx_L := fx_skd La_130 0 5
def fi_X5_init_1 (Fu : Nat) (h : fx_H) : Option fx_H :=
  (fi_X4_init_2 Fu (fx_z h 1)).bind fun h1 =>
  (fi_X4_init_3 Fu (fx_z h1 20)).bind fun h3 =>
  (fi_X3_init_4 Fu (fx_z (fx_z (fx_z h3 39) 40) 41)).bind fun h5 =>
  (fi_X0_init_5 Fu (fx_z h5 43)).bind fun h7 =>
  (fi_X1_init_6 Fu (fx_z h7 48)).bind fun h9 =>
  (fi_X2_init_7 Fu (fx_z h9 84)).bind fun h11 =>
  (fi_X4_init_8 Fu (fx_z h11 88)).bind fun h13 =>
  (fi_X4_init_9 Fu (fx_z h13 107)).bind fun h15 =>
  some (fx_up h15 0 1000009 1)
abbrev rmi_X5_init_1 : Room := { frames := 4, cells := 125, slots := 4277, locals := 86 }
set_option maxRecDepth 100000 in
set_option maxHeartbeats 8000000 in
theorem mi_X5_init_1 (Fu : Nat) (h ho : fx_H) (hf : fi_X5_init_1 Fu h = some ho) : fx_MetC yX5_init cX5_init 2 rmi_X5_init_1 125 4277 La_1 [(19, 0)] h La_131 ho := by
  unfold fi_X5_init_1 at hf
  refine fx_enterC (ls := [some (19, 0), none]) (by decide) rfl (Nat.le_of_ble_eq_true rfl) rfl (fun M D cy ad ex A F K => ?_)
  refine fx_aload_n (pc := 0) (t := 17) F.1 0 rfl rfl dX5_init_0 ?_
  refine fx_objI (pc := 1) (k := 17) F (by decide) wM_X5_1 wIn_objectInit wCo_objectInit (by decide) (Nat.le_of_ble_eq_true rfl) dX5_init_1 ?_
  refine fx_aload_n (pc := 4) (t := 17) F.1 0 rfl rfl dX5_init_4 ?_
  refine fx_new2 (pc := 5) F 4 kC_X4 kF_X4 wC_X5_7 wNew_X4 wI_X4 ⟨by decide, by decide⟩ dX5_init_5 (Λ2 := La_2) (a := 1) rfl (by decide +kernel) rfl (fun ad F => ?_)
  have K := fx_FrC_inc (a := 1) (b := 14) K
  show fx_J _ _ La_2 2 8 [some (19, 0), none] [(18, 1), (19, 0)] (fx_z h 1)
  refine fx_dup (pc := 8) F.1 (show (18 : Nat) ≠ 1 by decide) dX5_init_8 ?_
  obtain ⟨h1, e2, hf⟩ := fx_bnd hf
  refine fx_callC (pc := 9) (ls' := [some (19, 0), none]) (st' := [(6, 1), (19, 0)]) F 16 4 ⟨by decide, by decide⟩ (mi_X4_init_2 Fu (fx_z h 1) _ e2) kD_X4_init rfl wIn_X4_init (Or.inl wM_X5_9) ⟨rfl, rfl⟩ ⟨by decide, by decide⟩ ⟨by decide, by decide⟩ (Nat.le_of_ble_eq_true rfl) (by decide +kernel) rfl rfl dX5_init_9 (fun ad F => ?_)
  have K := fx_FrC_inc (a := 18) (b := 129) K
  show fx_J _ _ La_19 2 12 [some (19, 0), none] [(6, 1), (19, 0)] h1
  refine fx_putF2 (pc := 12) (ty := .object "FinedAlike$Town") F K 5 0 4 0 rfl kC_X5 (by decide) ⟨_, rfl⟩ rfl rfl (by decide +kernel) (fun _ => ⟨rfl, rfl⟩) wF_X5_10 dX5_init_12 (Λ2 := La_20) rfl (fun F => ?_)
  show fx_J _ _ La_20 2 15 [some (19, 0), none] [] h1
  refine fx_aload_n (pc := 15) (t := 17) F.1 0 rfl rfl dX5_init_15 ?_
  refine fx_new2 (pc := 16) F 4 kC_X4 kF_X4 wC_X5_7 wNew_X4 wI_X4 ⟨by decide, by decide⟩ dX5_init_16 (Λ2 := La_21) (a := 20) rfl (by decide +kernel) rfl (fun ad F => ?_)
  have K := fx_FrC_inc (a := 1) (b := 14) K
  show fx_J _ _ La_21 2 19 [some (19, 0), none] [(18, 20), (19, 0)] (fx_z h1 20)
  refine fx_dup (pc := 19) F.1 (show (18 : Nat) ≠ 1 by decide) dX5_init_19 ?_
  obtain ⟨h3, e4, hf⟩ := fx_bnd hf
  refine fx_callC (pc := 20) (ls' := [some (19, 0), none]) (st' := [(6, 20), (19, 0)]) F 16 4 ⟨by decide, by decide⟩ (mi_X4_init_3 Fu (fx_z h1 20) _ e4) kD_X4_init rfl wIn_X4_init (Or.inl wM_X5_9) ⟨rfl, rfl⟩ ⟨by decide, by decide⟩ ⟨by decide, by decide⟩ (Nat.le_of_ble_eq_true rfl) (by decide +kernel) rfl rfl dX5_init_20 (fun ad F => ?_)
  have K := fx_FrC_inc (a := 18) (b := 129) K
  show fx_J _ _ La_38 2 23 [some (19, 0), none] [(6, 20), (19, 0)] h3
  refine fx_putF2 (pc := 23) (ty := .object "FinedAlike$Town") F K 5 1 4 1 rfl kC_X5 (by decide) ⟨_, rfl⟩ rfl rfl (by decide +kernel) (fun _ => ⟨rfl, rfl⟩) wF_X5_16 dX5_init_23 (Λ2 := La_39) rfl (fun F => ?_)
  show fx_J _ _ La_39 2 26 [some (19, 0), none] [] h3
  refine fx_aload_n (pc := 26) (t := 17) F.1 0 rfl rfl dX5_init_26 ?_
  refine fx_iconst (pc := 27) F.1 ⟨by decide, by decide⟩ dX5_init_27 ?_
  refine fx_anew2 (pc := 28) F ⟨by decide, by decide⟩ wC_X5_7 ⟨by decide, by decide⟩ dX5_init_28 (Λ2 := La_40) (a := 39) rfl (by decide +kernel) (fun ad F => ?_)
  have K := fx_FrC_inc (a := 1) (b := 2) K
  show fx_J _ _ La_40 2 31 [some (19, 0), none] [(24, 39), (19, 0)] (fx_z h3 39)
  refine fx_putF2 (pc := 31) (ty := .array (.object "FinedAlike$Town")) F K 5 2 22 2 rfl kC_X5 (by decide) ⟨_, rfl⟩ rfl rfl (by decide +kernel) (fun _ => ⟨rfl, rfl⟩) wF_X5_19 dX5_init_31 (Λ2 := La_41) rfl (fun F => ?_)
  show fx_J _ _ La_41 2 34 [some (19, 0), none] [] (fx_z h3 39)
  refine fx_aload_n (pc := 34) (t := 17) F.1 0 rfl rfl dX5_init_34 ?_
  refine fx_iconst (pc := 35) F.1 ⟨by decide, by decide⟩ dX5_init_35 ?_
  refine fx_newarr2 (pc := 36) (atype := .boolean) (ty := .boolean) F 9 2 rfl (Or.inr (Or.inr ⟨rfl, rfl, rfl⟩)) ⟨by decide, by decide⟩ wA_boolean ⟨by decide, by decide⟩ dX5_init_36 (Λ2 := La_42) (a := 40) rfl (by decide +kernel) rfl (fun ad F => ?_)
  have K := fx_FrC_inc (a := 1) (b := 2) K
  show fx_J _ _ La_42 2 38 [some (19, 0), none] [(11, 40), (19, 0)] (fx_z (fx_z h3 39) 40)
  refine fx_putF2 (pc := 38) (ty := .array .boolean) F K 5 3 9 3 rfl kC_X5 (by decide) ⟨_, rfl⟩ rfl rfl (by decide +kernel) (fun _ => ⟨rfl, rfl⟩) wF_X5_23 dX5_init_38 (Λ2 := La_43) rfl (fun F => ?_)
  show fx_J _ _ La_43 2 41 [some (19, 0), none] [] (fx_z (fx_z h3 39) 40)
  refine fx_aload_n (pc := 41) (t := 17) F.1 0 rfl rfl dX5_init_41 ?_
  refine fx_new2 (pc := 42) F 3 kC_X3 kF_X3 wC_X5_27 wNew_X3 wI_X3 ⟨by decide, by decide⟩ dX5_init_42 (Λ2 := La_44) (a := 41) rfl (by decide +kernel) rfl (fun ad F => ?_)
  have K := fx_FrC_inc (a := 1) (b := 7) K
  show fx_J _ _ La_44 2 45 [some (19, 0), none] [(17, 41), (19, 0)] (fx_z (fx_z (fx_z h3 39) 40) 41)
  refine fx_dup (pc := 45) F.1 (show (17 : Nat) ≠ 1 by decide) dX5_init_45 ?_
  obtain ⟨h5, e6, hf⟩ := fx_bnd hf
  refine fx_callC (pc := 46) (ls' := [some (19, 0), none]) (st' := [(5, 41), (19, 0)]) F 15 3 ⟨by decide, by decide⟩ (mi_X3_init_4 Fu (fx_z (fx_z (fx_z h3 39) 40) 41) _ e6) kD_X3_init rfl wIn_X3_init (Or.inr (by decide +kernel)) ⟨rfl, rfl⟩ ⟨by decide, by decide⟩ ⟨by decide, by decide⟩ (Nat.le_of_ble_eq_true rfl) (by decide +kernel) rfl rfl dX5_init_46 (fun ad F => ?_)
  have K := fx_FrC_inc (a := 1) (b := 250) K
  show fx_J _ _ La_47 2 49 [some (19, 0), none] [(5, 41), (19, 0)] h5
  refine fx_putF2 (pc := 49) (ty := .object "FinedAlike$Text") F K 5 4 3 4 rfl kC_X5 (by decide) ⟨_, rfl⟩ rfl rfl (by decide +kernel) (fun _ => ⟨rfl, rfl⟩) wF_X5_30 dX5_init_49 (Λ2 := La_48) rfl (fun F => ?_)
  show fx_J _ _ La_48 2 52 [some (19, 0), none] [] h5
  refine fx_aload_n (pc := 52) (t := 17) F.1 0 rfl rfl dX5_init_52 ?_
  refine fx_new2 (pc := 53) F 0 kC_X0 kF_X0 wC_X5_34 wNew_X0 wI_X0 ⟨by decide, by decide⟩ dX5_init_53 (Λ2 := La_49) (a := 43) rfl (by decide +kernel) rfl (fun ad F => ?_)
  have K := fx_FrC_inc (a := 1) (b := 6) K
  show fx_J _ _ La_49 2 56 [some (19, 0), none] [(14, 43), (19, 0)] (fx_z h5 43)
  refine fx_dup (pc := 56) F.1 (show (14 : Nat) ≠ 1 by decide) dX5_init_56 ?_
  obtain ⟨h7, e8, hf⟩ := fx_bnd hf
  refine fx_callC (pc := 57) (ls' := [some (19, 0), none]) (st' := [(2, 43), (19, 0)]) F 12 0 ⟨by decide, by decide⟩ (mi_X0_init_5 Fu (fx_z h5 43) _ e8) kD_X0_init rfl wIn_X0_init (Or.inl wM_X5_36) ⟨rfl, rfl⟩ ⟨by decide, by decide⟩ ⟨by decide, by decide⟩ (Nat.le_of_ble_eq_true rfl) (by decide +kernel) rfl rfl dX5_init_57 (fun ad F => ?_)
  have K := fx_FrC_inc (a := 4) (b := 29) K
  show fx_J _ _ La_58 2 60 [some (19, 0), none] [(2, 43), (19, 0)] h7
  refine fx_putF2 (pc := 60) (ty := .object "FinedAlike$Court") F K 5 5 0 5 rfl kC_X5 (by decide) ⟨_, rfl⟩ rfl rfl (by decide +kernel) (fun _ => ⟨rfl, rfl⟩) wF_X5_37 dX5_init_60 (Λ2 := La_59) rfl (fun F => ?_)
  show fx_J _ _ La_59 2 63 [some (19, 0), none] [] h7
  refine fx_aload_n (pc := 63) (t := 17) F.1 0 rfl rfl dX5_init_63 ?_
  refine fx_new2 (pc := 64) F 1 kC_X1 kF_X1 wC_X5_41 wNew_X1 wI_X1 ⟨by decide, by decide⟩ dX5_init_64 (Λ2 := La_60) (a := 48) rfl (by decide +kernel) rfl (fun ad F => ?_)
  have K := fx_FrC_inc (a := 1) (b := 13) K
  show fx_J _ _ La_60 2 67 [some (19, 0), none] [(15, 48), (19, 0)] (fx_z h7 48)
  refine fx_dup (pc := 67) F.1 (show (15 : Nat) ≠ 1 by decide) dX5_init_67 ?_
  obtain ⟨h9, e10, hf⟩ := fx_bnd hf
  refine fx_callC (pc := 68) (ls' := [some (19, 0), none]) (st' := [(3, 48), (19, 0)]) F 13 1 ⟨by decide, by decide⟩ (mi_X1_init_6 Fu (fx_z h7 48) _ e10) kD_X1_init rfl wIn_X1_init (Or.inr (by decide +kernel)) ⟨rfl, rfl⟩ ⟨by decide, by decide⟩ ⟨by decide, by decide⟩ (Nat.le_of_ble_eq_true rfl) (by decide +kernel) rfl rfl dX5_init_68 (fun ad F => ?_)
  have K := fx_FrC_inc (a := 35) (b := 3375) K
  show fx_J _ _ La_81 2 71 [some (19, 0), none] [(3, 48), (19, 0)] h9
  refine fx_putF2 (pc := 71) (ty := .object "FinedAlike$Days") F K 5 6 1 6 rfl kC_X5 (by decide) ⟨_, rfl⟩ rfl rfl (by decide +kernel) (fun _ => ⟨rfl, rfl⟩) wF_X5_44 dX5_init_71 (Λ2 := La_82) rfl (fun F => ?_)
  show fx_J _ _ La_82 2 74 [some (19, 0), none] [] h9
  refine fx_aload_n (pc := 74) (t := 17) F.1 0 rfl rfl dX5_init_74 ?_
  refine fx_new2 (pc := 75) F 2 kC_X2 kF_X2 wC_X5_48 wNew_X2 wI_X2 ⟨by decide, by decide⟩ dX5_init_75 (Λ2 := La_83) (a := 84) rfl (by decide +kernel) rfl (fun ad F => ?_)
  have K := fx_FrC_inc (a := 1) (b := 6) K
  show fx_J _ _ La_83 2 78 [some (19, 0), none] [(16, 84), (19, 0)] (fx_z h9 84)
  refine fx_dup (pc := 78) F.1 (show (16 : Nat) ≠ 1 by decide) dX5_init_78 ?_
  obtain ⟨h11, e12, hf⟩ := fx_bnd hf
  refine fx_callC (pc := 79) (ls' := [some (19, 0), none]) (st' := [(4, 84), (19, 0)]) F 14 2 ⟨by decide, by decide⟩ (mi_X2_init_7 Fu (fx_z h9 84) _ e12) kD_X2_init rfl wIn_X2_init (Or.inr (by decide +kernel)) ⟨rfl, rfl⟩ ⟨by decide, by decide⟩ ⟨by decide, by decide⟩ (Nat.le_of_ble_eq_true rfl) (by decide +kernel) rfl rfl dX5_init_79 (fun ad F => ?_)
  have K := fx_FrC_inc (a := 3) (b := 15) K
  show fx_J _ _ La_90 2 82 [some (19, 0), none] [(4, 84), (19, 0)] h11
  refine fx_putF2 (pc := 82) (ty := .object "FinedAlike$Past") F K 5 7 2 7 rfl kC_X5 (by decide) ⟨_, rfl⟩ rfl rfl (by decide +kernel) (fun _ => ⟨rfl, rfl⟩) wF_X5_51 dX5_init_82 (Λ2 := La_91) rfl (fun F => ?_)
  show fx_J _ _ La_91 2 85 [some (19, 0), none] [] h11
  refine fx_iconst (pc := 85) F.1 ⟨by decide, by decide⟩ dX5_init_85 ?_
  refine fx_istore_n (pc := 86) (ls' := [some (19, 0), some (0, 0)]) F.1 1 rfl (by decide) rfl rfl dX5_init_86 ?_
  refine fx_iload_n (pc := 87) F.1 1 rfl rfl dX5_init_87 ?_
  refine fx_iconst (pc := 88) F.1 ⟨by decide, by decide⟩ dX5_init_88 ?_
  refine fx_nlt (pc := 89) F.1 111 (by decide) dX5_init_89 (fun _ => ?_) (fun q => absurd (by decide) q)
  refine fx_aload_n (pc := 92) (t := 17) F.1 0 rfl rfl dX5_init_92 ?_
  refine fx_getU (pc := 93) F 5 2 22 39 kC_X5 (by decide) ⟨_, rfl⟩ (by decide +kernel) ⟨by decide, by decide +kernel, by decide +kernel⟩ wF_X5_19 dX5_init_93 ?_
  refine fx_iload_n (pc := 96) F.1 1 rfl rfl dX5_init_96 ?_
  refine fx_new2 (pc := 97) F 4 kC_X4 kF_X4 wC_X5_7 wNew_X4 wI_X4 ⟨by decide, by decide⟩ dX5_init_97 (Λ2 := La_92) (a := 88) rfl (by decide +kernel) rfl (fun ad F => ?_)
  have K := fx_FrC_inc (a := 1) (b := 14) K
  show fx_J _ _ La_92 2 100 [some (19, 0), some (0, 0)] [(18, 88), (0, 0), (24, 39)] (fx_z h11 88)
  refine fx_dup (pc := 100) F.1 (show (18 : Nat) ≠ 1 by decide) dX5_init_100 ?_
  obtain ⟨h13, e14, hf⟩ := fx_bnd hf
  refine fx_callC (pc := 101) (ls' := [some (19, 0), some (0, 0)]) (st' := [(6, 88), (0, 0), (24, 39)]) F 16 4 ⟨by decide, by decide⟩ (mi_X4_init_8 Fu (fx_z h11 88) _ e14) kD_X4_init rfl wIn_X4_init (Or.inl wM_X5_9) ⟨rfl, rfl⟩ ⟨by decide, by decide⟩ ⟨by decide, by decide⟩ (Nat.le_of_ble_eq_true rfl) (by decide +kernel) rfl rfl dX5_init_101 (fun ad F => ?_)
  have K := fx_FrC_inc (a := 18) (b := 129) K
  show fx_J _ _ La_109 2 104 [some (19, 0), some (0, 0)] [(6, 88), (0, 0), (24, 39)] h13
  refine fx_astU2 (pc := 104) F (by decide) (by decide +kernel) dX5_init_104 (Λ2 := La_110) rfl (fun F => ?_)
  show fx_J _ _ La_110 2 105 [some (19, 0), some (0, 0)] [] h13
  refine fx_iinc (pc := 105) (ls' := [some (19, 0), some (0, (fx_w (0 + 1)))]) F.1 (by decide) rfl rfl rfl dX5_init_105 ?_
  refine fx_goto (pc := 108) F.1 87 (by decide) dX5_init_108 ?_
  refine fx_iload_n (pc := 87) F.1 1 rfl rfl dX5_init_87 ?_
  refine fx_iconst (pc := 88) F.1 ⟨by decide, by decide⟩ dX5_init_88 ?_
  refine fx_nlt (pc := 89) F.1 111 (by decide) dX5_init_89 (fun _ => ?_) (fun q => absurd (by decide) q)
  refine fx_aload_n (pc := 92) (t := 17) F.1 0 rfl rfl dX5_init_92 ?_
  refine fx_getU (pc := 93) F 5 2 22 39 kC_X5 (by decide) ⟨_, rfl⟩ (by decide +kernel) ⟨by decide, by decide +kernel, by decide +kernel⟩ wF_X5_19 dX5_init_93 ?_
  refine fx_iload_n (pc := 96) F.1 1 rfl rfl dX5_init_96 ?_
  refine fx_new2 (pc := 97) F 4 kC_X4 kF_X4 wC_X5_7 wNew_X4 wI_X4 ⟨by decide, by decide⟩ dX5_init_97 (Λ2 := La_111) (a := 107) rfl (by decide +kernel) rfl (fun ad F => ?_)
  have K := fx_FrC_inc (a := 1) (b := 14) K
  show fx_J _ _ La_111 2 100 [some (19, 0), some (0, (fx_w (0 + 1)))] [(18, 107), (0, (fx_w (0 + 1))), (24, 39)] (fx_z h13 107)
  refine fx_dup (pc := 100) F.1 (show (18 : Nat) ≠ 1 by decide) dX5_init_100 ?_
  obtain ⟨h15, e16, hf⟩ := fx_bnd hf
  refine fx_callC (pc := 101) (ls' := [some (19, 0), some (0, (fx_w (0 + 1)))]) (st' := [(6, 107), (0, (fx_w (0 + 1))), (24, 39)]) F 16 4 ⟨by decide, by decide⟩ (mi_X4_init_9 Fu (fx_z h13 107) _ e16) kD_X4_init rfl wIn_X4_init (Or.inl wM_X5_9) ⟨rfl, rfl⟩ ⟨by decide, by decide⟩ ⟨by decide, by decide⟩ (Nat.le_of_ble_eq_true rfl) (by decide +kernel) rfl rfl dX5_init_101 (fun ad F => ?_)
  have K := fx_FrC_inc (a := 18) (b := 129) K
  show fx_J _ _ La_128 2 104 [some (19, 0), some (0, (fx_w (0 + 1)))] [(6, 107), (0, (fx_w (0 + 1))), (24, 39)] h15
  refine fx_astU2 (pc := 104) F (by decide) (by decide +kernel) dX5_init_104 (Λ2 := La_129) rfl (fun F => ?_)
  show fx_J _ _ La_129 2 105 [some (19, 0), some (0, (fx_w (0 + 1)))] [] h15
  refine fx_seal2 (pc := 105) (ls' := [some (19, 0), some (0, (fx_w (0 + 1)))]) (st' := []) F (a := 39) 22 10 (by decide) ⟨by decide, by decide +kernel, by decide +kernel⟩ (Λ2 := La_130) rfl ⟨fun q => absurd q (by decide), fun _ i i0 i1 => fx_chk10 (Λ := La_130) 2 (by decide +kernel) i i0 (by have : fx_ln La_129 39 = 2 := (by decide +kernel); omega)⟩ rfl rfl (fun F => ?_)
  show fx_J _ _ La_130 2 105 [some (19, 0), some (0, (fx_w (0 + 1)))] [] h15
  refine fx_seal2 (pc := 105) (ls' := [some (7, 0), some (0, (fx_w (0 + 1)))]) (st' := []) F (a := 0) 17 5 (by decide) ⟨by decide, by decide +kernel, by decide +kernel⟩ (Λ2 := La_131) rfl ⟨fun _ => fx_chk_use (Λ := La_131) (by decide +kernel), fun q => absurd q (by decide)⟩ rfl rfl (fun F => ?_)
  show fx_J _ _ La_131 2 105 [some (7, 0), some (0, (fx_w (0 + 1)))] [] h15
  refine fx_iinc (pc := 105) (ls' := [some (7, 0), some (0, (fx_w ((fx_w (0 + 1)) + 1)))]) F.1 (by decide) rfl rfl rfl dX5_init_105 ?_
  refine fx_goto (pc := 108) F.1 87 (by decide) dX5_init_108 ?_
  refine fx_iload_n (pc := 87) F.1 1 rfl rfl dX5_init_87 ?_
  refine fx_iconst (pc := 88) F.1 ⟨by decide, by decide⟩ dX5_init_88 ?_
  refine fx_nlt (pc := 89) F.1 111 (by decide) dX5_init_89 (fun q => absurd q (by decide)) (fun _ => ?_)
  refine fx_aload_n (pc := 111) (t := 5) F.1 0 rfl rfl dX5_init_111 ?_
  refine fx_lconst (pc := 112) (z := 1) F.1 rfl ⟨by decide, by decide⟩ (by decide) dX5_init_112 ?_
  refine fx_pL (pc := 113) F.1 5 9 1000009 rfl kC_X5 rfl rfl (by decide +kernel) wF_X5_55 dX5_init_113 ?_
  cases hf
  exact fx_vretC (pc := 116) F K dX5_init_116
