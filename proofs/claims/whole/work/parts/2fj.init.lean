def La_132 : fx_L := fx_push La_131 18 0 (fun _ => -1)
def La_133 : fx_L := fx_push La_132 8 125 (fun _ => -1)
def La_134 : fx_L := fx_stg La_133 126 0 127
def La_135 : fx_L := fx_push La_134 8 250 (fun _ => -1)
def La_136 : fx_L := fx_stg La_135 126 1 128
def La_137 : fx_L := fx_push La_136 9 2 (fun _ => -1)
def La_138 : fx_L := fx_stg La_137 126 2 129
def La_139 : fx_L := fx_push La_138 8 3 (fun _ => -1)
def La_140 : fx_L := fx_stg La_139 126 3 130
def La_141 : fx_L := fx_push La_140 8 9 (fun _ => -1)
def La_142 : fx_L := fx_stg La_141 126 6 131
def La_143 : fx_L := fx_push La_142 8 9 (fun _ => -1)
def La_144 : fx_L := fx_stg La_143 126 7 132
def La_145 : fx_L := fx_push La_144 8 25 (fun _ => -1)
def La_146 : fx_L := fx_stg La_145 126 8 133
def La_147 : fx_L := fx_push La_146 8 3000 (fun _ => -1)
def La_148 : fx_L := fx_stg La_147 126 9 134
def La_149 : fx_L := fx_push La_148 8 5 (fun _ => -1)
def La_150 : fx_L := fx_stg La_149 126 10 135
def La_151 : fx_L := fx_push La_150 8 10 (fun _ => -1)
def La_152 : fx_L := fx_stg La_151 126 11 136
def La_153 : fx_L := fx_push La_152 8 5 (fun _ => -1)
def La_154 : fx_L := fx_stg La_153 126 12 137
def La_155 : fx_L := fx_push La_154 8 25 (fun _ => -1)
def La_156 : fx_L := fx_stg La_155 126 13 138
def La_157 : fx_L := fx_push La_156 8 5 (fun _ => -1)
def La_158 : fx_L := fx_stg La_157 126 14 139
def La_159 : fx_L := fx_push La_158 8 5 (fun _ => -1)
def La_160 : fx_L := fx_stg La_159 126 15 140
def La_161 : fx_L := fx_push La_160 8 250 (fun _ => -1)
def La_162 : fx_L := fx_stg La_161 126 16 141
def La_163 : fx_L := fx_push La_162 8 95 (fun _ => -1)
def La_164 : fx_L := fx_stg La_163 126 22 142
def La_165 : fx_L := fx_push La_164 8 3 (fun _ => -1)
def La_166 : fx_L := fx_stg La_165 126 24 143
def La_167 : fx_L := fx_skd La_166 126 6
def fi_X6_init_10 (Fu : Nat) (h : fx_H) : Option fx_H :=
  (fx_wr La_167 (fx_z (fx_z (fx_z (fx_z (fx_z (fx_z (fx_z (fx_z (fx_z (fx_z (fx_z (fx_z (fx_z (fx_up (fx_z (fx_z (fx_z (fx_z h 127) 128) 129) 130) 126 1000005 1) 131) 132) 133) 134) 135) 136) 137) 138) 139) 140) 141) 142) 143) 127 12 4).bind fun h1 =>
  (f_X6_begin Fu La_167 127 3 4 h1).bind fun h3 =>
  some h3
abbrev rmi_X6_init_10 : Room := { frames := 1, cells := 17, slots := 3826, locals := 23 }
set_option maxRecDepth 100000 in
set_option maxHeartbeats 8000000 in
theorem mi_X6_init_10 (Fu : Nat) (h ho : fx_H) (hf : fi_X6_init_10 Fu h = some ho) : fx_MetC yX6_init cX6_init 1 rmi_X6_init_10 17 3826 La_132 [(20, 126)] h La_167 ho := by
  unfold fi_X6_init_10 at hf
  refine fx_enterC (ls := [some (20, 126)]) (by decide) rfl (Nat.le_of_ble_eq_true rfl) rfl (fun M D cy ad ex A F K => ?_)
  refine fx_aload_n (pc := 0) (t := 18) F.1 0 rfl rfl dX6_init_0 ?_
  refine fx_objI (pc := 1) (k := 18) F (by decide) wM_X6_1 wIn_objectInit wCo_objectInit (by decide) (Nat.le_of_ble_eq_true rfl) dX6_init_1 ?_
  refine fx_aload_n (pc := 4) (t := 18) F.1 0 rfl rfl dX6_init_4 ?_
  refine fx_bipush (pc := 5) F.1 ⟨by decide, by decide⟩ (by decide) dX6_init_5 ?_
  refine fx_newarr2 (pc := 7) (atype := .int) (ty := .int) F 8 1 rfl (Or.inr (Or.inl ⟨rfl, rfl, rfl⟩)) ⟨by decide, by decide⟩ wA_int ⟨by decide, by decide⟩ dX6_init_7 (Λ2 := La_133) (a := 127) rfl (by decide +kernel) rfl (fun ad F => ?_)
  have K := fx_FrC_inc (a := 1) (b := 125) K
  show fx_J _ _ La_133 1 9 [some (20, 126)] [(10, 127), (20, 126)] (fx_z h 127)
  refine fx_putF2 (pc := 9) (ty := .array .int) F K 6 0 8 0 rfl kC_X6 (by decide) ⟨_, rfl⟩ rfl rfl (by decide +kernel) (fun _ => ⟨rfl, rfl⟩) wF_X6_7 dX6_init_9 (Λ2 := La_134) rfl (fun F => ?_)
  show fx_J _ _ La_134 1 12 [some (20, 126)] [] (fx_z h 127)
  refine fx_aload_n (pc := 12) (t := 18) F.1 0 rfl rfl dX6_init_12 ?_
  refine fx_sipush (pc := 13) F.1 ⟨by decide, by decide⟩ (by decide) dX6_init_13 ?_
  refine fx_newarr2 (pc := 16) (atype := .int) (ty := .int) F 8 1 rfl (Or.inr (Or.inl ⟨rfl, rfl, rfl⟩)) ⟨by decide, by decide⟩ wA_int ⟨by decide, by decide⟩ dX6_init_16 (Λ2 := La_135) (a := 128) rfl (by decide +kernel) rfl (fun ad F => ?_)
  have K := fx_FrC_inc (a := 1) (b := 250) K
  show fx_J _ _ La_135 1 18 [some (20, 126)] [(10, 128), (20, 126)] (fx_z (fx_z h 127) 128)
  refine fx_putF2 (pc := 18) (ty := .array .int) F K 6 1 8 1 rfl kC_X6 (by decide) ⟨_, rfl⟩ rfl rfl (by decide +kernel) (fun _ => ⟨rfl, rfl⟩) wF_X6_13 dX6_init_18 (Λ2 := La_136) rfl (fun F => ?_)
  show fx_J _ _ La_136 1 21 [some (20, 126)] [] (fx_z (fx_z h 127) 128)
  refine fx_aload_n (pc := 21) (t := 18) F.1 0 rfl rfl dX6_init_21 ?_
  refine fx_iconst (pc := 22) F.1 ⟨by decide, by decide⟩ dX6_init_22 ?_
  refine fx_newarr2 (pc := 23) (atype := .boolean) (ty := .boolean) F 9 2 rfl (Or.inr (Or.inr ⟨rfl, rfl, rfl⟩)) ⟨by decide, by decide⟩ wA_boolean ⟨by decide, by decide⟩ dX6_init_23 (Λ2 := La_137) (a := 129) rfl (by decide +kernel) rfl (fun ad F => ?_)
  have K := fx_FrC_inc (a := 1) (b := 2) K
  show fx_J _ _ La_137 1 25 [some (20, 126)] [(11, 129), (20, 126)] (fx_z (fx_z (fx_z h 127) 128) 129)
  refine fx_putF2 (pc := 25) (ty := .array .boolean) F K 6 2 9 2 rfl kC_X6 (by decide) ⟨_, rfl⟩ rfl rfl (by decide +kernel) (fun _ => ⟨rfl, rfl⟩) wF_X6_16 dX6_init_25 (Λ2 := La_138) rfl (fun F => ?_)
  show fx_J _ _ La_138 1 28 [some (20, 126)] [] (fx_z (fx_z (fx_z h 127) 128) 129)
  refine fx_aload_n (pc := 28) (t := 18) F.1 0 rfl rfl dX6_init_28 ?_
  refine fx_iconst (pc := 29) F.1 ⟨by decide, by decide⟩ dX6_init_29 ?_
  refine fx_newarr2 (pc := 30) (atype := .int) (ty := .int) F 8 1 rfl (Or.inr (Or.inl ⟨rfl, rfl, rfl⟩)) ⟨by decide, by decide⟩ wA_int ⟨by decide, by decide⟩ dX6_init_30 (Λ2 := La_139) (a := 130) rfl (by decide +kernel) rfl (fun ad F => ?_)
  have K := fx_FrC_inc (a := 1) (b := 3) K
  show fx_J _ _ La_139 1 32 [some (20, 126)] [(10, 130), (20, 126)] (fx_z (fx_z (fx_z (fx_z h 127) 128) 129) 130)
  refine fx_putF2 (pc := 32) (ty := .array .int) F K 6 3 8 3 rfl kC_X6 (by decide) ⟨_, rfl⟩ rfl rfl (by decide +kernel) (fun _ => ⟨rfl, rfl⟩) wF_X6_20 dX6_init_32 (Λ2 := La_140) rfl (fun F => ?_)
  show fx_J _ _ La_140 1 35 [some (20, 126)] [] (fx_z (fx_z (fx_z (fx_z h 127) 128) 129) 130)
  refine fx_aload_n (pc := 35) (t := 18) F.1 0 rfl rfl dX6_init_35 ?_
  refine fx_lconst (pc := 36) (z := 1) F.1 rfl ⟨by decide, by decide⟩ (by decide) dX6_init_36 ?_
  refine fx_putU (pc := 37) F 6 5 1 1000005 (Or.inr ⟨rfl, rfl⟩) kC_X6 rfl rfl (by decide +kernel) wF_X6_23 dX6_init_37 ?_
  refine fx_aload_n (pc := 40) (t := 18) F.1 0 rfl rfl dX6_init_40 ?_
  refine fx_bipush (pc := 41) F.1 ⟨by decide, by decide⟩ (by decide) dX6_init_41 ?_
  refine fx_newarr2 (pc := 43) (atype := .int) (ty := .int) F 8 1 rfl (Or.inr (Or.inl ⟨rfl, rfl, rfl⟩)) ⟨by decide, by decide⟩ wA_int ⟨by decide, by decide⟩ dX6_init_43 (Λ2 := La_141) (a := 131) rfl (by decide +kernel) rfl (fun ad F => ?_)
  have K := fx_FrC_inc (a := 1) (b := 9) K
  show fx_J _ _ La_141 1 45 [some (20, 126)] [(10, 131), (20, 126)] (fx_z (fx_up (fx_z (fx_z (fx_z (fx_z h 127) 128) 129) 130) 126 1000005 1) 131)
  refine fx_putF2 (pc := 45) (ty := .array .int) F K 6 6 8 6 rfl kC_X6 (by decide) ⟨_, rfl⟩ rfl rfl (by decide +kernel) (fun _ => ⟨rfl, rfl⟩) wF_X6_27 dX6_init_45 (Λ2 := La_142) rfl (fun F => ?_)
  show fx_J _ _ La_142 1 48 [some (20, 126)] [] (fx_z (fx_up (fx_z (fx_z (fx_z (fx_z h 127) 128) 129) 130) 126 1000005 1) 131)
  refine fx_aload_n (pc := 48) (t := 18) F.1 0 rfl rfl dX6_init_48 ?_
  refine fx_bipush (pc := 49) F.1 ⟨by decide, by decide⟩ (by decide) dX6_init_49 ?_
  refine fx_newarr2 (pc := 51) (atype := .int) (ty := .int) F 8 1 rfl (Or.inr (Or.inl ⟨rfl, rfl, rfl⟩)) ⟨by decide, by decide⟩ wA_int ⟨by decide, by decide⟩ dX6_init_51 (Λ2 := La_143) (a := 132) rfl (by decide +kernel) rfl (fun ad F => ?_)
  have K := fx_FrC_inc (a := 1) (b := 9) K
  show fx_J _ _ La_143 1 53 [some (20, 126)] [(10, 132), (20, 126)] (fx_z (fx_z (fx_up (fx_z (fx_z (fx_z (fx_z h 127) 128) 129) 130) 126 1000005 1) 131) 132)
  refine fx_putF2 (pc := 53) (ty := .array .int) F K 6 7 8 7 rfl kC_X6 (by decide) ⟨_, rfl⟩ rfl rfl (by decide +kernel) (fun _ => ⟨rfl, rfl⟩) wF_X6_30 dX6_init_53 (Λ2 := La_144) rfl (fun F => ?_)
  show fx_J _ _ La_144 1 56 [some (20, 126)] [] (fx_z (fx_z (fx_up (fx_z (fx_z (fx_z (fx_z h 127) 128) 129) 130) 126 1000005 1) 131) 132)
  refine fx_aload_n (pc := 56) (t := 18) F.1 0 rfl rfl dX6_init_56 ?_
  refine fx_bipush (pc := 57) F.1 ⟨by decide, by decide⟩ (by decide) dX6_init_57 ?_
  refine fx_newarr2 (pc := 59) (atype := .int) (ty := .int) F 8 1 rfl (Or.inr (Or.inl ⟨rfl, rfl, rfl⟩)) ⟨by decide, by decide⟩ wA_int ⟨by decide, by decide⟩ dX6_init_59 (Λ2 := La_145) (a := 133) rfl (by decide +kernel) rfl (fun ad F => ?_)
  have K := fx_FrC_inc (a := 1) (b := 25) K
  show fx_J _ _ La_145 1 61 [some (20, 126)] [(10, 133), (20, 126)] (fx_z (fx_z (fx_z (fx_up (fx_z (fx_z (fx_z (fx_z h 127) 128) 129) 130) 126 1000005 1) 131) 132) 133)
  refine fx_putF2 (pc := 61) (ty := .array .int) F K 6 8 8 8 rfl kC_X6 (by decide) ⟨_, rfl⟩ rfl rfl (by decide +kernel) (fun _ => ⟨rfl, rfl⟩) wF_X6_33 dX6_init_61 (Λ2 := La_146) rfl (fun F => ?_)
  show fx_J _ _ La_146 1 64 [some (20, 126)] [] (fx_z (fx_z (fx_z (fx_up (fx_z (fx_z (fx_z (fx_z h 127) 128) 129) 130) 126 1000005 1) 131) 132) 133)
  refine fx_aload_n (pc := 64) (t := 18) F.1 0 rfl rfl dX6_init_64 ?_
  refine fx_sipush (pc := 65) F.1 ⟨by decide, by decide⟩ (by decide) dX6_init_65 ?_
  refine fx_newarr2 (pc := 68) (atype := .int) (ty := .int) F 8 1 rfl (Or.inr (Or.inl ⟨rfl, rfl, rfl⟩)) ⟨by decide, by decide⟩ wA_int ⟨by decide, by decide⟩ dX6_init_68 (Λ2 := La_147) (a := 134) rfl (by decide +kernel) rfl (fun ad F => ?_)
  have K := fx_FrC_inc (a := 1) (b := 3000) K
  show fx_J _ _ La_147 1 70 [some (20, 126)] [(10, 134), (20, 126)] (fx_z (fx_z (fx_z (fx_z (fx_up (fx_z (fx_z (fx_z (fx_z h 127) 128) 129) 130) 126 1000005 1) 131) 132) 133) 134)
  refine fx_putF2 (pc := 70) (ty := .array .int) F K 6 9 8 9 rfl kC_X6 (by decide) ⟨_, rfl⟩ rfl rfl (by decide +kernel) (fun _ => ⟨rfl, rfl⟩) wF_X6_36 dX6_init_70 (Λ2 := La_148) rfl (fun F => ?_)
  show fx_J _ _ La_148 1 73 [some (20, 126)] [] (fx_z (fx_z (fx_z (fx_z (fx_up (fx_z (fx_z (fx_z (fx_z h 127) 128) 129) 130) 126 1000005 1) 131) 132) 133) 134)
  refine fx_aload_n (pc := 73) (t := 18) F.1 0 rfl rfl dX6_init_73 ?_
  refine fx_iconst (pc := 74) F.1 ⟨by decide, by decide⟩ dX6_init_74 ?_
  refine fx_newarr2 (pc := 75) (atype := .int) (ty := .int) F 8 1 rfl (Or.inr (Or.inl ⟨rfl, rfl, rfl⟩)) ⟨by decide, by decide⟩ wA_int ⟨by decide, by decide⟩ dX6_init_75 (Λ2 := La_149) (a := 135) rfl (by decide +kernel) rfl (fun ad F => ?_)
  have K := fx_FrC_inc (a := 1) (b := 5) K
  show fx_J _ _ La_149 1 77 [some (20, 126)] [(10, 135), (20, 126)] (fx_z (fx_z (fx_z (fx_z (fx_z (fx_up (fx_z (fx_z (fx_z (fx_z h 127) 128) 129) 130) 126 1000005 1) 131) 132) 133) 134) 135)
  refine fx_putF2 (pc := 77) (ty := .array .int) F K 6 10 8 10 rfl kC_X6 (by decide) ⟨_, rfl⟩ rfl rfl (by decide +kernel) (fun _ => ⟨rfl, rfl⟩) wF_X6_39 dX6_init_77 (Λ2 := La_150) rfl (fun F => ?_)
  show fx_J _ _ La_150 1 80 [some (20, 126)] [] (fx_z (fx_z (fx_z (fx_z (fx_z (fx_up (fx_z (fx_z (fx_z (fx_z h 127) 128) 129) 130) 126 1000005 1) 131) 132) 133) 134) 135)
  refine fx_aload_n (pc := 80) (t := 18) F.1 0 rfl rfl dX6_init_80 ?_
  refine fx_bipush (pc := 81) F.1 ⟨by decide, by decide⟩ (by decide) dX6_init_81 ?_
  refine fx_newarr2 (pc := 83) (atype := .int) (ty := .int) F 8 1 rfl (Or.inr (Or.inl ⟨rfl, rfl, rfl⟩)) ⟨by decide, by decide⟩ wA_int ⟨by decide, by decide⟩ dX6_init_83 (Λ2 := La_151) (a := 136) rfl (by decide +kernel) rfl (fun ad F => ?_)
  have K := fx_FrC_inc (a := 1) (b := 10) K
  show fx_J _ _ La_151 1 85 [some (20, 126)] [(10, 136), (20, 126)] (fx_z (fx_z (fx_z (fx_z (fx_z (fx_z (fx_up (fx_z (fx_z (fx_z (fx_z h 127) 128) 129) 130) 126 1000005 1) 131) 132) 133) 134) 135) 136)
  refine fx_putF2 (pc := 85) (ty := .array .int) F K 6 11 8 11 rfl kC_X6 (by decide) ⟨_, rfl⟩ rfl rfl (by decide +kernel) (fun _ => ⟨rfl, rfl⟩) wF_X6_42 dX6_init_85 (Λ2 := La_152) rfl (fun F => ?_)
  show fx_J _ _ La_152 1 88 [some (20, 126)] [] (fx_z (fx_z (fx_z (fx_z (fx_z (fx_z (fx_up (fx_z (fx_z (fx_z (fx_z h 127) 128) 129) 130) 126 1000005 1) 131) 132) 133) 134) 135) 136)
  refine fx_aload_n (pc := 88) (t := 18) F.1 0 rfl rfl dX6_init_88 ?_
  refine fx_iconst (pc := 89) F.1 ⟨by decide, by decide⟩ dX6_init_89 ?_
  refine fx_newarr2 (pc := 90) (atype := .int) (ty := .int) F 8 1 rfl (Or.inr (Or.inl ⟨rfl, rfl, rfl⟩)) ⟨by decide, by decide⟩ wA_int ⟨by decide, by decide⟩ dX6_init_90 (Λ2 := La_153) (a := 137) rfl (by decide +kernel) rfl (fun ad F => ?_)
  have K := fx_FrC_inc (a := 1) (b := 5) K
  show fx_J _ _ La_153 1 92 [some (20, 126)] [(10, 137), (20, 126)] (fx_z (fx_z (fx_z (fx_z (fx_z (fx_z (fx_z (fx_up (fx_z (fx_z (fx_z (fx_z h 127) 128) 129) 130) 126 1000005 1) 131) 132) 133) 134) 135) 136) 137)
  refine fx_putF2 (pc := 92) (ty := .array .int) F K 6 12 8 12 rfl kC_X6 (by decide) ⟨_, rfl⟩ rfl rfl (by decide +kernel) (fun _ => ⟨rfl, rfl⟩) wF_X6_45 dX6_init_92 (Λ2 := La_154) rfl (fun F => ?_)
  show fx_J _ _ La_154 1 95 [some (20, 126)] [] (fx_z (fx_z (fx_z (fx_z (fx_z (fx_z (fx_z (fx_up (fx_z (fx_z (fx_z (fx_z h 127) 128) 129) 130) 126 1000005 1) 131) 132) 133) 134) 135) 136) 137)
  refine fx_aload_n (pc := 95) (t := 18) F.1 0 rfl rfl dX6_init_95 ?_
  refine fx_bipush (pc := 96) F.1 ⟨by decide, by decide⟩ (by decide) dX6_init_96 ?_
  refine fx_newarr2 (pc := 98) (atype := .int) (ty := .int) F 8 1 rfl (Or.inr (Or.inl ⟨rfl, rfl, rfl⟩)) ⟨by decide, by decide⟩ wA_int ⟨by decide, by decide⟩ dX6_init_98 (Λ2 := La_155) (a := 138) rfl (by decide +kernel) rfl (fun ad F => ?_)
  have K := fx_FrC_inc (a := 1) (b := 25) K
  show fx_J _ _ La_155 1 100 [some (20, 126)] [(10, 138), (20, 126)] (fx_z (fx_z (fx_z (fx_z (fx_z (fx_z (fx_z (fx_z (fx_up (fx_z (fx_z (fx_z (fx_z h 127) 128) 129) 130) 126 1000005 1) 131) 132) 133) 134) 135) 136) 137) 138)
  refine fx_putF2 (pc := 100) (ty := .array .int) F K 6 13 8 13 rfl kC_X6 (by decide) ⟨_, rfl⟩ rfl rfl (by decide +kernel) (fun _ => ⟨rfl, rfl⟩) wF_X6_48 dX6_init_100 (Λ2 := La_156) rfl (fun F => ?_)
  show fx_J _ _ La_156 1 103 [some (20, 126)] [] (fx_z (fx_z (fx_z (fx_z (fx_z (fx_z (fx_z (fx_z (fx_up (fx_z (fx_z (fx_z (fx_z h 127) 128) 129) 130) 126 1000005 1) 131) 132) 133) 134) 135) 136) 137) 138)
  refine fx_aload_n (pc := 103) (t := 18) F.1 0 rfl rfl dX6_init_103 ?_
  refine fx_iconst (pc := 104) F.1 ⟨by decide, by decide⟩ dX6_init_104 ?_
  refine fx_newarr2 (pc := 105) (atype := .int) (ty := .int) F 8 1 rfl (Or.inr (Or.inl ⟨rfl, rfl, rfl⟩)) ⟨by decide, by decide⟩ wA_int ⟨by decide, by decide⟩ dX6_init_105 (Λ2 := La_157) (a := 139) rfl (by decide +kernel) rfl (fun ad F => ?_)
  have K := fx_FrC_inc (a := 1) (b := 5) K
  show fx_J _ _ La_157 1 107 [some (20, 126)] [(10, 139), (20, 126)] (fx_z (fx_z (fx_z (fx_z (fx_z (fx_z (fx_z (fx_z (fx_z (fx_up (fx_z (fx_z (fx_z (fx_z h 127) 128) 129) 130) 126 1000005 1) 131) 132) 133) 134) 135) 136) 137) 138) 139)
  refine fx_putF2 (pc := 107) (ty := .array .int) F K 6 14 8 14 rfl kC_X6 (by decide) ⟨_, rfl⟩ rfl rfl (by decide +kernel) (fun _ => ⟨rfl, rfl⟩) wF_X6_51 dX6_init_107 (Λ2 := La_158) rfl (fun F => ?_)
  show fx_J _ _ La_158 1 110 [some (20, 126)] [] (fx_z (fx_z (fx_z (fx_z (fx_z (fx_z (fx_z (fx_z (fx_z (fx_up (fx_z (fx_z (fx_z (fx_z h 127) 128) 129) 130) 126 1000005 1) 131) 132) 133) 134) 135) 136) 137) 138) 139)
  refine fx_aload_n (pc := 110) (t := 18) F.1 0 rfl rfl dX6_init_110 ?_
  refine fx_iconst (pc := 111) F.1 ⟨by decide, by decide⟩ dX6_init_111 ?_
  refine fx_newarr2 (pc := 112) (atype := .int) (ty := .int) F 8 1 rfl (Or.inr (Or.inl ⟨rfl, rfl, rfl⟩)) ⟨by decide, by decide⟩ wA_int ⟨by decide, by decide⟩ dX6_init_112 (Λ2 := La_159) (a := 140) rfl (by decide +kernel) rfl (fun ad F => ?_)
  have K := fx_FrC_inc (a := 1) (b := 5) K
  show fx_J _ _ La_159 1 114 [some (20, 126)] [(10, 140), (20, 126)] (fx_z (fx_z (fx_z (fx_z (fx_z (fx_z (fx_z (fx_z (fx_z (fx_z (fx_up (fx_z (fx_z (fx_z (fx_z h 127) 128) 129) 130) 126 1000005 1) 131) 132) 133) 134) 135) 136) 137) 138) 139) 140)
  refine fx_putF2 (pc := 114) (ty := .array .int) F K 6 15 8 15 rfl kC_X6 (by decide) ⟨_, rfl⟩ rfl rfl (by decide +kernel) (fun _ => ⟨rfl, rfl⟩) wF_X6_54 dX6_init_114 (Λ2 := La_160) rfl (fun F => ?_)
  show fx_J _ _ La_160 1 117 [some (20, 126)] [] (fx_z (fx_z (fx_z (fx_z (fx_z (fx_z (fx_z (fx_z (fx_z (fx_z (fx_up (fx_z (fx_z (fx_z (fx_z h 127) 128) 129) 130) 126 1000005 1) 131) 132) 133) 134) 135) 136) 137) 138) 139) 140)
  refine fx_aload_n (pc := 117) (t := 18) F.1 0 rfl rfl dX6_init_117 ?_
  refine fx_sipush (pc := 118) F.1 ⟨by decide, by decide⟩ (by decide) dX6_init_118 ?_
  refine fx_newarr2 (pc := 121) (atype := .int) (ty := .int) F 8 1 rfl (Or.inr (Or.inl ⟨rfl, rfl, rfl⟩)) ⟨by decide, by decide⟩ wA_int ⟨by decide, by decide⟩ dX6_init_121 (Λ2 := La_161) (a := 141) rfl (by decide +kernel) rfl (fun ad F => ?_)
  have K := fx_FrC_inc (a := 1) (b := 250) K
  show fx_J _ _ La_161 1 123 [some (20, 126)] [(10, 141), (20, 126)] (fx_z (fx_z (fx_z (fx_z (fx_z (fx_z (fx_z (fx_z (fx_z (fx_z (fx_z (fx_up (fx_z (fx_z (fx_z (fx_z h 127) 128) 129) 130) 126 1000005 1) 131) 132) 133) 134) 135) 136) 137) 138) 139) 140) 141)
  refine fx_putF2 (pc := 123) (ty := .array .int) F K 6 16 8 16 rfl kC_X6 (by decide) ⟨_, rfl⟩ rfl rfl (by decide +kernel) (fun _ => ⟨rfl, rfl⟩) wF_X6_57 dX6_init_123 (Λ2 := La_162) rfl (fun F => ?_)
  show fx_J _ _ La_162 1 126 [some (20, 126)] [] (fx_z (fx_z (fx_z (fx_z (fx_z (fx_z (fx_z (fx_z (fx_z (fx_z (fx_z (fx_up (fx_z (fx_z (fx_z (fx_z h 127) 128) 129) 130) 126 1000005 1) 131) 132) 133) 134) 135) 136) 137) 138) 139) 140) 141)
  refine fx_aload_n (pc := 126) (t := 18) F.1 0 rfl rfl dX6_init_126 ?_
  refine fx_bipush (pc := 127) F.1 ⟨by decide, by decide⟩ (by decide) dX6_init_127 ?_
  refine fx_newarr2 (pc := 129) (atype := .int) (ty := .int) F 8 1 rfl (Or.inr (Or.inl ⟨rfl, rfl, rfl⟩)) ⟨by decide, by decide⟩ wA_int ⟨by decide, by decide⟩ dX6_init_129 (Λ2 := La_163) (a := 142) rfl (by decide +kernel) rfl (fun ad F => ?_)
  have K := fx_FrC_inc (a := 1) (b := 95) K
  show fx_J _ _ La_163 1 131 [some (20, 126)] [(10, 142), (20, 126)] (fx_z (fx_z (fx_z (fx_z (fx_z (fx_z (fx_z (fx_z (fx_z (fx_z (fx_z (fx_z (fx_up (fx_z (fx_z (fx_z (fx_z h 127) 128) 129) 130) 126 1000005 1) 131) 132) 133) 134) 135) 136) 137) 138) 139) 140) 141) 142)
  refine fx_putF2 (pc := 131) (ty := .array .int) F K 6 22 8 22 rfl kC_X6 (by decide) ⟨_, rfl⟩ rfl rfl (by decide +kernel) (fun _ => ⟨rfl, rfl⟩) wF_X6_60 dX6_init_131 (Λ2 := La_164) rfl (fun F => ?_)
  show fx_J _ _ La_164 1 134 [some (20, 126)] [] (fx_z (fx_z (fx_z (fx_z (fx_z (fx_z (fx_z (fx_z (fx_z (fx_z (fx_z (fx_z (fx_up (fx_z (fx_z (fx_z (fx_z h 127) 128) 129) 130) 126 1000005 1) 131) 132) 133) 134) 135) 136) 137) 138) 139) 140) 141) 142)
  refine fx_aload_n (pc := 134) (t := 18) F.1 0 rfl rfl dX6_init_134 ?_
  refine fx_iconst (pc := 135) F.1 ⟨by decide, by decide⟩ dX6_init_135 ?_
  refine fx_newarr2 (pc := 136) (atype := .int) (ty := .int) F 8 1 rfl (Or.inr (Or.inl ⟨rfl, rfl, rfl⟩)) ⟨by decide, by decide⟩ wA_int ⟨by decide, by decide⟩ dX6_init_136 (Λ2 := La_165) (a := 143) rfl (by decide +kernel) rfl (fun ad F => ?_)
  have K := fx_FrC_inc (a := 1) (b := 3) K
  show fx_J _ _ La_165 1 138 [some (20, 126)] [(10, 143), (20, 126)] (fx_z (fx_z (fx_z (fx_z (fx_z (fx_z (fx_z (fx_z (fx_z (fx_z (fx_z (fx_z (fx_z (fx_up (fx_z (fx_z (fx_z (fx_z h 127) 128) 129) 130) 126 1000005 1) 131) 132) 133) 134) 135) 136) 137) 138) 139) 140) 141) 142) 143)
  refine fx_putF2 (pc := 138) (ty := .array .int) F K 6 24 8 24 rfl kC_X6 (by decide) ⟨_, rfl⟩ rfl rfl (by decide +kernel) (fun _ => ⟨rfl, rfl⟩) wF_X6_63 dX6_init_138 (Λ2 := La_166) rfl (fun F => ?_)
  show fx_J _ _ La_166 1 141 [some (20, 126)] [] (fx_z (fx_z (fx_z (fx_z (fx_z (fx_z (fx_z (fx_z (fx_z (fx_z (fx_z (fx_z (fx_z (fx_up (fx_z (fx_z (fx_z (fx_z h 127) 128) 129) 130) 126 1000005 1) 131) 132) 133) 134) 135) 136) 137) 138) 139) 140) 141) 142) 143)
  refine fx_seal2 (pc := 141) (ls' := [some (8, 126)]) (st' := []) F (a := 126) 18 6 (by decide) ⟨by decide, by decide +kernel, by decide +kernel⟩ (Λ2 := La_167) rfl ⟨fun _ => fx_chk_use (Λ := La_167) (by decide +kernel), fun q => absurd q (by decide)⟩ rfl rfl (fun F => ?_)
  show fx_J _ _ La_167 1 141 [some (8, 126)] [] (fx_z (fx_z (fx_z (fx_z (fx_z (fx_z (fx_z (fx_z (fx_z (fx_z (fx_z (fx_z (fx_z (fx_up (fx_z (fx_z (fx_z (fx_z h 127) 128) 129) 130) 126 1000005 1) 131) 132) 133) 134) 135) 136) 137) 138) 139) 140) 141) 142) 143)
  refine fx_aload_n (pc := 141) (t := 6) F.1 0 rfl rfl dX6_init_141 ?_
  refine fx_gR (pc := 142) F.1 6 0 0 8 rfl kC_X6 (by decide) rfl wF_X6_7 dX6_init_142 ?_
  refine fx_top (X := fx_X) (show fx_tg La_167 126 0 = 127 by decide +kernel) ?_
  refine fx_bipush (pc := 145) F.1 ⟨by decide, by decide⟩ (by decide) dX6_init_145 ?_
  refine fx_iconst (pc := 147) F.1 ⟨by decide, by decide⟩ dX6_init_147 ?_
  obtain ⟨h1, e2, hf⟩ := fx_bnd hf
  refine fx_rastI (pc := 148) F.1 e2 dX6_init_148 ?_
  refine fx_aload_n (pc := 149) (t := 6) F.1 0 rfl rfl dX6_init_149 ?_
  refine fx_gR (pc := 150) F.1 6 0 0 8 rfl kC_X6 (by decide) rfl wF_X6_7 dX6_init_150 ?_
  refine fx_top (X := fx_X) (show fx_tg La_167 126 0 = 127 by decide +kernel) ?_
  refine fx_iconst (pc := 153) F.1 ⟨by decide, by decide⟩ dX6_init_153 ?_
  refine fx_iconst (pc := 154) F.1 ⟨by decide, by decide⟩ dX6_init_154 ?_
  obtain ⟨h3, e4, hf⟩ := fx_bnd hf
  refine fx_cSv (pc := 155) F.1 [(10, 127), (0, 3), (0, 4)] [] (m_X6_begin Fu La_167 127 3 4 h1 _ e4) kD_X6_begin wSt_X6_begin wM_X6_66 ⟨rfl, rfl⟩ ⟨by decide, by decide⟩ (Nat.le_of_ble_eq_true rfl) rfl dX6_init_155 ?_
  cases hf
  exact fx_vretC (pc := 158) F K dX6_init_158
