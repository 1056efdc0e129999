def s_X6_takeRow_1 (Fu : Nat) (Λ : fx_L) (this_3 : Int) (p_4 : Int) (row_5 : Int) (many_6 : Int) : Int × fx_H → Option ((Int × fx_H) ⊕ (Int × fx_H)) := fun (h_1, h2) =>
  if h_1 < many_6 then
    (fx_rd Λ h2 (fx_tg Λ this_3 9) (fx_w ((fx_w (5 * (fx_w ((fx_w (120 * p_4)) + row_5)))) + h_1))).bind fun v9 =>
    (fx_wr Λ h2 (fx_tg Λ this_3 8) (fx_w ((fx_w (5 * p_4)) + h_1)) v9).bind fun h11 =>
    some (.inl ((fx_w (h_1 + 1)), h11))
  else
    some (.inr (h_1, h2))
def f_X6_takeRow (Fu : Nat) (Λ : fx_L) (this_0 : Int) (p_0 : Int) (row_0 : Int) (many_0 : Int) (h : fx_H) : Option (fx_H) :=
  Option.bind (fx_loop (s_X6_takeRow_1 Fu Λ this_0 p_0 row_0 many_0) Fu (0, h)) fun (h_21, h22) =>
  some h22
abbrev rm_X6_takeRow : Room := { frames := 0, cells := 0, slots := 0, locals := 0 }
set_option maxRecDepth 100000 in
set_option maxHeartbeats 4000000 in
theorem m_X6_takeRow (Fu : Nat) (Λ : fx_L) (this_0 : Int) (p_0 : Int) (row_0 : Int) (many_0 : Int) (h : fx_H) (ho : fx_H) (hf : f_X6_takeRow Fu Λ this_0 p_0 row_0 many_0 h = some ho) : fx_Met yX6_takeRow cX6_takeRow 5 none rm_X6_takeRow Λ [(8, this_0), (0, p_0), (0, row_0), (0, many_0)] h none ho := by
  unfold f_X6_takeRow at hf
  refine fx_enter (ls := [some (8, this_0), some (0, p_0), some (0, row_0), some (0, many_0), none]) (by decide) (Nat.le_of_ble_eq_true rfl) rfl (fun M G F K => ?_)
  refine fx_iconst (pc := 0) F ⟨by decide, by decide⟩ dX6_takeRow_0 ?_
  refine fx_istore (pc := 1) (ls' := [some (8, this_0), some (0, p_0), some (0, row_0), some (0, many_0), some (0, 0)]) F (by decide) rfl rfl dX6_takeRow_1 ?_
  obtain ⟨⟨h_21, h22⟩, e23, hf⟩ := fx_bnd hf
  have hE24 : fx_J M G Λ 5 42 [some (8, this_0), some (0, p_0), some (0, row_0), some (0, many_0), some (0, h_21)] [] h22 := by
    cases hf
    exact fx_vreturn (pc := 42) F K dX6_takeRow_42
  refine fx_loop_J (Hd := (fun z : Int × fx_H => fx_J M G Λ 5 3 [some (8, this_0), some (0, p_0), some (0, row_0), some (0, many_0), some (0, z.1)] [] z.2)) (Ex := (fun z : Int × fx_H => fx_J M G Λ 5 42 [some (8, this_0), some (0, p_0), some (0, row_0), some (0, many_0), some (0, z.1)] [] z.2)) ?_ Fu _ _ e23 hE24
  rintro ⟨h_13, h14⟩ o9 eq15 ih ex
  unfold s_X6_takeRow_1 at eq15
  show fx_J M G Λ 5 3 [some (8, this_0), some (0, p_0), some (0, row_0), some (0, many_0), some (0, h_13)] [] h14
  refine fx_iload (pc := 3) F rfl dX6_takeRow_3 ?_
  refine fx_iload_n (pc := 5) F 3 rfl rfl dX6_takeRow_5 ?_
  refine fx_nlt (pc := 6) F 42 (by decide) dX6_takeRow_6 (fun c16 => ?_) (fun c16 => ?_)
  · have eq15 := (if_pos c16).symm.trans eq15
    refine fx_aload_n (pc := 9) (t := 6) F 0 rfl rfl dX6_takeRow_9 ?_
    refine fx_gR (pc := 10) F 6 8 8 8 rfl kC_X6 (by decide) rfl wF_X6_33 dX6_takeRow_10 ?_
    refine fx_iconst (pc := 13) F ⟨by decide, by decide⟩ dX6_takeRow_13 ?_
    refine fx_iload_n (pc := 14) F 1 rfl rfl dX6_takeRow_14 ?_
    refine fx_imul (pc := 15) F dX6_takeRow_15 ?_
    refine fx_iload (pc := 16) F rfl dX6_takeRow_16 ?_
    refine fx_iadd (pc := 18) F dX6_takeRow_18 ?_
    refine fx_aload_n (pc := 19) (t := 6) F 0 rfl rfl dX6_takeRow_19 ?_
    refine fx_gR (pc := 20) F 6 9 9 8 rfl kC_X6 (by decide) rfl wF_X6_36 dX6_takeRow_20 ?_
    refine fx_iconst (pc := 23) F ⟨by decide, by decide⟩ dX6_takeRow_23 ?_
    refine fx_bipush (pc := 24) F ⟨by decide, by decide⟩ (by decide) dX6_takeRow_24 ?_
    refine fx_iload_n (pc := 26) F 1 rfl rfl dX6_takeRow_26 ?_
    refine fx_imul (pc := 27) F dX6_takeRow_27 ?_
    refine fx_iload_n (pc := 28) F 2 rfl rfl dX6_takeRow_28 ?_
    refine fx_iadd (pc := 29) F dX6_takeRow_29 ?_
    refine fx_imul (pc := 30) F dX6_takeRow_30 ?_
    refine fx_iload (pc := 31) F rfl dX6_takeRow_31 ?_
    refine fx_iadd (pc := 33) F dX6_takeRow_33 ?_
    obtain ⟨v17, e18, eq15⟩ := fx_bnd eq15
    refine fx_raldI (pc := 34) F e18 dX6_takeRow_34 ?_
    obtain ⟨h19, e20, eq15⟩ := fx_bnd eq15
    refine fx_rastI (pc := 35) F e20 dX6_takeRow_35 ?_
    refine fx_iinc (pc := 36) (ls' := [some (8, this_0), some (0, p_0), some (0, row_0), some (0, many_0), some (0, (fx_w (h_13 + 1)))]) F (by decide) rfl rfl rfl dX6_takeRow_36 ?_
    refine fx_goto (pc := 39) F 3 (by decide) dX6_takeRow_39 ?_
    cases eq15
    exact ih _ rfl
  · have eq15 := (if_neg c16).symm.trans eq15
    cases eq15
    exact ex _ rfl
def s_X6_findLeast_2 (Fu : Nat) (Λ : fx_L) (this_18 : Int) (many_19 : Int) : Int × Int × fx_H → Option ((Int × Int × fx_H) ⊕ (Int × Int × fx_H)) := fun (left0_15, p_16, h17) =>
  if 0 ≤ p_16 then
    (fx_rd Λ h17 (fx_tg Λ this_18 10) p_16).bind fun v22 =>
    (fx_rml left0_15 v22).bind fun v24 =>
    (f_X6_takeRow Fu Λ this_18 p_16 (fx_w v24) many_19 h17).bind fun h26 =>
    (fx_rd Λ h26 (fx_tg Λ this_18 10) p_16).bind fun v28 =>
    (fx_dvl left0_15 v28).bind fun v30 =>
    some (.inl (v30, (fx_w (p_16 + (-1))), h26))
  else
    some (.inr (left0_15, p_16, h17))
def s_X6_findLeast_3 (Fu : Nat) (Λ : fx_L) (this_57 : Int) : Int × fx_H → Option ((Int × fx_H) ⊕ (Int × fx_H)) := fun (k_55, h56) =>
  if k_55 < 25 then
    (fx_rd Λ h56 (fx_tg Λ this_57 8) k_55).bind fun v60 =>
    (fx_wr Λ h56 (fx_tg Λ this_57 13) k_55 v60).bind fun h62 =>
    some (.inl ((fx_w (k_55 + 1)), h62))
  else
    some (.inr (k_55, h56))
def s_X6_findLeast_1 (Fu : Nat) (Λ : fx_L) (this_8 : Int) (many_9 : Int) (ways_10 : Int) : Int × Int × fx_H → Option ((Int × Int × fx_H) ⊕ (Int × Int × fx_H)) := fun (least_5, way_6, h7) =>
  if way_6 < ways_10 then
    (f_X6_people Fu Λ this_8 h7).bind fun v13 =>
    Option.bind (fx_loop (s_X6_findLeast_2 Fu Λ this_8 many_9) Fu (way_6, (fx_w (v13 - 1)), h7)) fun (left0_47, p_48, h49) =>
    (f_X6_allIn Fu Λ this_8 many_9 h49).bind fun v52 =>
    if v52 < least_5 then
      Option.bind (fx_loop (s_X6_findLeast_3 Fu Λ this_8) Fu (0, h49)) fun (k_72, h73) =>
      some (.inl (v52, (fx_wl (way_6 + 1)), h73))
    else
      some (.inl (least_5, (fx_wl (way_6 + 1)), h49))
  else
    some (.inr (least_5, way_6, h7))
def f_X6_findLeast (Fu : Nat) (Λ : fx_L) (this_0 : Int) (many_0 : Int) (h : fx_H) : Option (Int × fx_H) :=
  (f_X6_takeNothing Fu Λ this_0 h).bind fun h1 =>
  (f_X6_ways Fu Λ this_0 h1).bind fun v3 =>
  Option.bind (fx_loop (s_X6_findLeast_1 Fu Λ this_0 many_0 v3) Fu (1000000, 0, h1)) fun (least_144, way_145, h146) =>
  some (least_144, h146)
abbrev rm_X6_findLeast : Room := { frames := 5, cells := 0, slots := 0, locals := 124 }
set_option maxRecDepth 100000 in
set_option maxHeartbeats 4000000 in
theorem m_X6_findLeast (Fu : Nat) (Λ : fx_L) (this_0 : Int) (many_0 : Int) (h : fx_H) (r : Int) (ho : fx_H) (hf : f_X6_findLeast Fu Λ this_0 many_0 h = some (r, ho)) : fx_Met yX6_findLeast cX6_findLeast 11 (some .int) rm_X6_findLeast Λ [(8, this_0), (0, many_0)] h (some (0, r)) ho := by
  unfold f_X6_findLeast at hf
  refine fx_enter (ls := [some (8, this_0), some (0, many_0), none, none, none, none, none, none, none, none, none]) (by decide) (Nat.le_of_ble_eq_true rfl) rfl (fun M G F K => ?_)
  refine fx_aload_n (pc := 0) (t := 6) F 0 rfl rfl dX6_findLeast_0 ?_
  obtain ⟨h1, e2, hf⟩ := fx_bnd hf
  refine fx_cVv (pc := 1) F 6 kC_X6 [] this_0 [] (m_X6_takeNothing Fu Λ this_0 h _ e2) kD_X6_takeNothing kI_X6_takeNothing rfl wM_X6_155 ⟨rfl, rfl⟩ ⟨by decide, by decide⟩ (Nat.le_of_ble_eq_true rfl) rfl dX6_findLeast_1 ?_
  refine fx_ldc (pc := 4) (z := 1000000) F (by decide) ⟨by decide, by decide⟩ wK_X6_158 dX6_findLeast_4 ?_
  refine fx_istore_n (pc := 6) (ls' := [some (8, this_0), some (0, many_0), some (0, 1000000), none, none, none, none, none, none, none, none]) F 2 rfl (by decide) rfl rfl dX6_findLeast_6 ?_
  refine fx_aload_n (pc := 7) (t := 6) F 0 rfl rfl dX6_findLeast_7 ?_
  obtain ⟨v3, e4, hf⟩ := fx_bnd hf
  refine fx_cV (pc := 8) F 6 kC_X6 [] this_0 [] (m_X6_ways Fu Λ this_0 h1 _ e4) kD_X6_ways kI_X6_ways rfl wM_X6_159 ⟨rfl, rfl⟩ ⟨by decide, by decide⟩ (Nat.le_of_ble_eq_true rfl) rfl dX6_findLeast_8 ?_
  refine fx_lstore_n (pc := 11) (ls' := [some (8, this_0), some (0, many_0), some (0, 1000000), some (1, v3), none, none, none, none, none, none, none]) F 3 rfl (by decide) rfl rfl dX6_findLeast_11 ?_
  refine fx_lconst (pc := 12) (z := 0) F rfl ⟨by decide, by decide⟩ (by decide) dX6_findLeast_12 ?_
  refine fx_lstore (pc := 13) (ls' := [some (8, this_0), some (0, many_0), some (0, 1000000), some (1, v3), none, some (1, 0), none, none, none, none, none]) F (by decide) rfl rfl dX6_findLeast_13 ?_
  obtain ⟨⟨least_144, way_145, h146⟩, e147, hf⟩ := fx_bnd hf
  have hE148 : fx_J M G Λ 11 132 [some (8, this_0), some (0, many_0), some (0, least_144), some (1, v3), none, some (1, way_145), none, none, none, none, none] [] h146 := by
    refine fx_iload_n (pc := 132) F 2 rfl rfl dX6_findLeast_132 ?_
    cases hf
    exact fx_ireturn (pc := 133) F K dX6_findLeast_133
  refine fx_loop_J (Hd := (fun z : Int × Int × fx_H => fx_J M G Λ 11 15 [some (8, this_0), some (0, many_0), some (0, z.1), some (1, v3), none, some (1, z.2.1), none, none, none, none, none] [] z.2.2)) (Ex := (fun z : Int × Int × fx_H => fx_J M G Λ 11 132 [some (8, this_0), some (0, many_0), some (0, z.1), some (1, v3), none, some (1, z.2.1), none, none, none, none, none] [] z.2.2)) ?_ Fu _ _ e147 hE148
  rintro ⟨least_76, way_77, h78⟩ o9 eq79 ih ex
  unfold s_X6_findLeast_1 at eq79
  show fx_J M G Λ 11 15 [some (8, this_0), some (0, many_0), some (0, least_76), some (1, v3), none, some (1, way_77), none, none, none, none, none] [] h78
  refine fx_lload (pc := 15) F rfl dX6_findLeast_15 ?_
  refine fx_lload_n (pc := 17) F 3 rfl rfl dX6_findLeast_17 ?_
  refine fx_nllt (pc := 18) F 132 (by decide) dX6_findLeast_18 dX6_findLeast_19 (fun c80 => ?_) (fun c80 => ?_)
  · have eq79 := (if_pos c80).symm.trans eq79
    refine fx_lload (pc := 22) F rfl dX6_findLeast_22 ?_
    refine fx_lstore (pc := 24) (ls' := [some (8, this_0), some (0, many_0), some (0, least_76), some (1, v3), none, some (1, way_77), none, some (1, way_77), none, none, none]) F (by decide) rfl rfl dX6_findLeast_24 ?_
    refine fx_aload_n (pc := 26) (t := 6) F 0 rfl rfl dX6_findLeast_26 ?_
    obtain ⟨v81, e82, eq79⟩ := fx_bnd eq79
    refine fx_cV (pc := 27) F 6 kC_X6 [] this_0 [] (m_X6_people Fu Λ this_0 h78 _ e82) kD_X6_people kI_X6_people rfl wM_X6_78 ⟨rfl, rfl⟩ ⟨by decide, by decide⟩ (Nat.le_of_ble_eq_true rfl) rfl dX6_findLeast_27 ?_
    refine fx_iconst (pc := 30) F ⟨by decide, by decide⟩ dX6_findLeast_30 ?_
    refine fx_isub (pc := 31) F dX6_findLeast_31 ?_
    refine fx_istore (pc := 32) (ls' := [some (8, this_0), some (0, many_0), some (0, least_76), some (1, v3), none, some (1, way_77), none, some (1, way_77), none, some (0, (fx_w (v81 - 1))), none]) F (by decide) rfl rfl dX6_findLeast_32 ?_
    obtain ⟨⟨left0_115, p_116, h117⟩, e118, eq79⟩ := fx_bnd eq79
    have hE119 : fx_J M G Λ 11 77 [some (8, this_0), some (0, many_0), some (0, least_76), some (1, v3), none, some (1, way_77), none, some (1, left0_115), none, some (0, p_116), none] [] h117 := by
      refine fx_aload_n (pc := 77) (t := 6) F 0 rfl rfl dX6_findLeast_77 ?_
      refine fx_iload_n (pc := 78) F 1 rfl rfl dX6_findLeast_78 ?_
      obtain ⟨v120, e121, eq79⟩ := fx_bnd eq79
      refine fx_cV (pc := 79) F 6 kC_X6 [(0, many_0)] this_0 [] (m_X6_allIn Fu Λ this_0 many_0 h117 _ e121) kD_X6_allIn kI_X6_allIn rfl wM_X6_143 ⟨rfl, rfl⟩ ⟨by decide, by decide⟩ (Nat.le_of_ble_eq_true rfl) rfl dX6_findLeast_79 ?_
      refine fx_istore (pc := 82) (ls' := [some (8, this_0), some (0, many_0), some (0, least_76), some (1, v3), none, some (1, way_77), none, some (1, left0_115), none, some (0, v120), none]) F (by decide) rfl rfl dX6_findLeast_82 ?_
      refine fx_iload (pc := 84) F rfl dX6_findLeast_84 ?_
      refine fx_iload_n (pc := 86) F 2 rfl rfl dX6_findLeast_86 ?_
      refine fx_nlt (pc := 87) F 123 (by decide) dX6_findLeast_87 (fun c122 => ?_) (fun c122 => ?_)
      · have eq79 := (if_pos c122).symm.trans eq79
        refine fx_iload (pc := 90) F rfl dX6_findLeast_90 ?_
        refine fx_istore_n (pc := 92) (ls' := [some (8, this_0), some (0, many_0), some (0, v120), some (1, v3), none, some (1, way_77), none, some (1, left0_115), none, some (0, v120), none]) F 2 rfl (by decide) rfl rfl dX6_findLeast_92 ?_
        refine fx_iconst (pc := 93) F ⟨by decide, by decide⟩ dX6_findLeast_93 ?_
        refine fx_istore (pc := 94) (ls' := [some (8, this_0), some (0, many_0), some (0, v120), some (1, v3), none, some (1, way_77), none, some (1, left0_115), none, some (0, v120), some (0, 0)]) F (by decide) rfl rfl dX6_findLeast_94 ?_
        obtain ⟨⟨k_140, h141⟩, e142, eq79⟩ := fx_bnd eq79
        have hE143 : fx_J M G Λ 11 123 [some (8, this_0), some (0, many_0), some (0, v120), some (1, v3), none, some (1, way_77), none, some (1, left0_115), none, some (0, v120), some (0, k_140)] [] h141 := by
          refine fx_lload (pc := 123) F rfl dX6_findLeast_123 ?_
          refine fx_lconst (pc := 125) (z := 1) F rfl ⟨by decide, by decide⟩ (by decide) dX6_findLeast_125 ?_
          refine fx_ladd (pc := 126) F dX6_findLeast_126 ?_
          refine fx_lstore (pc := 127) (ls' := [some (8, this_0), some (0, many_0), some (0, v120), some (1, v3), none, some (1, (fx_wl (way_77 + 1))), none, some (1, left0_115), none, some (0, v120), some (0, k_140)]) F (by decide) rfl rfl dX6_findLeast_127 ?_
          refine fx_goto (pc := 129) F 15 (by decide) dX6_findLeast_129 ?_
          cases eq79
          refine fx_drop (ls' := [some (8, this_0), some (0, many_0), some (0, v120), some (1, v3), none, some (1, (fx_wl (way_77 + 1))), none, none, none, none, none]) ⟨rfl, rfl, rfl, rfl, rfl, trivial⟩ ?_
          exact ih _ rfl
        refine fx_loop_J (Hd := (fun z : Int × fx_H => fx_J M G Λ 11 96 [some (8, this_0), some (0, many_0), some (0, v120), some (1, v3), none, some (1, way_77), none, some (1, left0_115), none, some (0, v120), some (0, z.1)] [] z.2)) (Ex := (fun z : Int × fx_H => fx_J M G Λ 11 123 [some (8, this_0), some (0, many_0), some (0, v120), some (1, v3), none, some (1, way_77), none, some (1, left0_115), none, some (0, v120), some (0, z.1)] [] z.2)) ?_ Fu _ _ e142 hE143
        rintro ⟨k_132, h133⟩ o9 eq134 ih ex
        unfold s_X6_findLeast_3 at eq134
        show fx_J M G Λ 11 96 [some (8, this_0), some (0, many_0), some (0, v120), some (1, v3), none, some (1, way_77), none, some (1, left0_115), none, some (0, v120), some (0, k_132)] [] h133
        refine fx_iload (pc := 96) F rfl dX6_findLeast_96 ?_
        refine fx_bipush (pc := 98) F ⟨by decide, by decide⟩ (by decide) dX6_findLeast_98 ?_
        refine fx_nlt (pc := 100) F 123 (by decide) dX6_findLeast_100 (fun c135 => ?_) (fun c135 => ?_)
        · have eq134 := (if_pos c135).symm.trans eq134
          refine fx_aload_n (pc := 103) (t := 6) F 0 rfl rfl dX6_findLeast_103 ?_
          refine fx_gR (pc := 104) F 6 13 13 8 rfl kC_X6 (by decide) rfl wF_X6_48 dX6_findLeast_104 ?_
          refine fx_iload (pc := 107) F rfl dX6_findLeast_107 ?_
          refine fx_aload_n (pc := 109) (t := 6) F 0 rfl rfl dX6_findLeast_109 ?_
          refine fx_gR (pc := 110) F 6 8 8 8 rfl kC_X6 (by decide) rfl wF_X6_33 dX6_findLeast_110 ?_
          refine fx_iload (pc := 113) F rfl dX6_findLeast_113 ?_
          obtain ⟨v136, e137, eq134⟩ := fx_bnd eq134
          refine fx_raldI (pc := 115) F e137 dX6_findLeast_115 ?_
          obtain ⟨h138, e139, eq134⟩ := fx_bnd eq134
          refine fx_rastI (pc := 116) F e139 dX6_findLeast_116 ?_
          refine fx_iinc (pc := 117) (ls' := [some (8, this_0), some (0, many_0), some (0, v120), some (1, v3), none, some (1, way_77), none, some (1, left0_115), none, some (0, v120), some (0, (fx_w (k_132 + 1)))]) F (by decide) rfl rfl rfl dX6_findLeast_117 ?_
          refine fx_goto (pc := 120) F 96 (by decide) dX6_findLeast_120 ?_
          cases eq134
          exact ih _ rfl
        · have eq134 := (if_neg c135).symm.trans eq134
          cases eq134
          exact ex _ rfl
      · have eq79 := (if_neg c122).symm.trans eq79
        refine fx_lload (pc := 123) F rfl dX6_findLeast_123 ?_
        refine fx_lconst (pc := 125) (z := 1) F rfl ⟨by decide, by decide⟩ (by decide) dX6_findLeast_125 ?_
        refine fx_ladd (pc := 126) F dX6_findLeast_126 ?_
        refine fx_lstore (pc := 127) (ls' := [some (8, this_0), some (0, many_0), some (0, least_76), some (1, v3), none, some (1, (fx_wl (way_77 + 1))), none, some (1, left0_115), none, some (0, v120), none]) F (by decide) rfl rfl dX6_findLeast_127 ?_
        refine fx_goto (pc := 129) F 15 (by decide) dX6_findLeast_129 ?_
        cases eq79
        refine fx_drop (ls' := [some (8, this_0), some (0, many_0), some (0, least_76), some (1, v3), none, some (1, (fx_wl (way_77 + 1))), none, none, none, none, none]) ⟨rfl, rfl, rfl, rfl, rfl, trivial⟩ ?_
        exact ih _ rfl
    refine fx_loop_J (Hd := (fun z : Int × Int × fx_H => fx_J M G Λ 11 34 [some (8, this_0), some (0, many_0), some (0, least_76), some (1, v3), none, some (1, way_77), none, some (1, z.1), none, some (0, z.2.1), none] [] z.2.2)) (Ex := (fun z : Int × Int × fx_H => fx_J M G Λ 11 77 [some (8, this_0), some (0, many_0), some (0, least_76), some (1, v3), none, some (1, way_77), none, some (1, z.1), none, some (0, z.2.1), none] [] z.2.2)) ?_ Fu _ _ e118 hE119
    rintro ⟨left0_100, p_101, h102⟩ o9 eq103 ih ex
    unfold s_X6_findLeast_2 at eq103
    show fx_J M G Λ 11 34 [some (8, this_0), some (0, many_0), some (0, least_76), some (1, v3), none, some (1, way_77), none, some (1, left0_100), none, some (0, p_101), none] [] h102
    refine fx_iload (pc := 34) F rfl dX6_findLeast_34 ?_
    refine fx_nzge (pc := 36) F 77 (by decide) dX6_findLeast_36 (fun c104 => ?_) (fun c104 => ?_)
    · have eq103 := (if_pos c104).symm.trans eq103
      refine fx_aload_n (pc := 39) (t := 6) F 0 rfl rfl dX6_findLeast_39 ?_
      refine fx_iload (pc := 40) F rfl dX6_findLeast_40 ?_
      refine fx_lload (pc := 42) F rfl dX6_findLeast_42 ?_
      refine fx_aload_n (pc := 44) (t := 6) F 0 rfl rfl dX6_findLeast_44 ?_
      refine fx_gR (pc := 45) F 6 10 10 8 rfl kC_X6 (by decide) rfl wF_X6_39 dX6_findLeast_45 ?_
      refine fx_iload (pc := 48) F rfl dX6_findLeast_48 ?_
      obtain ⟨v105, e106, eq103⟩ := fx_bnd eq103
      refine fx_raldI (pc := 50) F e106 dX6_findLeast_50 ?_
      refine fx_ri2l (pc := 51) F dX6_findLeast_51 ?_
      obtain ⟨v107, e108, eq103⟩ := fx_bnd eq103
      refine fx_rlrem (pc := 52) F e108 dX6_findLeast_52 ?_
      refine fx_rl2i (pc := 53) F dX6_findLeast_53 ?_
      refine fx_iload_n (pc := 54) F 1 rfl rfl dX6_findLeast_54 ?_
      obtain ⟨h109, e110, eq103⟩ := fx_bnd eq103
      refine fx_cVv (pc := 55) F 6 kC_X6 [(0, p_101), (0, (fx_w v107)), (0, many_0)] this_0 [] (m_X6_takeRow Fu Λ this_0 p_101 (fx_w v107) many_0 h102 _ e110) kD_X6_takeRow kI_X6_takeRow rfl wM_X6_163 ⟨rfl, rfl⟩ ⟨by decide, by decide⟩ (Nat.le_of_ble_eq_true rfl) rfl dX6_findLeast_55 ?_
      refine fx_lload (pc := 58) F rfl dX6_findLeast_58 ?_
      refine fx_aload_n (pc := 60) (t := 6) F 0 rfl rfl dX6_findLeast_60 ?_
      refine fx_gR (pc := 61) F 6 10 10 8 rfl kC_X6 (by decide) rfl wF_X6_39 dX6_findLeast_61 ?_
      refine fx_iload (pc := 64) F rfl dX6_findLeast_64 ?_
      obtain ⟨v111, e112, eq103⟩ := fx_bnd eq103
      refine fx_raldI (pc := 66) F e112 dX6_findLeast_66 ?_
      refine fx_ri2l (pc := 67) F dX6_findLeast_67 ?_
      obtain ⟨v113, e114, eq103⟩ := fx_bnd eq103
      refine fx_rldiv (pc := 68) F e114 dX6_findLeast_68 ?_
      refine fx_lstore (pc := 69) (ls' := [some (8, this_0), some (0, many_0), some (0, least_76), some (1, v3), none, some (1, way_77), none, some (1, v113), none, some (0, p_101), none]) F (by decide) rfl rfl dX6_findLeast_69 ?_
      refine fx_iinc (pc := 71) (ls' := [some (8, this_0), some (0, many_0), some (0, least_76), some (1, v3), none, some (1, way_77), none, some (1, v113), none, some (0, (fx_w (p_101 + (-1)))), none]) F (by decide) rfl rfl rfl dX6_findLeast_71 ?_
      refine fx_goto (pc := 74) F 34 (by decide) dX6_findLeast_74 ?_
      cases eq103
      exact ih _ rfl
    · have eq103 := (if_neg c104).symm.trans eq103
      cases eq103
      exact ex _ rfl
  · have eq79 := (if_neg c80).symm.trans eq79
    cases eq79
    exact ex _ rfl
def s_X6_fewest_1 (Fu : Nat) (Λ : fx_L) (this_5 : Int) : Int × fx_H → Option ((Int × fx_H) ⊕ ((Int × fx_H) ⊕ (Int × fx_H))) := fun (many_3, h4) =>
  if many_3 ≤ 5 then
    (f_X6_findAllRows Fu Λ this_5 many_3 h4).bind fun h8 =>
    (f_X6_ways Fu Λ this_5 h8).bind fun v10 =>
    if 50000 < v10 then
      (f_X6_no Fu Λ this_5 h8).bind fun (v13, h14) =>
      some (.inr (.inr (v13, h14)))
    else
      (f_X6_findLeast Fu Λ this_5 many_3 h8).bind fun (v16, h17) =>
      if v16 = 0 then
        some (.inr (.inr (many_3, h17)))
      else
        some (.inl ((fx_w (many_3 + 1)), h17))
  else
    some (.inr (.inl (many_3, h4)))
def f_X6_fewest (Fu : Nat) (Λ : fx_L) (this_0 : Int) (h : fx_H) : Option (Int × fx_H) :=
  (f_X6_layNow Fu Λ this_0 h).bind fun h1 =>
  Option.bind (fx_loop (s_X6_fewest_1 Fu Λ this_0) Fu (1, h1)) fun x9 =>
  match x9 with
  | .inl (many_36, h37) =>
    some ((-1), h37)
  | .inr r9 => some r9
abbrev rm_X6_fewest : Room := { frames := 6, cells := 0, slots := 0, locals := 154 }
set_option maxRecDepth 100000 in
set_option maxHeartbeats 4000000 in
theorem m_X6_fewest (Fu : Nat) (Λ : fx_L) (this_0 : Int) (h : fx_H) (r : Int) (ho : fx_H) (hf : f_X6_fewest Fu Λ this_0 h = some (r, ho)) : fx_Met yX6_fewest cX6_fewest 2 (some .int) rm_X6_fewest Λ [(8, this_0)] h (some (0, r)) ho := by
  unfold f_X6_fewest at hf
  refine fx_enter (ls := [some (8, this_0), none]) (by decide) (Nat.le_of_ble_eq_true rfl) rfl (fun M G F K => ?_)
  refine fx_aload_n (pc := 0) (t := 6) F 0 rfl rfl dX6_fewest_0 ?_
  obtain ⟨h1, e2, hf⟩ := fx_bnd hf
  refine fx_cVv (pc := 1) F 6 kC_X6 [] this_0 [] (m_X6_layNow Fu Λ this_0 h _ e2) kD_X6_layNow kI_X6_layNow rfl wM_X6_119 ⟨rfl, rfl⟩ ⟨by decide, by decide⟩ (Nat.le_of_ble_eq_true rfl) rfl dX6_fewest_1 ?_
  refine fx_iconst (pc := 4) F ⟨by decide, by decide⟩ dX6_fewest_4 ?_
  refine fx_istore_n (pc := 5) (ls' := [some (8, this_0), some (0, 1)]) F 1 rfl (by decide) rfl rfl dX6_fewest_5 ?_
  obtain ⟨x9, e38, hf⟩ := fx_bnd hf
  have hE39 : (fun y : (Int × fx_H) ⊕ (Int × fx_H) => match y with | .inl z => fx_J M G Λ 2 48 [some (8, this_0), some (0, z.1)] [] z.2 | .inr r9 => some r9 = some (r, ho)) x9 := by
    cases x9 with
    | inr r9 => exact hf
    | inl y9 =>
      obtain ⟨many_36, h37⟩ := y9
      show fx_J M G Λ 2 48 [some (8, this_0), some (0, many_36)] [] h37
      refine fx_iconst (pc := 48) F ⟨by decide, by decide⟩ dX6_fewest_48 ?_
      cases hf
      exact fx_ireturn (pc := 49) F K dX6_fewest_49
  refine fx_loop_J (Hd := (fun z : Int × fx_H => fx_J M G Λ 2 6 [some (8, this_0), some (0, z.1)] [] z.2)) (Ex := (fun y : (Int × fx_H) ⊕ (Int × fx_H) => match y with | .inl z => fx_J M G Λ 2 48 [some (8, this_0), some (0, z.1)] [] z.2 | .inr r9 => some r9 = some (r, ho))) ?_ Fu _ _ e38 hE39
  rintro ⟨many_20, h21⟩ o9 eq22 ih ex
  unfold s_X6_fewest_1 at eq22
  show fx_J M G Λ 2 6 [some (8, this_0), some (0, many_20)] [] h21
  refine fx_iload_n (pc := 6) F 1 rfl rfl dX6_fewest_6 ?_
  refine fx_iconst (pc := 7) F ⟨by decide, by decide⟩ dX6_fewest_7 ?_
  refine fx_nle (pc := 8) F 48 (by decide) dX6_fewest_8 (fun c23 => ?_) (fun c23 => ?_)
  · have eq22 := (if_pos c23).symm.trans eq22
    refine fx_aload_n (pc := 11) (t := 6) F 0 rfl rfl dX6_fewest_11 ?_
    refine fx_iload_n (pc := 12) F 1 rfl rfl dX6_fewest_12 ?_
    obtain ⟨h24, e25, eq22⟩ := fx_bnd eq22
    refine fx_cVv (pc := 13) F 6 kC_X6 [(0, many_20)] this_0 [] (m_X6_findAllRows Fu Λ this_0 many_20 h21 _ e25) kD_X6_findAllRows kI_X6_findAllRows rfl wM_X6_167 ⟨rfl, rfl⟩ ⟨by decide, by decide⟩ (Nat.le_of_ble_eq_true rfl) rfl dX6_fewest_13 ?_
    refine fx_aload_n (pc := 16) (t := 6) F 0 rfl rfl dX6_fewest_16 ?_
    obtain ⟨v26, e27, eq22⟩ := fx_bnd eq22
    refine fx_cV (pc := 17) F 6 kC_X6 [] this_0 [] (m_X6_ways Fu Λ this_0 h24 _ e27) kD_X6_ways kI_X6_ways rfl wM_X6_159 ⟨rfl, rfl⟩ ⟨by decide, by decide⟩ (Nat.le_of_ble_eq_true rfl) rfl dX6_fewest_17 ?_
    refine fx_ldc2 (pc := 20) (z := 50000) F (by decide) ⟨by decide, by decide⟩ wK_X6_171 dX6_fewest_20 ?_
    refine fx_nlgt (pc := 23) F 32 (by decide) dX6_fewest_23 dX6_fewest_24 (fun c28 => ?_) (fun c28 => ?_)
    · have eq22 := (if_pos c28).symm.trans eq22
      refine fx_aload_n (pc := 27) (t := 6) F 0 rfl rfl dX6_fewest_27 ?_
      obtain ⟨⟨v29, h30⟩, e31, eq22⟩ := fx_bnd eq22
      refine fx_cV (pc := 28) F 6 kC_X6 [] this_0 [] (m_X6_no Fu Λ this_0 h24 _ _ e31) kD_X6_no kI_X6_no rfl wM_X6_105 ⟨rfl, rfl⟩ ⟨by decide, by decide⟩ (Nat.le_of_ble_eq_true rfl) rfl dX6_fewest_28 ?_
      cases eq22
      have q9 := ex _ rfl
      cases q9
      exact fx_ireturn (pc := 31) F K dX6_fewest_31
    · have eq22 := (if_neg c28).symm.trans eq22
      refine fx_aload_n (pc := 32) (t := 6) F 0 rfl rfl dX6_fewest_32 ?_
      refine fx_iload_n (pc := 33) F 1 rfl rfl dX6_fewest_33 ?_
      obtain ⟨⟨v32, h33⟩, e34, eq22⟩ := fx_bnd eq22
      refine fx_cV (pc := 34) F 6 kC_X6 [(0, many_20)] this_0 [] (m_X6_findLeast Fu Λ this_0 many_20 h24 _ _ e34) kD_X6_findLeast kI_X6_findLeast rfl wM_X6_173 ⟨rfl, rfl⟩ ⟨by decide, by decide⟩ (Nat.le_of_ble_eq_true rfl) rfl dX6_fewest_34 ?_
      refine fx_nzeq (pc := 37) F 42 (by decide) dX6_fewest_37 (fun c35 => ?_) (fun c35 => ?_)
      · have eq22 := (if_pos c35).symm.trans eq22
        refine fx_iload_n (pc := 40) F 1 rfl rfl dX6_fewest_40 ?_
        cases eq22
        have q9 := ex _ rfl
        cases q9
        exact fx_ireturn (pc := 41) F K dX6_fewest_41
      · have eq22 := (if_neg c35).symm.trans eq22
        refine fx_iinc (pc := 42) (ls' := [some (8, this_0), some (0, (fx_w (many_20 + 1)))]) F (by decide) rfl rfl rfl dX6_fewest_42 ?_
        refine fx_goto (pc := 45) F 6 (by decide) dX6_fewest_45 ?_
        cases eq22
        exact ih _ rfl
  · have eq22 := (if_neg c23).symm.trans eq22
    cases eq22
    exact ex _ rfl
def s_X6_takeBest_1 (Fu : Nat) (Λ : fx_L) (this_5 : Int) (p_6 : Int) : Int × Int × Int × fx_H → Option ((Int × Int × Int × fx_H) ⊕ (Int × Int × Int × fx_H)) := fun (bestRow_1, least_2, r_3, h4) =>
  (fx_rd Λ h4 (fx_tg Λ this_5 10) p_6).bind fun v8 =>
  if r_3 < v8 then
    (f_X6_hours Fu Λ this_5 h4).bind fun v11 =>
    (f_X6_takeRow Fu Λ this_5 p_6 r_3 v11 h4).bind fun h13 =>
    (f_X6_hours Fu Λ this_5 h13).bind fun v15 =>
    (f_X6_paysIn Fu Λ this_5 p_6 v15 h13).bind fun v17 =>
    Option.bind (
      if v17 < least_2 then
        some r_3
      else
        some bestRow_1
    ) fun v19 =>
    Option.bind (
      if v17 < least_2 then
        some v17
      else
        some least_2
    ) fun v23 =>
    some (.inl (v19, v23, (fx_w (r_3 + 1)), h13))
  else
    some (.inr (bestRow_1, least_2, r_3, h4))
def f_X6_takeBest (Fu : Nat) (Λ : fx_L) (this_0 : Int) (p_0 : Int) (h : fx_H) : Option (Int × fx_H) :=
  Option.bind (fx_loop (s_X6_takeBest_1 Fu Λ this_0 p_0) Fu (0, 1000000, 0, h)) fun (bestRow_51, least_52, r_53, h54) =>
  (f_X6_hours Fu Λ this_0 h54).bind fun v57 =>
  (f_X6_takeRow Fu Λ this_0 p_0 bestRow_51 v57 h54).bind fun h59 =>
  some (least_52, h59)
abbrev rm_X6_takeBest : Room := { frames := 4, cells := 0, slots := 0, locals := 101 }
set_option maxRecDepth 100000 in
set_option maxHeartbeats 4000000 in
theorem m_X6_takeBest (Fu : Nat) (Λ : fx_L) (this_0 : Int) (p_0 : Int) (h : fx_H) (r : Int) (ho : fx_H) (hf : f_X6_takeBest Fu Λ this_0 p_0 h = some (r, ho)) : fx_Met yX6_takeBest cX6_takeBest 6 (some .int) rm_X6_takeBest Λ [(8, this_0), (0, p_0)] h (some (0, r)) ho := by
  unfold f_X6_takeBest at hf
  refine fx_enter (ls := [some (8, this_0), some (0, p_0), none, none, none, none]) (by decide) (Nat.le_of_ble_eq_true rfl) rfl (fun M G F K => ?_)
  refine fx_iconst (pc := 0) F ⟨by decide, by decide⟩ dX6_takeBest_0 ?_
  refine fx_istore_n (pc := 1) (ls' := [some (8, this_0), some (0, p_0), some (0, 0), none, none, none]) F 2 rfl (by decide) rfl rfl dX6_takeBest_1 ?_
  refine fx_ldc (pc := 2) (z := 1000000) F (by decide) ⟨by decide, by decide⟩ wK_X6_158 dX6_takeBest_2 ?_
  refine fx_istore_n (pc := 4) (ls' := [some (8, this_0), some (0, p_0), some (0, 0), some (0, 1000000), none, none]) F 3 rfl (by decide) rfl rfl dX6_takeBest_4 ?_
  refine fx_iconst (pc := 5) F ⟨by decide, by decide⟩ dX6_takeBest_5 ?_
  refine fx_istore (pc := 6) (ls' := [some (8, this_0), some (0, p_0), some (0, 0), some (0, 1000000), some (0, 0), none]) F (by decide) rfl rfl dX6_takeBest_6 ?_
  obtain ⟨⟨bestRow_51, least_52, r_53, h54⟩, e55, hf⟩ := fx_bnd hf
  have hE56 : fx_J M G Λ 6 73 [some (8, this_0), some (0, p_0), some (0, bestRow_51), some (0, least_52), some (0, r_53), none] [] h54 := by
    refine fx_aload_n (pc := 73) (t := 6) F 0 rfl rfl dX6_takeBest_73 ?_
    refine fx_iload_n (pc := 74) F 1 rfl rfl dX6_takeBest_74 ?_
    refine fx_iload_n (pc := 75) F 2 rfl rfl dX6_takeBest_75 ?_
    refine fx_aload_n (pc := 76) (t := 6) F 0 rfl rfl dX6_takeBest_76 ?_
    obtain ⟨v57, e58, hf⟩ := fx_bnd hf
    refine fx_cV (pc := 77) F 6 kC_X6 [] this_0 [(0, bestRow_51), (0, p_0), (8, this_0)] (m_X6_hours Fu Λ this_0 h54 _ e58) kD_X6_hours kI_X6_hours rfl wM_X6_81 ⟨rfl, rfl⟩ ⟨by decide, by decide⟩ (Nat.le_of_ble_eq_true rfl) rfl dX6_takeBest_77 ?_
    obtain ⟨h59, e60, hf⟩ := fx_bnd hf
    refine fx_cVv (pc := 80) F 6 kC_X6 [(0, p_0), (0, bestRow_51), (0, v57)] this_0 [] (m_X6_takeRow Fu Λ this_0 p_0 bestRow_51 v57 h54 _ e60) kD_X6_takeRow kI_X6_takeRow rfl wM_X6_163 ⟨rfl, rfl⟩ ⟨by decide, by decide⟩ (Nat.le_of_ble_eq_true rfl) rfl dX6_takeBest_80 ?_
    refine fx_iload_n (pc := 83) F 3 rfl rfl dX6_takeBest_83 ?_
    cases hf
    exact fx_ireturn (pc := 84) F K dX6_takeBest_84
  refine fx_loop_J (Hd := (fun z : Int × Int × Int × fx_H => fx_J M G Λ 6 8 [some (8, this_0), some (0, p_0), some (0, z.1), some (0, z.2.1), some (0, z.2.2.1), none] [] z.2.2.2)) (Ex := (fun z : Int × Int × Int × fx_H => fx_J M G Λ 6 73 [some (8, this_0), some (0, p_0), some (0, z.1), some (0, z.2.1), some (0, z.2.2.1), none] [] z.2.2.2)) ?_ Fu _ _ e55 hE56
  rintro ⟨bestRow_27, least_28, r_29, h30⟩ o9 eq31 ih ex
  unfold s_X6_takeBest_1 at eq31
  show fx_J M G Λ 6 8 [some (8, this_0), some (0, p_0), some (0, bestRow_27), some (0, least_28), some (0, r_29), none] [] h30
  refine fx_iload (pc := 8) F rfl dX6_takeBest_8 ?_
  refine fx_aload_n (pc := 10) (t := 6) F 0 rfl rfl dX6_takeBest_10 ?_
  refine fx_gR (pc := 11) F 6 10 10 8 rfl kC_X6 (by decide) rfl wF_X6_39 dX6_takeBest_11 ?_
  refine fx_iload_n (pc := 14) F 1 rfl rfl dX6_takeBest_14 ?_
  obtain ⟨v32, e33, eq31⟩ := fx_bnd eq31
  refine fx_raldI (pc := 15) F e33 dX6_takeBest_15 ?_
  refine fx_nlt (pc := 16) F 73 (by decide) dX6_takeBest_16 (fun c34 => ?_) (fun c34 => ?_)
  · have eq31 := (if_pos c34).symm.trans eq31
    refine fx_aload_n (pc := 19) (t := 6) F 0 rfl rfl dX6_takeBest_19 ?_
    refine fx_iload_n (pc := 20) F 1 rfl rfl dX6_takeBest_20 ?_
    refine fx_iload (pc := 21) F rfl dX6_takeBest_21 ?_
    refine fx_aload_n (pc := 23) (t := 6) F 0 rfl rfl dX6_takeBest_23 ?_
    obtain ⟨v35, e36, eq31⟩ := fx_bnd eq31
    refine fx_cV (pc := 24) F 6 kC_X6 [] this_0 [(0, r_29), (0, p_0), (8, this_0)] (m_X6_hours Fu Λ this_0 h30 _ e36) kD_X6_hours kI_X6_hours rfl wM_X6_81 ⟨rfl, rfl⟩ ⟨by decide, by decide⟩ (Nat.le_of_ble_eq_true rfl) rfl dX6_takeBest_24 ?_
    obtain ⟨h37, e38, eq31⟩ := fx_bnd eq31
    refine fx_cVv (pc := 27) F 6 kC_X6 [(0, p_0), (0, r_29), (0, v35)] this_0 [] (m_X6_takeRow Fu Λ this_0 p_0 r_29 v35 h30 _ e38) kD_X6_takeRow kI_X6_takeRow rfl wM_X6_163 ⟨rfl, rfl⟩ ⟨by decide, by decide⟩ (Nat.le_of_ble_eq_true rfl) rfl dX6_takeBest_27 ?_
    refine fx_aload_n (pc := 30) (t := 6) F 0 rfl rfl dX6_takeBest_30 ?_
    refine fx_iload_n (pc := 31) F 1 rfl rfl dX6_takeBest_31 ?_
    refine fx_aload_n (pc := 32) (t := 6) F 0 rfl rfl dX6_takeBest_32 ?_
    obtain ⟨v39, e40, eq31⟩ := fx_bnd eq31
    refine fx_cV (pc := 33) F 6 kC_X6 [] this_0 [(0, p_0), (8, this_0)] (m_X6_hours Fu Λ this_0 h37 _ e40) kD_X6_hours kI_X6_hours rfl wM_X6_81 ⟨rfl, rfl⟩ ⟨by decide, by decide⟩ (Nat.le_of_ble_eq_true rfl) rfl dX6_takeBest_33 ?_
    obtain ⟨v41, e42, eq31⟩ := fx_bnd eq31
    refine fx_cV (pc := 36) F 6 kC_X6 [(0, p_0), (0, v39)] this_0 [] (m_X6_paysIn Fu Λ this_0 p_0 v39 h37 _ e42) kD_X6_paysIn kI_X6_paysIn rfl wM_X6_137 ⟨rfl, rfl⟩ ⟨by decide, by decide⟩ (Nat.le_of_ble_eq_true rfl) rfl dX6_takeBest_36 ?_
    refine fx_istore (pc := 39) (ls' := [some (8, this_0), some (0, p_0), some (0, bestRow_27), some (0, least_28), some (0, r_29), some (0, v41)]) F (by decide) rfl rfl dX6_takeBest_39 ?_
    obtain ⟨v43, e44, eq31⟩ := fx_bnd eq31
    have hJ45 : fx_J M G Λ 6 53 [some (8, this_0), some (0, p_0), some (0, bestRow_27), some (0, least_28), some (0, r_29), some (0, v41)] [(0, v43)] h37 := by
      refine fx_istore_n (pc := 53) (ls' := [some (8, this_0), some (0, p_0), some (0, v43), some (0, least_28), some (0, r_29), some (0, v41)]) F 2 rfl (by decide) rfl rfl dX6_takeBest_53 ?_
      obtain ⟨v47, e48, eq31⟩ := fx_bnd eq31
      have hJ49 : fx_J M G Λ 6 66 [some (8, this_0), some (0, p_0), some (0, v43), some (0, least_28), some (0, r_29), some (0, v41)] [(0, v47)] h37 := by
        refine fx_istore_n (pc := 66) (ls' := [some (8, this_0), some (0, p_0), some (0, v43), some (0, v47), some (0, r_29), some (0, v41)]) F 3 rfl (by decide) rfl rfl dX6_takeBest_66 ?_
        refine fx_iinc (pc := 67) (ls' := [some (8, this_0), some (0, p_0), some (0, v43), some (0, v47), some (0, (fx_w (r_29 + 1))), some (0, v41)]) F (by decide) rfl rfl rfl dX6_takeBest_67 ?_
        refine fx_goto (pc := 70) F 8 (by decide) dX6_takeBest_70 ?_
        cases eq31
        refine fx_drop (ls' := [some (8, this_0), some (0, p_0), some (0, v43), some (0, v47), some (0, (fx_w (r_29 + 1))), none]) ⟨rfl, rfl, rfl, rfl, rfl, trivial⟩ ?_
        exact ih _ rfl
      refine fx_iload (pc := 54) F rfl dX6_takeBest_54 ?_
      refine fx_iload_n (pc := 56) F 3 rfl rfl dX6_takeBest_56 ?_
      refine fx_nlt (pc := 57) F 65 (by decide) dX6_takeBest_57 (fun c50 => ?_) (fun c50 => ?_)
      · have e48 := (if_pos c50).symm.trans e48
        refine fx_iload (pc := 60) F rfl dX6_takeBest_60 ?_
        cases e48
        refine fx_goto (pc := 62) F 66 (by decide) dX6_takeBest_62 ?_
        exact hJ49
      · have e48 := (if_neg c50).symm.trans e48
        refine fx_iload_n (pc := 65) F 3 rfl rfl dX6_takeBest_65 ?_
        cases e48
        exact hJ49
    refine fx_iload (pc := 41) F rfl dX6_takeBest_41 ?_
    refine fx_iload_n (pc := 43) F 3 rfl rfl dX6_takeBest_43 ?_
    refine fx_nlt (pc := 44) F 52 (by decide) dX6_takeBest_44 (fun c46 => ?_) (fun c46 => ?_)
    · have e44 := (if_pos c46).symm.trans e44
      refine fx_iload (pc := 47) F rfl dX6_takeBest_47 ?_
      cases e44
      refine fx_goto (pc := 49) F 53 (by decide) dX6_takeBest_49 ?_
      exact hJ45
    · have e44 := (if_neg c46).symm.trans e44
      refine fx_iload_n (pc := 52) F 2 rfl rfl dX6_takeBest_52 ?_
      cases e44
      exact hJ45
  · have eq31 := (if_neg c34).symm.trans eq31
    cases eq31
    exact ex _ rfl
def s_X6_layOrder_2 (Fu : Nat) (Λ : fx_L) (this_22 : Int) (k_23 : Int) (h : fx_H) : Int × Int → Option ((Int × Int) ⊕ (Int × Int)) := fun (unlike_20, j_21) =>
  (f_X6_people Fu Λ this_22 h).bind fun v25 =>
  if j_21 < v25 then
    Option.bind (
      Option.bind (
        if ¬ unlike_20 = 0 then
          (fx_rd Λ h (fx_tg Λ this_22 14) j_21).bind fun v36 =>
          (fx_rd Λ h (fx_tg Λ this_22 14) k_23).bind fun v38 =>
          if ¬ v36 = v38 then
            some true
          else
            some false
        else
          some false
      ) fun b31 =>
      if b31 = true then
        some 1
      else
        some 0
    ) fun v28 =>
    some (.inl (v28, (fx_w (j_21 + 1))))
  else
    some (.inr (unlike_20, j_21))
def s_X6_layOrder_1 (Fu : Nat) (Λ : fx_L) (this_7 : Int) : Int × Int × Int × fx_H → Option ((Int × Int × Int × fx_H) ⊕ (Int × Int × Int × fx_H)) := fun (rest_3, unlike_4, k_5, h6) =>
  if 0 ≤ k_5 then
    (f_X6_people Fu Λ this_7 h6).bind fun v10 =>
    (fx_rm rest_3 v10).bind fun v12 =>
    (fx_wr Λ h6 (fx_tg Λ this_7 14) k_5 v12).bind fun h14 =>
    (f_X6_people Fu Λ this_7 h14).bind fun v16 =>
    (fx_dv rest_3 v16).bind fun v18 =>
    Option.bind (fx_loop (s_X6_layOrder_2 Fu Λ this_7 k_5 h14) Fu (unlike_4, (fx_w (k_5 + 1)))) fun (unlike_62, j_63) =>
    some (.inl (v18, unlike_62, (fx_w (k_5 + (-1))), h14))
  else
    some (.inr (rest_3, unlike_4, k_5, h6))
def f_X6_layOrder (Fu : Nat) (Λ : fx_L) (this_0 : Int) (code_0 : Int) (h : fx_H) : Option (Int × fx_H) :=
  (f_X6_people Fu Λ this_0 h).bind fun v1 =>
  Option.bind (fx_loop (s_X6_layOrder_1 Fu Λ this_0) Fu (code_0, 1, (fx_w (v1 - 1)), h)) fun (rest_128, unlike_129, k_130, h131) =>
  (fx_zb unlike_129).bind fun z134 =>
  some (z134, h131)
abbrev rm_X6_layOrder : Room := { frames := 1, cells := 0, slots := 0, locals := 20 }
set_option maxRecDepth 100000 in
set_option maxHeartbeats 4000000 in
theorem m_X6_layOrder (Fu : Nat) (Λ : fx_L) (this_0 : Int) (code_0 : Int) (h : fx_H) (r : Int) (ho : fx_H) (hf : f_X6_layOrder Fu Λ this_0 code_0 h = some (r, ho)) : fx_Met yX6_layOrder cX6_layOrder 6 (some .boolean) rm_X6_layOrder Λ [(8, this_0), (0, code_0)] h (some (0, r)) ho := by
  unfold f_X6_layOrder at hf
  refine fx_enter (ls := [some (8, this_0), some (0, code_0), none, none, none, none]) (by decide) (Nat.le_of_ble_eq_true rfl) rfl (fun M G F K => ?_)
  refine fx_iload_n (pc := 0) F 1 rfl rfl dX6_layOrder_0 ?_
  refine fx_istore_n (pc := 1) (ls' := [some (8, this_0), some (0, code_0), some (0, code_0), none, none, none]) F 2 rfl (by decide) rfl rfl dX6_layOrder_1 ?_
  refine fx_iconst (pc := 2) F ⟨by decide, by decide⟩ dX6_layOrder_2 ?_
  refine fx_istore_n (pc := 3) (ls' := [some (8, this_0), some (0, code_0), some (0, code_0), some (0, 1), none, none]) F 3 rfl (by decide) rfl rfl dX6_layOrder_3 ?_
  refine fx_aload_n (pc := 4) (t := 6) F 0 rfl rfl dX6_layOrder_4 ?_
  obtain ⟨v1, e2, hf⟩ := fx_bnd hf
  refine fx_cV (pc := 5) F 6 kC_X6 [] this_0 [] (m_X6_people Fu Λ this_0 h _ e2) kD_X6_people kI_X6_people rfl wM_X6_78 ⟨rfl, rfl⟩ ⟨by decide, by decide⟩ (Nat.le_of_ble_eq_true rfl) rfl dX6_layOrder_5 ?_
  refine fx_iconst (pc := 8) F ⟨by decide, by decide⟩ dX6_layOrder_8 ?_
  refine fx_isub (pc := 9) F dX6_layOrder_9 ?_
  refine fx_istore (pc := 10) (ls' := [some (8, this_0), some (0, code_0), some (0, code_0), some (0, 1), some (0, (fx_w (v1 - 1))), none]) F (by decide) rfl rfl dX6_layOrder_10 ?_
  obtain ⟨⟨rest_128, unlike_129, k_130, h131⟩, e132, hf⟩ := fx_bnd hf
  have hE133 : fx_J M G Λ 6 91 [some (8, this_0), some (0, code_0), some (0, rest_128), some (0, unlike_129), some (0, k_130), none] [] h131 := by
    refine fx_iload_n (pc := 91) F 3 rfl rfl dX6_layOrder_91 ?_
    obtain ⟨z134, e135, hf⟩ := fx_bnd hf
    obtain ⟨e135, hzz134⟩ := fx_zb_use e135
    refine fx_top (X := fx_X) e135 ?_
    cases hf
    exact fx_zreturn (pc := 92) F hzz134 K dX6_layOrder_92
  refine fx_loop_J (Hd := (fun z : Int × Int × Int × fx_H => fx_J M G Λ 6 12 [some (8, this_0), some (0, code_0), some (0, z.1), some (0, z.2.1), some (0, z.2.2.1), none] [] z.2.2.2)) (Ex := (fun z : Int × Int × Int × fx_H => fx_J M G Λ 6 91 [some (8, this_0), some (0, code_0), some (0, z.1), some (0, z.2.1), some (0, z.2.2.1), none] [] z.2.2.2)) ?_ Fu _ _ e132 hE133
  rintro ⟨rest_66, unlike_67, k_68, h69⟩ o9 eq70 ih ex
  unfold s_X6_layOrder_1 at eq70
  show fx_J M G Λ 6 12 [some (8, this_0), some (0, code_0), some (0, rest_66), some (0, unlike_67), some (0, k_68), none] [] h69
  refine fx_iload (pc := 12) F rfl dX6_layOrder_12 ?_
  refine fx_nzge (pc := 14) F 91 (by decide) dX6_layOrder_14 (fun c71 => ?_) (fun c71 => ?_)
  · have eq70 := (if_pos c71).symm.trans eq70
    refine fx_aload_n (pc := 17) (t := 6) F 0 rfl rfl dX6_layOrder_17 ?_
    refine fx_gR (pc := 18) F 6 14 14 8 rfl kC_X6 (by decide) rfl wF_X6_51 dX6_layOrder_18 ?_
    refine fx_iload (pc := 21) F rfl dX6_layOrder_21 ?_
    refine fx_iload_n (pc := 23) F 2 rfl rfl dX6_layOrder_23 ?_
    refine fx_aload_n (pc := 24) (t := 6) F 0 rfl rfl dX6_layOrder_24 ?_
    obtain ⟨v72, e73, eq70⟩ := fx_bnd eq70
    refine fx_cV (pc := 25) F 6 kC_X6 [] this_0 [(0, rest_66), (0, k_68), (10, (fx_tg Λ this_0 14))] (m_X6_people Fu Λ this_0 h69 _ e73) kD_X6_people kI_X6_people rfl wM_X6_78 ⟨rfl, rfl⟩ ⟨by decide, by decide⟩ (Nat.le_of_ble_eq_true rfl) rfl dX6_layOrder_25 ?_
    obtain ⟨v74, e75, eq70⟩ := fx_bnd eq70
    refine fx_rirem (pc := 28) F e75 dX6_layOrder_28 ?_
    obtain ⟨h76, e77, eq70⟩ := fx_bnd eq70
    refine fx_rastI (pc := 29) F e77 dX6_layOrder_29 ?_
    refine fx_iload_n (pc := 30) F 2 rfl rfl dX6_layOrder_30 ?_
    refine fx_aload_n (pc := 31) (t := 6) F 0 rfl rfl dX6_layOrder_31 ?_
    obtain ⟨v78, e79, eq70⟩ := fx_bnd eq70
    refine fx_cV (pc := 32) F 6 kC_X6 [] this_0 [(0, rest_66)] (m_X6_people Fu Λ this_0 h76 _ e79) kD_X6_people kI_X6_people rfl wM_X6_78 ⟨rfl, rfl⟩ ⟨by decide, by decide⟩ (Nat.le_of_ble_eq_true rfl) rfl dX6_layOrder_32 ?_
    obtain ⟨v80, e81, eq70⟩ := fx_bnd eq70
    refine fx_ridiv (pc := 35) F e81 dX6_layOrder_35 ?_
    refine fx_istore_n (pc := 36) (ls' := [some (8, this_0), some (0, code_0), some (0, v80), some (0, unlike_67), some (0, k_68), none]) F 2 rfl (by decide) rfl rfl dX6_layOrder_36 ?_
    refine fx_iload (pc := 37) F rfl dX6_layOrder_37 ?_
    refine fx_iconst (pc := 39) F ⟨by decide, by decide⟩ dX6_layOrder_39 ?_
    refine fx_iadd (pc := 40) F dX6_layOrder_40 ?_
    refine fx_istore (pc := 41) (ls' := [some (8, this_0), some (0, code_0), some (0, v80), some (0, unlike_67), some (0, k_68), some (0, (fx_w (k_68 + 1)))]) F (by decide) rfl rfl dX6_layOrder_41 ?_
    obtain ⟨⟨unlike_124, j_125⟩, e126, eq70⟩ := fx_bnd eq70
    have hE127 : fx_J M G Λ 6 85 [some (8, this_0), some (0, code_0), some (0, v80), some (0, unlike_124), some (0, k_68), some (0, j_125)] [] h76 := by
      refine fx_iinc (pc := 85) (ls' := [some (8, this_0), some (0, code_0), some (0, v80), some (0, unlike_124), some (0, (fx_w (k_68 + (-1)))), some (0, j_125)]) F (by decide) rfl rfl rfl dX6_layOrder_85 ?_
      refine fx_goto (pc := 88) F 12 (by decide) dX6_layOrder_88 ?_
      cases eq70
      refine fx_drop (ls' := [some (8, this_0), some (0, code_0), some (0, v80), some (0, unlike_124), some (0, (fx_w (k_68 + (-1)))), none]) ⟨rfl, rfl, rfl, rfl, rfl, trivial⟩ ?_
      exact ih _ rfl
    refine fx_loop_J (Hd := (fun z : Int × Int => fx_J M G Λ 6 43 [some (8, this_0), some (0, code_0), some (0, v80), some (0, z.1), some (0, k_68), some (0, z.2)] [] h76)) (Ex := (fun z : Int × Int => fx_J M G Λ 6 85 [some (8, this_0), some (0, code_0), some (0, v80), some (0, z.1), some (0, k_68), some (0, z.2)] [] h76)) ?_ Fu _ _ e126 hE127
    rintro ⟨unlike_104, j_105⟩ o9 eq106 ih ex
    unfold s_X6_layOrder_2 at eq106
    show fx_J M G Λ 6 43 [some (8, this_0), some (0, code_0), some (0, v80), some (0, unlike_104), some (0, k_68), some (0, j_105)] [] h76
    refine fx_iload (pc := 43) F rfl dX6_layOrder_43 ?_
    refine fx_aload_n (pc := 45) (t := 6) F 0 rfl rfl dX6_layOrder_45 ?_
    obtain ⟨v107, e108, eq106⟩ := fx_bnd eq106
    refine fx_cV (pc := 46) F 6 kC_X6 [] this_0 [(0, j_105)] (m_X6_people Fu Λ this_0 h76 _ e108) kD_X6_people kI_X6_people rfl wM_X6_78 ⟨rfl, rfl⟩ ⟨by decide, by decide⟩ (Nat.le_of_ble_eq_true rfl) rfl dX6_layOrder_46 ?_
    refine fx_nlt (pc := 49) F 85 (by decide) dX6_layOrder_49 (fun c109 => ?_) (fun c109 => ?_)
    · have eq106 := (if_pos c109).symm.trans eq106
      obtain ⟨v110, e111, eq106⟩ := fx_bnd eq106
      have hJ112 : fx_J M G Λ 6 78 [some (8, this_0), some (0, code_0), some (0, v80), some (0, unlike_104), some (0, k_68), some (0, j_105)] [(0, v110)] h76 := by
        refine fx_istore_n (pc := 78) (ls' := [some (8, this_0), some (0, code_0), some (0, v80), some (0, v110), some (0, k_68), some (0, j_105)]) F 3 rfl (by decide) rfl rfl dX6_layOrder_78 ?_
        refine fx_iinc (pc := 79) (ls' := [some (8, this_0), some (0, code_0), some (0, v80), some (0, v110), some (0, k_68), some (0, (fx_w (j_105 + 1)))]) F (by decide) rfl rfl rfl dX6_layOrder_79 ?_
        refine fx_goto (pc := 82) F 43 (by decide) dX6_layOrder_82 ?_
        cases eq106
        exact ih _ rfl
      obtain ⟨b113, e114, e111⟩ := fx_bnd e111
      have hT115 : b113 = true → fx_J M G Λ 6 73 [some (8, this_0), some (0, code_0), some (0, v80), some (0, unlike_104), some (0, k_68), some (0, j_105)] [] h76 := fun c123 => by
        have e111 := (if_pos c123).symm.trans e111
        refine fx_iconst (pc := 73) F ⟨by decide, by decide⟩ dX6_layOrder_73 ?_
        cases e111
        refine fx_goto (pc := 74) F 78 (by decide) dX6_layOrder_74 ?_
        exact hJ112
      have hF116 : ¬ b113 = true → fx_J M G Λ 6 77 [some (8, this_0), some (0, code_0), some (0, v80), some (0, unlike_104), some (0, k_68), some (0, j_105)] [] h76 := fun c123 => by
        have e111 := (if_neg c123).symm.trans e111
        refine fx_iconst (pc := 77) F ⟨by decide, by decide⟩ dX6_layOrder_77 ?_
        cases e111
        exact hJ112
      refine fx_iload_n (pc := 52) F 3 rfl rfl dX6_layOrder_52 ?_
      refine fx_nzne (pc := 53) F 77 (by decide) dX6_layOrder_53 (fun c117 => ?_) (fun c117 => ?_)
      · have e114 := (if_pos c117).symm.trans e114
        refine fx_aload_n (pc := 56) (t := 6) F 0 rfl rfl dX6_layOrder_56 ?_
        refine fx_gR (pc := 57) F 6 14 14 8 rfl kC_X6 (by decide) rfl wF_X6_51 dX6_layOrder_57 ?_
        refine fx_iload (pc := 60) F rfl dX6_layOrder_60 ?_
        obtain ⟨v118, e119, e114⟩ := fx_bnd e114
        refine fx_raldI (pc := 62) F e119 dX6_layOrder_62 ?_
        refine fx_aload_n (pc := 63) (t := 6) F 0 rfl rfl dX6_layOrder_63 ?_
        refine fx_gR (pc := 64) F 6 14 14 8 rfl kC_X6 (by decide) rfl wF_X6_51 dX6_layOrder_64 ?_
        refine fx_iload (pc := 67) F rfl dX6_layOrder_67 ?_
        obtain ⟨v120, e121, e114⟩ := fx_bnd e114
        refine fx_raldI (pc := 69) F e121 dX6_layOrder_69 ?_
        refine fx_nne (pc := 70) F 77 (by decide) dX6_layOrder_70 (fun c122 => ?_) (fun c122 => ?_)
        · have e114 := (if_pos c122).symm.trans e114
          cases e114
          exact hT115 (by decide)
        · have e114 := (if_neg c122).symm.trans e114
          cases e114
          exact hF116 (by decide)
      · have e114 := (if_neg c117).symm.trans e114
        cases e114
        exact hF116 (by decide)
    · have eq106 := (if_neg c109).symm.trans eq106
      cases eq106
      exact ex _ rfl
  · have eq70 := (if_neg c71).symm.trans eq70
    cases eq70
    exact ex _ rfl
def s_X6_listed_1 (Fu : Nat) (Λ : fx_L) (this_5 : Int) : Int × fx_H → Option ((Int × fx_H) ⊕ (Int × fx_H)) := fun (k_3, h4) =>
  (f_X6_people Fu Λ this_5 h4).bind fun v7 =>
  if k_3 < v7 then
    (fx_rd Λ h4 (fx_tg Λ this_5 14) k_3).bind fun v10 =>
    (f_X6_takeBest Fu Λ this_5 v10 h4).bind fun (v12, h13) =>
    some (.inl ((fx_w (k_3 + 1)), h13))
  else
    some (.inr (k_3, h4))
def f_X6_listed (Fu : Nat) (Λ : fx_L) (this_0 : Int) (h : fx_H) : Option (Int × fx_H) :=
  (f_X6_takeNothing Fu Λ this_0 h).bind fun h1 =>
  Option.bind (fx_loop (s_X6_listed_1 Fu Λ this_0) Fu (0, h1)) fun (k_26, h27) =>
  (f_X6_hours Fu Λ this_0 h27).bind fun v30 =>
  (f_X6_allIn Fu Λ this_0 v30 h27).bind fun v32 =>
  some (v32, h27)
abbrev rm_X6_listed : Room := { frames := 5, cells := 0, slots := 0, locals := 126 }
set_option maxRecDepth 100000 in
set_option maxHeartbeats 4000000 in
theorem m_X6_listed (Fu : Nat) (Λ : fx_L) (this_0 : Int) (h : fx_H) (r : Int) (ho : fx_H) (hf : f_X6_listed Fu Λ this_0 h = some (r, ho)) : fx_Met yX6_listed cX6_listed 3 (some .int) rm_X6_listed Λ [(8, this_0)] h (some (0, r)) ho := by
  unfold f_X6_listed at hf
  refine fx_enter (ls := [some (8, this_0), none, none]) (by decide) (Nat.le_of_ble_eq_true rfl) rfl (fun M G F K => ?_)
  refine fx_aload_n (pc := 0) (t := 6) F 0 rfl rfl dX6_listed_0 ?_
  obtain ⟨h1, e2, hf⟩ := fx_bnd hf
  refine fx_cVv (pc := 1) F 6 kC_X6 [] this_0 [] (m_X6_takeNothing Fu Λ this_0 h _ e2) kD_X6_takeNothing kI_X6_takeNothing rfl wM_X6_155 ⟨rfl, rfl⟩ ⟨by decide, by decide⟩ (Nat.le_of_ble_eq_true rfl) rfl dX6_listed_1 ?_
  refine fx_iconst (pc := 4) F ⟨by decide, by decide⟩ dX6_listed_4 ?_
  refine fx_istore_n (pc := 5) (ls' := [some (8, this_0), some (0, 0), none]) F 1 rfl (by decide) rfl rfl dX6_listed_5 ?_
  obtain ⟨⟨k_26, h27⟩, e28, hf⟩ := fx_bnd hf
  have hE29 : fx_J M G Λ 3 31 [some (8, this_0), some (0, k_26), none] [] h27 := by
    refine fx_aload_n (pc := 31) (t := 6) F 0 rfl rfl dX6_listed_31 ?_
    refine fx_aload_n (pc := 32) (t := 6) F 0 rfl rfl dX6_listed_32 ?_
    obtain ⟨v30, e31, hf⟩ := fx_bnd hf
    refine fx_cV (pc := 33) F 6 kC_X6 [] this_0 [(8, this_0)] (m_X6_hours Fu Λ this_0 h27 _ e31) kD_X6_hours kI_X6_hours rfl wM_X6_81 ⟨rfl, rfl⟩ ⟨by decide, by decide⟩ (Nat.le_of_ble_eq_true rfl) rfl dX6_listed_33 ?_
    obtain ⟨v32, e33, hf⟩ := fx_bnd hf
    refine fx_cV (pc := 36) F 6 kC_X6 [(0, v30)] this_0 [] (m_X6_allIn Fu Λ this_0 v30 h27 _ e33) kD_X6_allIn kI_X6_allIn rfl wM_X6_143 ⟨rfl, rfl⟩ ⟨by decide, by decide⟩ (Nat.le_of_ble_eq_true rfl) rfl dX6_listed_36 ?_
    cases hf
    exact fx_ireturn (pc := 39) F K dX6_listed_39
  refine fx_loop_J (Hd := (fun z : Int × fx_H => fx_J M G Λ 3 6 [some (8, this_0), some (0, z.1), none] [] z.2)) (Ex := (fun z : Int × fx_H => fx_J M G Λ 3 31 [some (8, this_0), some (0, z.1), none] [] z.2)) ?_ Fu _ _ e28 hE29
  rintro ⟨k_15, h16⟩ o9 eq17 ih ex
  unfold s_X6_listed_1 at eq17
  show fx_J M G Λ 3 6 [some (8, this_0), some (0, k_15), none] [] h16
  refine fx_iload_n (pc := 6) F 1 rfl rfl dX6_listed_6 ?_
  refine fx_aload_n (pc := 7) (t := 6) F 0 rfl rfl dX6_listed_7 ?_
  obtain ⟨v18, e19, eq17⟩ := fx_bnd eq17
  refine fx_cV (pc := 8) F 6 kC_X6 [] this_0 [(0, k_15)] (m_X6_people Fu Λ this_0 h16 _ e19) kD_X6_people kI_X6_people rfl wM_X6_78 ⟨rfl, rfl⟩ ⟨by decide, by decide⟩ (Nat.le_of_ble_eq_true rfl) rfl dX6_listed_8 ?_
  refine fx_nlt (pc := 11) F 31 (by decide) dX6_listed_11 (fun c20 => ?_) (fun c20 => ?_)
  · have eq17 := (if_pos c20).symm.trans eq17
    refine fx_aload_n (pc := 14) (t := 6) F 0 rfl rfl dX6_listed_14 ?_
    refine fx_aload_n (pc := 15) (t := 6) F 0 rfl rfl dX6_listed_15 ?_
    refine fx_gR (pc := 16) F 6 14 14 8 rfl kC_X6 (by decide) rfl wF_X6_51 dX6_listed_16 ?_
    refine fx_iload_n (pc := 19) F 1 rfl rfl dX6_listed_19 ?_
    obtain ⟨v21, e22, eq17⟩ := fx_bnd eq17
    refine fx_raldI (pc := 20) F e22 dX6_listed_20 ?_
    obtain ⟨⟨v23, h24⟩, e25, eq17⟩ := fx_bnd eq17
    refine fx_cV (pc := 21) F 6 kC_X6 [(0, v21)] this_0 [] (m_X6_takeBest Fu Λ this_0 v21 h16 _ _ e25) kD_X6_takeBest kI_X6_takeBest rfl wM_X6_176 ⟨rfl, rfl⟩ ⟨by decide, by decide⟩ (Nat.le_of_ble_eq_true rfl) rfl dX6_listed_21 ?_
    refine fx_istore_n (pc := 24) (ls' := [some (8, this_0), some (0, k_15), some (0, v23)]) F 2 rfl (by decide) rfl rfl dX6_listed_24 ?_
    refine fx_iinc (pc := 25) (ls' := [some (8, this_0), some (0, (fx_w (k_15 + 1))), some (0, v23)]) F (by decide) rfl rfl rfl dX6_listed_25 ?_
    refine fx_goto (pc := 28) F 6 (by decide) dX6_listed_28 ?_
    cases eq17
    refine fx_drop (ls' := [some (8, this_0), some (0, (fx_w (k_15 + 1))), none]) ⟨rfl, rfl, trivial⟩ ?_
    exact ih _ rfl
  · have eq17 := (if_neg c20).symm.trans eq17
    cases eq17
    exact ex _ rfl
def s_X6_list_1 (Fu : Nat) (Λ : fx_L) (this_15 : Int) (h : fx_H) : Int × Int → Option ((Int × Int) ⊕ (Int × Int)) := fun (codes_13, k_14) =>
  (f_X6_people Fu Λ this_15 h).bind fun v17 =>
  if k_14 < v17 then
    (f_X6_people Fu Λ this_15 h).bind fun v20 =>
    some (.inl ((fx_w (codes_13 * v20)), (fx_w (k_14 + 1))))
  else
    some (.inr (codes_13, k_14))
def s_X6_list_2 (Fu : Nat) (Λ : fx_L) (this_38 : Int) (what_39 : Int) (codes_40 : Int) : Int × Int × Int × fx_H → Option ((Int × Int × Int × fx_H) ⊕ (Int × Int × Int × fx_H)) := fun (first_34, most_35, code_36, h37) =>
  if code_36 < codes_40 then
    (f_X6_layOrder Fu Λ this_38 code_36 h37).bind fun (v45, h46) =>
    if ((¬ v45 = 0) ∧ ((first_34 = (-1)) ∨ (what_39 = 1))) then
      (f_X6_listed Fu Λ this_38 h37).bind fun (v52, h53) =>
      Option.bind (
        if first_34 = (-1) then
          some v52
        else
          some first_34
      ) fun v55 =>
      Option.bind (
        if most_35 < v52 then
          some v52
        else
          some most_35
      ) fun v59 =>
      some (.inl (v55, v59, (fx_w (code_36 + 1)), h53))
    else
      some (.inl (first_34, most_35, (fx_w (code_36 + 1)), h37))
  else
    some (.inr (first_34, most_35, code_36, h37))
def f_X6_list (Fu : Nat) (Λ : fx_L) (this_0 : Int) (what_0 : Int) (h : fx_H) : Option (Int × fx_H) :=
  (f_X6_in Fu Λ what_0 0 1 h).bind fun v1 =>
  if v1 = 0 then
    (f_X6_bad Fu Λ this_0 (-2) h).bind fun (v4, h5) =>
    some (v4, h5)
  else
    (f_X6_layNow Fu Λ this_0 h).bind fun h7 =>
    (f_X6_hours Fu Λ this_0 h7).bind fun v9 =>
    (f_X6_findAllRows Fu Λ this_0 v9 h7).bind fun h11 =>
    Option.bind (fx_loop (s_X6_list_1 Fu Λ this_0 h11) Fu (1, 0)) fun (codes_30, k_31) =>
    Option.bind (fx_loop (s_X6_list_2 Fu Λ this_0 what_0 codes_30) Fu ((-1), (-1), 0, h11)) fun (first_89, most_90, code_91, h92) =>
    Option.bind (
      if what_0 = 0 then
        some first_89
      else
        some most_90
    ) fun v95 =>
    some (v95, h92)
abbrev rm_X6_list : Room := { frames := 6, cells := 0, slots := 0, locals := 148 }
set_option maxRecDepth 100000 in
set_option maxHeartbeats 4000000 in
theorem m_X6_list (Fu : Nat) (Λ : fx_L) (this_0 : Int) (what_0 : Int) (h : fx_H) (r : Int) (ho : fx_H) (hf : f_X6_list Fu Λ this_0 what_0 h = some (r, ho)) : fx_Met yX6_list cX6_list 7 (some .int) rm_X6_list Λ [(8, this_0), (0, what_0)] h (some (0, r)) ho := by
  unfold f_X6_list at hf
  refine fx_enter (ls := [some (8, this_0), some (0, what_0), none, none, none, none, none]) (by decide) (Nat.le_of_ble_eq_true rfl) rfl (fun M G F K => ?_)
  refine fx_iload_n (pc := 0) F 1 rfl rfl dX6_list_0 ?_
  refine fx_ri2l (pc := 1) F dX6_list_1 ?_
  refine fx_lconst (pc := 2) (z := 0) F rfl ⟨by decide, by decide⟩ (by decide) dX6_list_2 ?_
  refine fx_lconst (pc := 3) (z := 1) F rfl ⟨by decide, by decide⟩ (by decide) dX6_list_3 ?_
  obtain ⟨v1, e2, hf⟩ := fx_bnd hf
  refine fx_cS (pc := 4) F [(1, what_0), (1, 0), (1, 1)] [] (m_X6_in Fu Λ what_0 0 1 h _ e2) kD_X6_in wSt_X6_in wM_X6_74 ⟨rfl, rfl⟩ ⟨by decide, by decide⟩ (Nat.le_of_ble_eq_true rfl) rfl dX6_list_4 ?_
  refine fx_nzeq (pc := 7) F 17 (by decide) dX6_list_7 (fun c3 => ?_) (fun c3 => ?_)
  · have hf := (if_pos c3).symm.trans hf
    refine fx_aload_n (pc := 10) (t := 6) F 0 rfl rfl dX6_list_10 ?_
    refine fx_bipush (pc := 11) F ⟨by decide, by decide⟩ (by decide) dX6_list_11 ?_
    obtain ⟨⟨v4, h5⟩, e6, hf⟩ := fx_bnd hf
    refine fx_cV (pc := 13) F 6 kC_X6 [(0, (-2))] this_0 [] (m_X6_bad Fu Λ this_0 (-2) h _ _ e6) kD_X6_bad kI_X6_bad rfl wM_X6_88 ⟨rfl, rfl⟩ ⟨by decide, by decide⟩ (Nat.le_of_ble_eq_true rfl) rfl dX6_list_13 ?_
    cases hf
    exact fx_ireturn (pc := 16) F K dX6_list_16
  · have hf := (if_neg c3).symm.trans hf
    refine fx_aload_n (pc := 17) (t := 6) F 0 rfl rfl dX6_list_17 ?_
    obtain ⟨h7, e8, hf⟩ := fx_bnd hf
    refine fx_cVv (pc := 18) F 6 kC_X6 [] this_0 [] (m_X6_layNow Fu Λ this_0 h _ e8) kD_X6_layNow kI_X6_layNow rfl wM_X6_119 ⟨rfl, rfl⟩ ⟨by decide, by decide⟩ (Nat.le_of_ble_eq_true rfl) rfl dX6_list_18 ?_
    refine fx_aload_n (pc := 21) (t := 6) F 0 rfl rfl dX6_list_21 ?_
    refine fx_aload_n (pc := 22) (t := 6) F 0 rfl rfl dX6_list_22 ?_
    obtain ⟨v9, e10, hf⟩ := fx_bnd hf
    refine fx_cV (pc := 23) F 6 kC_X6 [] this_0 [(8, this_0)] (m_X6_hours Fu Λ this_0 h7 _ e10) kD_X6_hours kI_X6_hours rfl wM_X6_81 ⟨rfl, rfl⟩ ⟨by decide, by decide⟩ (Nat.le_of_ble_eq_true rfl) rfl dX6_list_23 ?_
    obtain ⟨h11, e12, hf⟩ := fx_bnd hf
    refine fx_cVv (pc := 26) F 6 kC_X6 [(0, v9)] this_0 [] (m_X6_findAllRows Fu Λ this_0 v9 h7 _ e12) kD_X6_findAllRows kI_X6_findAllRows rfl wM_X6_167 ⟨rfl, rfl⟩ ⟨by decide, by decide⟩ (Nat.le_of_ble_eq_true rfl) rfl dX6_list_26 ?_
    refine fx_iconst (pc := 29) F ⟨by decide, by decide⟩ dX6_list_29 ?_
    refine fx_istore_n (pc := 30) (ls' := [some (8, this_0), some (0, what_0), some (0, 1), none, none, none, none]) F 2 rfl (by decide) rfl rfl dX6_list_30 ?_
    refine fx_iconst (pc := 31) F ⟨by decide, by decide⟩ dX6_list_31 ?_
    refine fx_istore_n (pc := 32) (ls' := [some (8, this_0), some (0, what_0), some (0, 1), some (0, 0), none, none, none]) F 3 rfl (by decide) rfl rfl dX6_list_32 ?_
    obtain ⟨⟨codes_30, k_31⟩, e32, hf⟩ := fx_bnd hf
    have hE33 : fx_J M G Λ 7 54 [some (8, this_0), some (0, what_0), some (0, codes_30), some (0, k_31), none, none, none] [] h11 := by
      refine fx_iconst (pc := 54) F ⟨by decide, by decide⟩ dX6_list_54 ?_
      refine fx_istore_n (pc := 55) (ls' := [some (8, this_0), some (0, what_0), some (0, codes_30), some (0, (-1)), none, none, none]) F 3 rfl (by decide) rfl rfl dX6_list_55 ?_
      refine fx_iconst (pc := 56) F ⟨by decide, by decide⟩ dX6_list_56 ?_
      refine fx_istore (pc := 57) (ls' := [some (8, this_0), some (0, what_0), some (0, codes_30), some (0, (-1)), some (0, (-1)), none, none]) F (by decide) rfl rfl dX6_list_57 ?_
      refine fx_iconst (pc := 59) F ⟨by decide, by decide⟩ dX6_list_59 ?_
      refine fx_istore (pc := 60) (ls' := [some (8, this_0), some (0, what_0), some (0, codes_30), some (0, (-1)), some (0, (-1)), some (0, 0), none]) F (by decide) rfl rfl dX6_list_60 ?_
      obtain ⟨⟨first_89, most_90, code_91, h92⟩, e93, hf⟩ := fx_bnd hf
      have hE94 : fx_J M G Λ 7 127 [some (8, this_0), some (0, what_0), some (0, codes_30), some (0, first_89), some (0, most_90), some (0, code_91), none] [] h92 := by
        obtain ⟨v95, e96, hf⟩ := fx_bnd hf
        have hJ97 : fx_J M G Λ 7 137 [some (8, this_0), some (0, what_0), some (0, codes_30), some (0, first_89), some (0, most_90), some (0, code_91), none] [(0, v95)] h92 := by
          cases hf
          exact fx_ireturn (pc := 137) F K dX6_list_137
        refine fx_iload_n (pc := 127) F 1 rfl rfl dX6_list_127 ?_
        refine fx_nzeq (pc := 128) F 135 (by decide) dX6_list_128 (fun c98 => ?_) (fun c98 => ?_)
        · have e96 := (if_pos c98).symm.trans e96
          refine fx_iload_n (pc := 131) F 3 rfl rfl dX6_list_131 ?_
          cases e96
          refine fx_goto (pc := 132) F 137 (by decide) dX6_list_132 ?_
          exact hJ97
        · have e96 := (if_neg c98).symm.trans e96
          refine fx_iload (pc := 135) F rfl dX6_list_135 ?_
          cases e96
          exact hJ97
      refine fx_loop_J (Hd := (fun z : Int × Int × Int × fx_H => fx_J M G Λ 7 62 [some (8, this_0), some (0, what_0), some (0, codes_30), some (0, z.1), some (0, z.2.1), some (0, z.2.2.1), none] [] z.2.2.2)) (Ex := (fun z : Int × Int × Int × fx_H => fx_J M G Λ 7 127 [some (8, this_0), some (0, what_0), some (0, codes_30), some (0, z.1), some (0, z.2.1), some (0, z.2.2.1), none] [] z.2.2.2)) ?_ Fu _ _ e93 hE94
      rintro ⟨first_63, most_64, code_65, h66⟩ o9 eq67 ih ex
      unfold s_X6_list_2 at eq67
      show fx_J M G Λ 7 62 [some (8, this_0), some (0, what_0), some (0, codes_30), some (0, first_63), some (0, most_64), some (0, code_65), none] [] h66
      refine fx_iload (pc := 62) F rfl dX6_list_62 ?_
      refine fx_iload_n (pc := 64) F 2 rfl rfl dX6_list_64 ?_
      refine fx_nlt (pc := 65) F 127 (by decide) dX6_list_65 (fun c68 => ?_) (fun c68 => ?_)
      · have eq67 := (if_pos c68).symm.trans eq67
        refine fx_aload_n (pc := 68) (t := 6) F 0 rfl rfl dX6_list_68 ?_
        refine fx_iload (pc := 69) F rfl dX6_list_69 ?_
        obtain ⟨⟨v71, h72⟩, e73, eq67⟩ := fx_bnd eq67
        refine fx_cV (pc := 71) F 6 kC_X6 [(0, code_65)] this_0 [] (m_X6_layOrder Fu Λ this_0 code_65 h66 _ _ e73) kD_X6_layOrder kI_X6_layOrder rfl wM_X6_179 ⟨rfl, rfl⟩ ⟨by decide, by decide⟩ (Nat.le_of_ble_eq_true rfl) rfl dX6_list_71 ?_
        have hT69 : (((¬ v71 = 0) ∧ ((first_63 = (-1)) ∨ (what_0 = 1)))) → fx_J M G Λ 7 87 [some (8, this_0), some (0, what_0), some (0, codes_30), some (0, first_63), some (0, most_64), some (0, code_65), none] [] h66 := fun c77 => by
          have eq67 := (if_pos c77).symm.trans eq67
          refine fx_aload_n (pc := 87) (t := 6) F 0 rfl rfl dX6_list_87 ?_
          obtain ⟨⟨v78, h79⟩, e80, eq67⟩ := fx_bnd eq67
          refine fx_cV (pc := 88) F 6 kC_X6 [] this_0 [] (m_X6_listed Fu Λ this_0 h66 _ _ e80) kD_X6_listed kI_X6_listed rfl wM_X6_182 ⟨rfl, rfl⟩ ⟨by decide, by decide⟩ (Nat.le_of_ble_eq_true rfl) rfl dX6_list_88 ?_
          refine fx_istore (pc := 91) (ls' := [some (8, this_0), some (0, what_0), some (0, codes_30), some (0, first_63), some (0, most_64), some (0, code_65), some (0, v78)]) F (by decide) rfl rfl dX6_list_91 ?_
          obtain ⟨v81, e82, eq67⟩ := fx_bnd eq67
          have hJ83 : fx_J M G Λ 7 104 [some (8, this_0), some (0, what_0), some (0, codes_30), some (0, first_63), some (0, most_64), some (0, code_65), some (0, v78)] [(0, v81)] h79 := by
            refine fx_istore_n (pc := 104) (ls' := [some (8, this_0), some (0, what_0), some (0, codes_30), some (0, v81), some (0, most_64), some (0, code_65), some (0, v78)]) F 3 rfl (by decide) rfl rfl dX6_list_104 ?_
            obtain ⟨v85, e86, eq67⟩ := fx_bnd eq67
            have hJ87 : fx_J M G Λ 7 119 [some (8, this_0), some (0, what_0), some (0, codes_30), some (0, v81), some (0, most_64), some (0, code_65), some (0, v78)] [(0, v85)] h79 := by
              refine fx_istore (pc := 119) (ls' := [some (8, this_0), some (0, what_0), some (0, codes_30), some (0, v81), some (0, v85), some (0, code_65), some (0, v78)]) F (by decide) rfl rfl dX6_list_119 ?_
              refine fx_iinc (pc := 121) (ls' := [some (8, this_0), some (0, what_0), some (0, codes_30), some (0, v81), some (0, v85), some (0, (fx_w (code_65 + 1))), some (0, v78)]) F (by decide) rfl rfl rfl dX6_list_121 ?_
              refine fx_goto (pc := 124) F 62 (by decide) dX6_list_124 ?_
              cases eq67
              refine fx_drop (ls' := [some (8, this_0), some (0, what_0), some (0, codes_30), some (0, v81), some (0, v85), some (0, (fx_w (code_65 + 1))), none]) ⟨rfl, rfl, rfl, rfl, rfl, rfl, trivial⟩ ?_
              exact ih _ rfl
            refine fx_iload (pc := 105) F rfl dX6_list_105 ?_
            refine fx_iload (pc := 107) F rfl dX6_list_107 ?_
            refine fx_ngt (pc := 109) F 117 (by decide) dX6_list_109 (fun c88 => ?_) (fun c88 => ?_)
            · have e86 := (if_pos c88).symm.trans e86
              refine fx_iload (pc := 112) F rfl dX6_list_112 ?_
              cases e86
              refine fx_goto (pc := 114) F 119 (by decide) dX6_list_114 ?_
              exact hJ87
            · have e86 := (if_neg c88).symm.trans e86
              refine fx_iload (pc := 117) F rfl dX6_list_117 ?_
              cases e86
              exact hJ87
          refine fx_iload_n (pc := 93) F 3 rfl rfl dX6_list_93 ?_
          refine fx_iconst (pc := 94) F ⟨by decide, by decide⟩ dX6_list_94 ?_
          refine fx_neq (pc := 95) F 103 (by decide) dX6_list_95 (fun c84 => ?_) (fun c84 => ?_)
          · have e82 := (if_pos c84).symm.trans e82
            refine fx_iload (pc := 98) F rfl dX6_list_98 ?_
            cases e82
            refine fx_goto (pc := 100) F 104 (by decide) dX6_list_100 ?_
            exact hJ83
          · have e82 := (if_neg c84).symm.trans e82
            refine fx_iload_n (pc := 103) F 3 rfl rfl dX6_list_103 ?_
            cases e82
            exact hJ83
        have hF70 : ¬ (((¬ v71 = 0) ∧ ((first_63 = (-1)) ∨ (what_0 = 1)))) → fx_J M G Λ 7 121 [some (8, this_0), some (0, what_0), some (0, codes_30), some (0, first_63), some (0, most_64), some (0, code_65), none] [] h66 := fun c77 => by
          have eq67 := (if_neg c77).symm.trans eq67
          refine fx_iinc (pc := 121) (ls' := [some (8, this_0), some (0, what_0), some (0, codes_30), some (0, first_63), some (0, most_64), some (0, (fx_w (code_65 + 1))), none]) F (by decide) rfl rfl rfl dX6_list_121 ?_
          refine fx_goto (pc := 124) F 62 (by decide) dX6_list_124 ?_
          cases eq67
          exact ih _ rfl
        refine fx_nzne (pc := 74) F 121 (by decide) dX6_list_74 (fun c74 => ?_) (fun c74 => ?_)
        · refine fx_iload_n (pc := 77) F 3 rfl rfl dX6_list_77 ?_
          refine fx_iconst (pc := 78) F ⟨by decide, by decide⟩ dX6_list_78 ?_
          refine fx_jeq (pc := 79) F 87 (by decide) dX6_list_79 (fun c75 => ?_) (fun c75 => ?_)
          · exact hT69 ⟨c74, (Or.inl c75)⟩
          · refine fx_iload_n (pc := 82) F 1 rfl rfl dX6_list_82 ?_
            refine fx_iconst (pc := 83) F ⟨by decide, by decide⟩ dX6_list_83 ?_
            refine fx_neq (pc := 84) F 121 (by decide) dX6_list_84 (fun c76 => ?_) (fun c76 => ?_)
            · exact hT69 ⟨c74, (Or.inr c76)⟩
            · exact hF70 (fun q => (fun q => q.elim c75 c76) q.2)
        · exact hF70 (fun q => c74 q.1)
      · have eq67 := (if_neg c68).symm.trans eq67
        cases eq67
        exact ex _ rfl
    refine fx_loop_J (Hd := (fun z : Int × Int => fx_J M G Λ 7 33 [some (8, this_0), some (0, what_0), some (0, z.1), some (0, z.2), none, none, none] [] h11)) (Ex := (fun z : Int × Int => fx_J M G Λ 7 54 [some (8, this_0), some (0, what_0), some (0, z.1), some (0, z.2), none, none, none] [] h11)) ?_ Fu _ _ e32 hE33
    rintro ⟨codes_22, k_23⟩ o9 eq24 ih ex
    unfold s_X6_list_1 at eq24
    show fx_J M G Λ 7 33 [some (8, this_0), some (0, what_0), some (0, codes_22), some (0, k_23), none, none, none] [] h11
    refine fx_iload_n (pc := 33) F 3 rfl rfl dX6_list_33 ?_
    refine fx_aload_n (pc := 34) (t := 6) F 0 rfl rfl dX6_list_34 ?_
    obtain ⟨v25, e26, eq24⟩ := fx_bnd eq24
    refine fx_cV (pc := 35) F 6 kC_X6 [] this_0 [(0, k_23)] (m_X6_people Fu Λ this_0 h11 _ e26) kD_X6_people kI_X6_people rfl wM_X6_78 ⟨rfl, rfl⟩ ⟨by decide, by decide⟩ (Nat.le_of_ble_eq_true rfl) rfl dX6_list_35 ?_
    refine fx_nlt (pc := 38) F 54 (by decide) dX6_list_38 (fun c27 => ?_) (fun c27 => ?_)
    · have eq24 := (if_pos c27).symm.trans eq24
      refine fx_iload_n (pc := 41) F 2 rfl rfl dX6_list_41 ?_
      refine fx_aload_n (pc := 42) (t := 6) F 0 rfl rfl dX6_list_42 ?_
      obtain ⟨v28, e29, eq24⟩ := fx_bnd eq24
      refine fx_cV (pc := 43) F 6 kC_X6 [] this_0 [(0, codes_22)] (m_X6_people Fu Λ this_0 h11 _ e29) kD_X6_people kI_X6_people rfl wM_X6_78 ⟨rfl, rfl⟩ ⟨by decide, by decide⟩ (Nat.le_of_ble_eq_true rfl) rfl dX6_list_43 ?_
      refine fx_imul (pc := 46) F dX6_list_46 ?_
      refine fx_istore_n (pc := 47) (ls' := [some (8, this_0), some (0, what_0), some (0, (fx_w (codes_22 * v28))), some (0, k_23), none, none, none]) F 2 rfl (by decide) rfl rfl dX6_list_47 ?_
      refine fx_iinc (pc := 48) (ls' := [some (8, this_0), some (0, what_0), some (0, (fx_w (codes_22 * v28))), some (0, (fx_w (k_23 + 1))), none, none, none]) F (by decide) rfl rfl rfl dX6_list_48 ?_
      refine fx_goto (pc := 51) F 33 (by decide) dX6_list_51 ?_
      cases eq24
      exact ih _ rfl
    · have eq24 := (if_neg c27).symm.trans eq24
      cases eq24
      exact ex _ rfl
def s_X6_changes_1 (Fu : Nat) (Λ : fx_L) (this_7 : Int) (p_8 : Int) : Int × fx_H → Option ((Int × fx_H) ⊕ (Int × fx_H)) := fun (h_5, h6) =>
  if h_5 < 5 then
    (fx_rd Λ h6 (fx_tg Λ this_7 8) (fx_w ((fx_w (5 * p_8)) + h_5))).bind fun v11 =>
    (fx_wr Λ h6 (fx_tg Λ this_7 15) h_5 v11).bind fun h13 =>
    some (.inl ((fx_w (h_5 + 1)), h13))
  else
    some (.inr (h_5, h6))
def s_X6_changes_2 (Fu : Nat) (Λ : fx_L) (this_33 : Int) (p_34 : Int) : Int × fx_H → Option ((Int × fx_H) ⊕ (Int × fx_H)) := fun (h_31, h32) =>
  if h_31 < 5 then
    (fx_rd Λ h32 (fx_tg Λ this_33 15) h_31).bind fun v37 =>
    (fx_wr Λ h32 (fx_tg Λ this_33 8) (fx_w ((fx_w (5 * p_34)) + h_31)) v37).bind fun h39 =>
    some (.inl ((fx_w (h_31 + 1)), h39))
  else
    some (.inr (h_31, h32))
def f_X6_changes (Fu : Nat) (Λ : fx_L) (this_0 : Int) (p_0 : Int) (h : fx_H) : Option (Int × fx_H) :=
  (f_X6_hours Fu Λ this_0 h).bind fun v1 =>
  (f_X6_paysIn Fu Λ this_0 p_0 v1 h).bind fun v3 =>
  Option.bind (fx_loop (s_X6_changes_1 Fu Λ this_0 p_0) Fu (0, h)) fun (h_23, h24) =>
  (f_X6_takeBest Fu Λ this_0 p_0 h24).bind fun (v27, h28) =>
  if v27 < v3 then
    some (1, h28)
  else
    Option.bind (fx_loop (s_X6_changes_2 Fu Λ this_0 p_0) Fu (0, h28)) fun (h_49, h50) =>
    some (0, h50)
abbrev rm_X6_changes : Room := { frames := 5, cells := 0, slots := 0, locals := 126 }
set_option maxRecDepth 100000 in
set_option maxHeartbeats 4000000 in
theorem m_X6_changes (Fu : Nat) (Λ : fx_L) (this_0 : Int) (p_0 : Int) (h : fx_H) (r : Int) (ho : fx_H) (hf : f_X6_changes Fu Λ this_0 p_0 h = some (r, ho)) : fx_Met yX6_changes cX6_changes 4 (some .boolean) rm_X6_changes Λ [(8, this_0), (0, p_0)] h (some (0, r)) ho := by
  unfold f_X6_changes at hf
  refine fx_enter (ls := [some (8, this_0), some (0, p_0), none, none]) (by decide) (Nat.le_of_ble_eq_true rfl) rfl (fun M G F K => ?_)
  refine fx_aload_n (pc := 0) (t := 6) F 0 rfl rfl dX6_changes_0 ?_
  refine fx_iload_n (pc := 1) F 1 rfl rfl dX6_changes_1 ?_
  refine fx_aload_n (pc := 2) (t := 6) F 0 rfl rfl dX6_changes_2 ?_
  obtain ⟨v1, e2, hf⟩ := fx_bnd hf
  refine fx_cV (pc := 3) F 6 kC_X6 [] this_0 [(0, p_0), (8, this_0)] (m_X6_hours Fu Λ this_0 h _ e2) kD_X6_hours kI_X6_hours rfl wM_X6_81 ⟨rfl, rfl⟩ ⟨by decide, by decide⟩ (Nat.le_of_ble_eq_true rfl) rfl dX6_changes_3 ?_
  obtain ⟨v3, e4, hf⟩ := fx_bnd hf
  refine fx_cV (pc := 6) F 6 kC_X6 [(0, p_0), (0, v1)] this_0 [] (m_X6_paysIn Fu Λ this_0 p_0 v1 h _ e4) kD_X6_paysIn kI_X6_paysIn rfl wM_X6_137 ⟨rfl, rfl⟩ ⟨by decide, by decide⟩ (Nat.le_of_ble_eq_true rfl) rfl dX6_changes_6 ?_
  refine fx_istore_n (pc := 9) (ls' := [some (8, this_0), some (0, p_0), some (0, v3), none]) F 2 rfl (by decide) rfl rfl dX6_changes_9 ?_
  refine fx_iconst (pc := 10) F ⟨by decide, by decide⟩ dX6_changes_10 ?_
  refine fx_istore_n (pc := 11) (ls' := [some (8, this_0), some (0, p_0), some (0, v3), some (0, 0)]) F 3 rfl (by decide) rfl rfl dX6_changes_11 ?_
  obtain ⟨⟨h_23, h24⟩, e25, hf⟩ := fx_bnd hf
  have hE26 : fx_J M G Λ 4 39 [some (8, this_0), some (0, p_0), some (0, v3), some (0, h_23)] [] h24 := by
    refine fx_aload_n (pc := 39) (t := 6) F 0 rfl rfl dX6_changes_39 ?_
    refine fx_iload_n (pc := 40) F 1 rfl rfl dX6_changes_40 ?_
    obtain ⟨⟨v27, h28⟩, e29, hf⟩ := fx_bnd hf
    refine fx_cV (pc := 41) F 6 kC_X6 [(0, p_0)] this_0 [] (m_X6_takeBest Fu Λ this_0 p_0 h24 _ _ e29) kD_X6_takeBest kI_X6_takeBest rfl wM_X6_176 ⟨rfl, rfl⟩ ⟨by decide, by decide⟩ (Nat.le_of_ble_eq_true rfl) rfl dX6_changes_41 ?_
    refine fx_iload_n (pc := 44) F 2 rfl rfl dX6_changes_44 ?_
    refine fx_nlt (pc := 45) F 50 (by decide) dX6_changes_45 (fun c30 => ?_) (fun c30 => ?_)
    · have hf := (if_pos c30).symm.trans hf
      refine fx_iconst (pc := 48) F ⟨by decide, by decide⟩ dX6_changes_48 ?_
      cases hf
      exact fx_zreturn (pc := 49) F (Or.inr rfl) K dX6_changes_49
    · have hf := (if_neg c30).symm.trans hf
      refine fx_iconst (pc := 50) F ⟨by decide, by decide⟩ dX6_changes_50 ?_
      refine fx_istore_n (pc := 51) (ls' := [some (8, this_0), some (0, p_0), some (0, v3), some (0, 0)]) F 3 rfl (by decide) rfl rfl dX6_changes_51 ?_
      obtain ⟨⟨h_49, h50⟩, e51, hf⟩ := fx_bnd hf
      have hE52 : fx_J M G Λ 4 79 [some (8, this_0), some (0, p_0), some (0, v3), some (0, h_49)] [] h50 := by
        refine fx_iconst (pc := 79) F ⟨by decide, by decide⟩ dX6_changes_79 ?_
        cases hf
        exact fx_zreturn (pc := 80) F (Or.inl rfl) K dX6_changes_80
      refine fx_loop_J (Hd := (fun z : Int × fx_H => fx_J M G Λ 4 52 [some (8, this_0), some (0, p_0), some (0, v3), some (0, z.1)] [] z.2)) (Ex := (fun z : Int × fx_H => fx_J M G Λ 4 79 [some (8, this_0), some (0, p_0), some (0, v3), some (0, z.1)] [] z.2)) ?_ Fu _ _ e51 hE52
      rintro ⟨h_41, h42⟩ o9 eq43 ih ex
      unfold s_X6_changes_2 at eq43
      show fx_J M G Λ 4 52 [some (8, this_0), some (0, p_0), some (0, v3), some (0, h_41)] [] h42
      refine fx_iload_n (pc := 52) F 3 rfl rfl dX6_changes_52 ?_
      refine fx_iconst (pc := 53) F ⟨by decide, by decide⟩ dX6_changes_53 ?_
      refine fx_nlt (pc := 54) F 79 (by decide) dX6_changes_54 (fun c44 => ?_) (fun c44 => ?_)
      · have eq43 := (if_pos c44).symm.trans eq43
        refine fx_aload_n (pc := 57) (t := 6) F 0 rfl rfl dX6_changes_57 ?_
        refine fx_gR (pc := 58) F 6 8 8 8 rfl kC_X6 (by decide) rfl wF_X6_33 dX6_changes_58 ?_
        refine fx_iconst (pc := 61) F ⟨by decide, by decide⟩ dX6_changes_61 ?_
        refine fx_iload_n (pc := 62) F 1 rfl rfl dX6_changes_62 ?_
        refine fx_imul (pc := 63) F dX6_changes_63 ?_
        refine fx_iload_n (pc := 64) F 3 rfl rfl dX6_changes_64 ?_
        refine fx_iadd (pc := 65) F dX6_changes_65 ?_
        refine fx_aload_n (pc := 66) (t := 6) F 0 rfl rfl dX6_changes_66 ?_
        refine fx_gR (pc := 67) F 6 15 15 8 rfl kC_X6 (by decide) rfl wF_X6_54 dX6_changes_67 ?_
        refine fx_iload_n (pc := 70) F 3 rfl rfl dX6_changes_70 ?_
        obtain ⟨v45, e46, eq43⟩ := fx_bnd eq43
        refine fx_raldI (pc := 71) F e46 dX6_changes_71 ?_
        obtain ⟨h47, e48, eq43⟩ := fx_bnd eq43
        refine fx_rastI (pc := 72) F e48 dX6_changes_72 ?_
        refine fx_iinc (pc := 73) (ls' := [some (8, this_0), some (0, p_0), some (0, v3), some (0, (fx_w (h_41 + 1)))]) F (by decide) rfl rfl rfl dX6_changes_73 ?_
        refine fx_goto (pc := 76) F 52 (by decide) dX6_changes_76 ?_
        cases eq43
        exact ih _ rfl
      · have eq43 := (if_neg c44).symm.trans eq43
        cases eq43
        exact ex _ rfl
  refine fx_loop_J (Hd := (fun z : Int × fx_H => fx_J M G Λ 4 12 [some (8, this_0), some (0, p_0), some (0, v3), some (0, z.1)] [] z.2)) (Ex := (fun z : Int × fx_H => fx_J M G Λ 4 39 [some (8, this_0), some (0, p_0), some (0, v3), some (0, z.1)] [] z.2)) ?_ Fu _ _ e25 hE26
  rintro ⟨h_15, h16⟩ o9 eq17 ih ex
  unfold s_X6_changes_1 at eq17
  show fx_J M G Λ 4 12 [some (8, this_0), some (0, p_0), some (0, v3), some (0, h_15)] [] h16
  refine fx_iload_n (pc := 12) F 3 rfl rfl dX6_changes_12 ?_
  refine fx_iconst (pc := 13) F ⟨by decide, by decide⟩ dX6_changes_13 ?_
  refine fx_nlt (pc := 14) F 39 (by decide) dX6_changes_14 (fun c18 => ?_) (fun c18 => ?_)
  · have eq17 := (if_pos c18).symm.trans eq17
    refine fx_aload_n (pc := 17) (t := 6) F 0 rfl rfl dX6_changes_17 ?_
    refine fx_gR (pc := 18) F 6 15 15 8 rfl kC_X6 (by decide) rfl wF_X6_54 dX6_changes_18 ?_
    refine fx_iload_n (pc := 21) F 3 rfl rfl dX6_changes_21 ?_
    refine fx_aload_n (pc := 22) (t := 6) F 0 rfl rfl dX6_changes_22 ?_
    refine fx_gR (pc := 23) F 6 8 8 8 rfl kC_X6 (by decide) rfl wF_X6_33 dX6_changes_23 ?_
    refine fx_iconst (pc := 26) F ⟨by decide, by decide⟩ dX6_changes_26 ?_
    refine fx_iload_n (pc := 27) F 1 rfl rfl dX6_changes_27 ?_
    refine fx_imul (pc := 28) F dX6_changes_28 ?_
    refine fx_iload_n (pc := 29) F 3 rfl rfl dX6_changes_29 ?_
    refine fx_iadd (pc := 30) F dX6_changes_30 ?_
    obtain ⟨v19, e20, eq17⟩ := fx_bnd eq17
    refine fx_raldI (pc := 31) F e20 dX6_changes_31 ?_
    obtain ⟨h21, e22, eq17⟩ := fx_bnd eq17
    refine fx_rastI (pc := 32) F e22 dX6_changes_32 ?_
    refine fx_iinc (pc := 33) (ls' := [some (8, this_0), some (0, p_0), some (0, v3), some (0, (fx_w (h_15 + 1)))]) F (by decide) rfl rfl rfl dX6_changes_33 ?_
    refine fx_goto (pc := 36) F 12 (by decide) dX6_changes_36 ?_
    cases eq17
    exact ih _ rfl
  · have eq17 := (if_neg c18).symm.trans eq17
    cases eq17
    exact ex _ rfl
def s_X6_rests_2 (Fu : Nat) (Λ : fx_L) (this_24 : Int) : Int × Int × fx_H → Option ((Int × Int × fx_H) ⊕ (Int × Int × fx_H)) := fun (any_21, p_22, h23) =>
  (f_X6_people Fu Λ this_24 h23).bind fun v26 =>
  if p_22 < v26 then
    (f_X6_changes Fu Λ this_24 p_22 h23).bind fun (v29, h30) =>
    Option.bind (
      if ((¬ any_21 = 0) ∨ (¬ v29 = 0)) then
        some 1
      else
        some 0
    ) fun v32 =>
    some (.inl (v32, (fx_w (p_22 + 1)), h30))
  else
    some (.inr (any_21, p_22, h23))
def s_X6_rests_1 (Fu : Nat) (Λ : fx_L) (this_17 : Int) (what_18 : Int) : Int × fx_H → Option ((Int × fx_H) ⊕ ((Int × fx_H) ⊕ (Int × fx_H))) := fun (round_15, h16) =>
  if round_15 ≤ 20 then
    Option.bind (fx_loop (s_X6_rests_2 Fu Λ this_17) Fu (0, 0, h16)) fun (any_58, p_59, h60) =>
    if any_58 = 0 then
      Option.bind (
        if what_18 = 0 then
          some round_15
        else
          (f_X6_hours Fu Λ this_17 h60).bind fun v68 =>
          (f_X6_allIn Fu Λ this_17 v68 h60).bind fun v70 =>
          some v70
      ) fun v64 =>
      some (.inr (.inr (v64, h60)))
    else
      some (.inl ((fx_w (round_15 + 1)), h60))
  else
    some (.inr (.inl (round_15, h16)))
def f_X6_rests (Fu : Nat) (Λ : fx_L) (this_0 : Int) (what_0 : Int) (h : fx_H) : Option (Int × fx_H) :=
  (f_X6_in Fu Λ what_0 0 1 h).bind fun v1 =>
  if v1 = 0 then
    (f_X6_bad Fu Λ this_0 (-10) h).bind fun (v4, h5) =>
    some (v4, h5)
  else
    (f_X6_layNow Fu Λ this_0 h).bind fun h7 =>
    (f_X6_hours Fu Λ this_0 h7).bind fun v9 =>
    (f_X6_findAllRows Fu Λ this_0 v9 h7).bind fun h11 =>
    (f_X6_takeDone Fu Λ this_0 h11).bind fun h13 =>
    Option.bind (fx_loop (s_X6_rests_1 Fu Λ this_0 what_0) Fu (0, h13)) fun x9 =>
    match x9 with
    | .inl (round_127, h128) =>
      Option.bind (
        if what_0 = 0 then
          some (-1)
        else
          some (-5)
      ) fun v131 =>
      some (v131, h128)
    | .inr r9 => some r9
abbrev rm_X6_rests : Room := { frames := 6, cells := 0, slots := 0, locals := 149 }
set_option maxRecDepth 100000 in
set_option maxHeartbeats 4000000 in
theorem m_X6_rests (Fu : Nat) (Λ : fx_L) (this_0 : Int) (what_0 : Int) (h : fx_H) (r : Int) (ho : fx_H) (hf : f_X6_rests Fu Λ this_0 what_0 h = some (r, ho)) : fx_Met yX6_rests cX6_rests 6 (some .int) rm_X6_rests Λ [(8, this_0), (0, what_0)] h (some (0, r)) ho := by
  unfold f_X6_rests at hf
  refine fx_enter (ls := [some (8, this_0), some (0, what_0), none, none, none, none]) (by decide) (Nat.le_of_ble_eq_true rfl) rfl (fun M G F K => ?_)
  refine fx_iload_n (pc := 0) F 1 rfl rfl dX6_rests_0 ?_
  refine fx_ri2l (pc := 1) F dX6_rests_1 ?_
  refine fx_lconst (pc := 2) (z := 0) F rfl ⟨by decide, by decide⟩ (by decide) dX6_rests_2 ?_
  refine fx_lconst (pc := 3) (z := 1) F rfl ⟨by decide, by decide⟩ (by decide) dX6_rests_3 ?_
  obtain ⟨v1, e2, hf⟩ := fx_bnd hf
  refine fx_cS (pc := 4) F [(1, what_0), (1, 0), (1, 1)] [] (m_X6_in Fu Λ what_0 0 1 h _ e2) kD_X6_in wSt_X6_in wM_X6_74 ⟨rfl, rfl⟩ ⟨by decide, by decide⟩ (Nat.le_of_ble_eq_true rfl) rfl dX6_rests_4 ?_
  refine fx_nzeq (pc := 7) F 17 (by decide) dX6_rests_7 (fun c3 => ?_) (fun c3 => ?_)
  · have hf := (if_pos c3).symm.trans hf
    refine fx_aload_n (pc := 10) (t := 6) F 0 rfl rfl dX6_rests_10 ?_
    refine fx_bipush (pc := 11) F ⟨by decide, by decide⟩ (by decide) dX6_rests_11 ?_
    obtain ⟨⟨v4, h5⟩, e6, hf⟩ := fx_bnd hf
    refine fx_cV (pc := 13) F 6 kC_X6 [(0, (-10))] this_0 [] (m_X6_bad Fu Λ this_0 (-10) h _ _ e6) kD_X6_bad kI_X6_bad rfl wM_X6_88 ⟨rfl, rfl⟩ ⟨by decide, by decide⟩ (Nat.le_of_ble_eq_true rfl) rfl dX6_rests_13 ?_
    cases hf
    exact fx_ireturn (pc := 16) F K dX6_rests_16
  · have hf := (if_neg c3).symm.trans hf
    refine fx_aload_n (pc := 17) (t := 6) F 0 rfl rfl dX6_rests_17 ?_
    obtain ⟨h7, e8, hf⟩ := fx_bnd hf
    refine fx_cVv (pc := 18) F 6 kC_X6 [] this_0 [] (m_X6_layNow Fu Λ this_0 h _ e8) kD_X6_layNow kI_X6_layNow rfl wM_X6_119 ⟨rfl, rfl⟩ ⟨by decide, by decide⟩ (Nat.le_of_ble_eq_true rfl) rfl dX6_rests_18 ?_
    refine fx_aload_n (pc := 21) (t := 6) F 0 rfl rfl dX6_rests_21 ?_
    refine fx_aload_n (pc := 22) (t := 6) F 0 rfl rfl dX6_rests_22 ?_
    obtain ⟨v9, e10, hf⟩ := fx_bnd hf
    refine fx_cV (pc := 23) F 6 kC_X6 [] this_0 [(8, this_0)] (m_X6_hours Fu Λ this_0 h7 _ e10) kD_X6_hours kI_X6_hours rfl wM_X6_81 ⟨rfl, rfl⟩ ⟨by decide, by decide⟩ (Nat.le_of_ble_eq_true rfl) rfl dX6_rests_23 ?_
    obtain ⟨h11, e12, hf⟩ := fx_bnd hf
    refine fx_cVv (pc := 26) F 6 kC_X6 [(0, v9)] this_0 [] (m_X6_findAllRows Fu Λ this_0 v9 h7 _ e12) kD_X6_findAllRows kI_X6_findAllRows rfl wM_X6_167 ⟨rfl, rfl⟩ ⟨by decide, by decide⟩ (Nat.le_of_ble_eq_true rfl) rfl dX6_rests_26 ?_
    refine fx_aload_n (pc := 29) (t := 6) F 0 rfl rfl dX6_rests_29 ?_
    obtain ⟨h13, e14, hf⟩ := fx_bnd hf
    refine fx_cVv (pc := 30) F 6 kC_X6 [] this_0 [] (m_X6_takeDone Fu Λ this_0 h11 _ e14) kD_X6_takeDone kI_X6_takeDone rfl wM_X6_140 ⟨rfl, rfl⟩ ⟨by decide, by decide⟩ (Nat.le_of_ble_eq_true rfl) rfl dX6_rests_30 ?_
    refine fx_iconst (pc := 33) F ⟨by decide, by decide⟩ dX6_rests_33 ?_
    refine fx_istore_n (pc := 34) (ls' := [some (8, this_0), some (0, what_0), some (0, 0), none, none, none]) F 2 rfl (by decide) rfl rfl dX6_rests_34 ?_
    obtain ⟨x9, e129, hf⟩ := fx_bnd hf
    have hE130 : (fun y : (Int × fx_H) ⊕ (Int × fx_H) => match y with | .inl z => fx_J M G Λ 6 111 [some (8, this_0), some (0, what_0), some (0, z.1), none, none, none] [] z.2 | .inr r9 => some r9 = some (r, ho)) x9 := by
      cases x9 with
      | inr r9 => exact hf
      | inl y9 =>
        obtain ⟨round_127, h128⟩ := y9
        show fx_J M G Λ 6 111 [some (8, this_0), some (0, what_0), some (0, round_127), none, none, none] [] h128
        obtain ⟨v131, e132, hf⟩ := fx_bnd hf
        have hJ133 : fx_J M G Λ 6 121 [some (8, this_0), some (0, what_0), some (0, round_127), none, none, none] [(0, v131)] h128 := by
          cases hf
          exact fx_ireturn (pc := 121) F K dX6_rests_121
        refine fx_iload_n (pc := 111) F 1 rfl rfl dX6_rests_111 ?_
        refine fx_nzeq (pc := 112) F 119 (by decide) dX6_rests_112 (fun c134 => ?_) (fun c134 => ?_)
        · have e132 := (if_pos c134).symm.trans e132
          refine fx_iconst (pc := 115) F ⟨by decide, by decide⟩ dX6_rests_115 ?_
          cases e132
          refine fx_goto (pc := 116) F 121 (by decide) dX6_rests_116 ?_
          exact hJ133
        · have e132 := (if_neg c134).symm.trans e132
          refine fx_bipush (pc := 119) F ⟨by decide, by decide⟩ (by decide) dX6_rests_119 ?_
          cases e132
          exact hJ133
    refine fx_loop_J (Hd := (fun z : Int × fx_H => fx_J M G Λ 6 35 [some (8, this_0), some (0, what_0), some (0, z.1), none, none, none] [] z.2)) (Ex := (fun y : (Int × fx_H) ⊕ (Int × fx_H) => match y with | .inl z => fx_J M G Λ 6 111 [some (8, this_0), some (0, what_0), some (0, z.1), none, none, none] [] z.2 | .inr r9 => some r9 = some (r, ho))) ?_ Fu _ _ e129 hE130
    rintro ⟨round_72, h73⟩ o9 eq74 ih ex
    unfold s_X6_rests_1 at eq74
    show fx_J M G Λ 6 35 [some (8, this_0), some (0, what_0), some (0, round_72), none, none, none] [] h73
    refine fx_iload_n (pc := 35) F 2 rfl rfl dX6_rests_35 ?_
    refine fx_bipush (pc := 36) F ⟨by decide, by decide⟩ (by decide) dX6_rests_36 ?_
    refine fx_nle (pc := 38) F 111 (by decide) dX6_rests_38 (fun c75 => ?_) (fun c75 => ?_)
    · have eq74 := (if_pos c75).symm.trans eq74
      refine fx_iconst (pc := 41) F ⟨by decide, by decide⟩ dX6_rests_41 ?_
      refine fx_istore_n (pc := 42) (ls' := [some (8, this_0), some (0, what_0), some (0, round_72), some (0, 0), none, none]) F 3 rfl (by decide) rfl rfl dX6_rests_42 ?_
      refine fx_iconst (pc := 43) F ⟨by decide, by decide⟩ dX6_rests_43 ?_
      refine fx_istore (pc := 44) (ls' := [some (8, this_0), some (0, what_0), some (0, round_72), some (0, 0), some (0, 0), none]) F (by decide) rfl rfl dX6_rests_44 ?_
      obtain ⟨⟨any_113, p_114, h115⟩, e116, eq74⟩ := fx_bnd eq74
      have hE117 : fx_J M G Λ 6 84 [some (8, this_0), some (0, what_0), some (0, round_72), some (0, any_113), some (0, p_114), none] [] h115 := by
        refine fx_iload_n (pc := 84) F 3 rfl rfl dX6_rests_84 ?_
        refine fx_nzeq (pc := 85) F 105 (by decide) dX6_rests_85 (fun c118 => ?_) (fun c118 => ?_)
        · have eq74 := (if_pos c118).symm.trans eq74
          obtain ⟨v119, e120, eq74⟩ := fx_bnd eq74
          have hJ121 : fx_J M G Λ 6 104 [some (8, this_0), some (0, what_0), some (0, round_72), some (0, any_113), some (0, p_114), none] [(0, v119)] h115 := by
            cases eq74
            have q9 := ex _ rfl
            cases q9
            exact fx_ireturn (pc := 104) F K dX6_rests_104
          refine fx_iload_n (pc := 88) F 1 rfl rfl dX6_rests_88 ?_
          refine fx_nzeq (pc := 89) F 96 (by decide) dX6_rests_89 (fun c122 => ?_) (fun c122 => ?_)
          · have e120 := (if_pos c122).symm.trans e120
            refine fx_iload_n (pc := 92) F 2 rfl rfl dX6_rests_92 ?_
            cases e120
            refine fx_goto (pc := 93) F 104 (by decide) dX6_rests_93 ?_
            exact hJ121
          · have e120 := (if_neg c122).symm.trans e120
            refine fx_aload_n (pc := 96) (t := 6) F 0 rfl rfl dX6_rests_96 ?_
            refine fx_aload_n (pc := 97) (t := 6) F 0 rfl rfl dX6_rests_97 ?_
            obtain ⟨v123, e124, e120⟩ := fx_bnd e120
            refine fx_cV (pc := 98) F 6 kC_X6 [] this_0 [(8, this_0)] (m_X6_hours Fu Λ this_0 h115 _ e124) kD_X6_hours kI_X6_hours rfl wM_X6_81 ⟨rfl, rfl⟩ ⟨by decide, by decide⟩ (Nat.le_of_ble_eq_true rfl) rfl dX6_rests_98 ?_
            obtain ⟨v125, e126, e120⟩ := fx_bnd e120
            refine fx_cV (pc := 101) F 6 kC_X6 [(0, v123)] this_0 [] (m_X6_allIn Fu Λ this_0 v123 h115 _ e126) kD_X6_allIn kI_X6_allIn rfl wM_X6_143 ⟨rfl, rfl⟩ ⟨by decide, by decide⟩ (Nat.le_of_ble_eq_true rfl) rfl dX6_rests_101 ?_
            cases e120
            exact hJ121
        · have eq74 := (if_neg c118).symm.trans eq74
          refine fx_iinc (pc := 105) (ls' := [some (8, this_0), some (0, what_0), some (0, (fx_w (round_72 + 1))), some (0, any_113), some (0, p_114), none]) F (by decide) rfl rfl rfl dX6_rests_105 ?_
          refine fx_goto (pc := 108) F 35 (by decide) dX6_rests_108 ?_
          cases eq74
          refine fx_drop (ls' := [some (8, this_0), some (0, what_0), some (0, (fx_w (round_72 + 1))), none, none, none]) ⟨rfl, rfl, rfl, trivial⟩ ?_
          exact ih _ rfl
      refine fx_loop_J (Hd := (fun z : Int × Int × fx_H => fx_J M G Λ 6 46 [some (8, this_0), some (0, what_0), some (0, round_72), some (0, z.1), some (0, z.2.1), none] [] z.2.2)) (Ex := (fun z : Int × Int × fx_H => fx_J M G Λ 6 84 [some (8, this_0), some (0, what_0), some (0, round_72), some (0, z.1), some (0, z.2.1), none] [] z.2.2)) ?_ Fu _ _ e116 hE117
      rintro ⟨any_95, p_96, h97⟩ o9 eq98 ih ex
      unfold s_X6_rests_2 at eq98
      show fx_J M G Λ 6 46 [some (8, this_0), some (0, what_0), some (0, round_72), some (0, any_95), some (0, p_96), none] [] h97
      refine fx_iload (pc := 46) F rfl dX6_rests_46 ?_
      refine fx_aload_n (pc := 48) (t := 6) F 0 rfl rfl dX6_rests_48 ?_
      obtain ⟨v99, e100, eq98⟩ := fx_bnd eq98
      refine fx_cV (pc := 49) F 6 kC_X6 [] this_0 [(0, p_96)] (m_X6_people Fu Λ this_0 h97 _ e100) kD_X6_people kI_X6_people rfl wM_X6_78 ⟨rfl, rfl⟩ ⟨by decide, by decide⟩ (Nat.le_of_ble_eq_true rfl) rfl dX6_rests_49 ?_
      refine fx_nlt (pc := 52) F 84 (by decide) dX6_rests_52 (fun c101 => ?_) (fun c101 => ?_)
      · have eq98 := (if_pos c101).symm.trans eq98
        refine fx_aload_n (pc := 55) (t := 6) F 0 rfl rfl dX6_rests_55 ?_
        refine fx_iload (pc := 56) F rfl dX6_rests_56 ?_
        obtain ⟨⟨v102, h103⟩, e104, eq98⟩ := fx_bnd eq98
        refine fx_cV (pc := 58) F 6 kC_X6 [(0, p_96)] this_0 [] (m_X6_changes Fu Λ this_0 p_96 h97 _ _ e104) kD_X6_changes kI_X6_changes rfl wM_X6_185 ⟨rfl, rfl⟩ ⟨by decide, by decide⟩ (Nat.le_of_ble_eq_true rfl) rfl dX6_rests_58 ?_
        refine fx_istore (pc := 61) (ls' := [some (8, this_0), some (0, what_0), some (0, round_72), some (0, any_95), some (0, p_96), some (0, v102)]) F (by decide) rfl rfl dX6_rests_61 ?_
        obtain ⟨v105, e106, eq98⟩ := fx_bnd eq98
        have hJ107 : fx_J M G Λ 6 77 [some (8, this_0), some (0, what_0), some (0, round_72), some (0, any_95), some (0, p_96), some (0, v102)] [(0, v105)] h103 := by
          refine fx_istore_n (pc := 77) (ls' := [some (8, this_0), some (0, what_0), some (0, round_72), some (0, v105), some (0, p_96), some (0, v102)]) F 3 rfl (by decide) rfl rfl dX6_rests_77 ?_
          refine fx_iinc (pc := 78) (ls' := [some (8, this_0), some (0, what_0), some (0, round_72), some (0, v105), some (0, (fx_w (p_96 + 1))), some (0, v102)]) F (by decide) rfl rfl rfl dX6_rests_78 ?_
          refine fx_goto (pc := 81) F 46 (by decide) dX6_rests_81 ?_
          cases eq98
          refine fx_drop (ls' := [some (8, this_0), some (0, what_0), some (0, round_72), some (0, v105), some (0, (fx_w (p_96 + 1))), none]) ⟨rfl, rfl, rfl, rfl, rfl, trivial⟩ ?_
          exact ih _ rfl
        refine fx_iload_n (pc := 63) F 3 rfl rfl dX6_rests_63 ?_
        have hT108 : (((¬ any_95 = 0) ∨ (¬ v102 = 0))) → fx_J M G Λ 6 72 [some (8, this_0), some (0, what_0), some (0, round_72), some (0, any_95), some (0, p_96), some (0, v102)] [] h103 := fun c112 => by
          have e106 := (if_pos c112).symm.trans e106
          refine fx_iconst (pc := 72) F ⟨by decide, by decide⟩ dX6_rests_72 ?_
          cases e106
          refine fx_goto (pc := 73) F 77 (by decide) dX6_rests_73 ?_
          exact hJ107
        have hF109 : ¬ (((¬ any_95 = 0) ∨ (¬ v102 = 0))) → fx_J M G Λ 6 76 [some (8, this_0), some (0, what_0), some (0, round_72), some (0, any_95), some (0, p_96), some (0, v102)] [] h103 := fun c112 => by
          have e106 := (if_neg c112).symm.trans e106
          refine fx_iconst (pc := 76) F ⟨by decide, by decide⟩ dX6_rests_76 ?_
          cases e106
          exact hJ107
        refine fx_jzne (pc := 64) F 72 (by decide) dX6_rests_64 (fun c110 => ?_) (fun c110 => ?_)
        · exact hT108 (Or.inl c110)
        · refine fx_iload (pc := 67) F rfl dX6_rests_67 ?_
          refine fx_nzne (pc := 69) F 76 (by decide) dX6_rests_69 (fun c111 => ?_) (fun c111 => ?_)
          · exact hT108 (Or.inr c111)
          · exact hF109 (fun q => q.elim c110 c111)
      · have eq98 := (if_neg c101).symm.trans eq98
        cases eq98
        exact ex _ rfl
    · have eq74 := (if_neg c75).symm.trans eq74
      cases eq74
      exact ex _ rfl
def s_X6_better_1 (Fu : Nat) (Λ : fx_L) (this_23 : Int) (person_24 : Int) (hour_25 : Int) : Int × Int × Int × fx_H → Option ((Int × Int × Int × fx_H) ⊕ (Int × Int × Int × fx_H)) := fun (bestThing_19, least_20, t_21, h22) =>
  (f_X6_things Fu Λ this_23 h22).bind fun v27 =>
  if t_21 < v27 then
    (fx_wr Λ h22 (fx_tg Λ this_23 8) (fx_w ((fx_w (5 * person_24)) + hour_25)) t_21).bind fun h30 =>
    (f_X6_paysOf Fu Λ this_23 person_24 hour_25 h30).bind fun v32 =>
    Option.bind (
      if v32 < least_20 then
        some t_21
      else
        some bestThing_19
    ) fun v34 =>
    Option.bind (
      if v32 < least_20 then
        some v32
      else
        some least_20
    ) fun v38 =>
    some (.inl (v34, v38, (fx_w (t_21 + 1)), h30))
  else
    some (.inr (bestThing_19, least_20, t_21, h22))
def f_X6_better (Fu : Nat) (Λ : fx_L) (this_0 : Int) (person_0 : Int) (hour_0 : Int) (h : fx_H) : Option (Int × fx_H) :=
  Option.bind (
    (f_X6_isOne Fu Λ this_0 person_0 h).bind fun v5 =>
    if v5 = 0 then
      some true
    else
      (f_X6_isHour Fu Λ this_0 hour_0 h).bind fun v8 =>
      if v8 = 0 then
        some true
      else
        some false
  ) fun b1 =>
  if b1 = true then
    (f_X6_bad Fu Λ this_0 (-2) h).bind fun (v12, h13) =>
    some (v12, h13)
  else
    (f_X6_layNow Fu Λ this_0 h).bind fun h15 =>
    (f_X6_takeDone Fu Λ this_0 h15).bind fun h17 =>
    Option.bind (fx_loop (s_X6_better_1 Fu Λ this_0 person_0 hour_0) Fu ((-1), 1000000, 0, h17)) fun (bestThing_62, least_63, t_64, h65) =>
    some (bestThing_62, h65)
abbrev rm_X6_better : Room := { frames := 3, cells := 0, slots := 0, locals := 77 }
set_option maxRecDepth 100000 in
set_option maxHeartbeats 4000000 in
theorem m_X6_better (Fu : Nat) (Λ : fx_L) (this_0 : Int) (person_0 : Int) (hour_0 : Int) (h : fx_H) (r : Int) (ho : fx_H) (hf : f_X6_better Fu Λ this_0 person_0 hour_0 h = some (r, ho)) : fx_Met yX6_better cX6_better 7 (some .int) rm_X6_better Λ [(8, this_0), (0, person_0), (0, hour_0)] h (some (0, r)) ho := by
  unfold f_X6_better at hf
  refine fx_enter (ls := [some (8, this_0), some (0, person_0), some (0, hour_0), none, none, none, none]) (by decide) (Nat.le_of_ble_eq_true rfl) rfl (fun M G F K => ?_)
  obtain ⟨b1, e2, hf⟩ := fx_bnd hf
  have hT3 : b1 = true → fx_J M G Λ 7 16 [some (8, this_0), some (0, person_0), some (0, hour_0), none, none, none, none] [] h := fun c11 => by
    have hf := (if_pos c11).symm.trans hf
    refine fx_aload_n (pc := 16) (t := 6) F 0 rfl rfl dX6_better_16 ?_
    refine fx_bipush (pc := 17) F ⟨by decide, by decide⟩ (by decide) dX6_better_17 ?_
    obtain ⟨⟨v12, h13⟩, e14, hf⟩ := fx_bnd hf
    refine fx_cV (pc := 19) F 6 kC_X6 [(0, (-2))] this_0 [] (m_X6_bad Fu Λ this_0 (-2) h _ _ e14) kD_X6_bad kI_X6_bad rfl wM_X6_88 ⟨rfl, rfl⟩ ⟨by decide, by decide⟩ (Nat.le_of_ble_eq_true rfl) rfl dX6_better_19 ?_
    cases hf
    exact fx_ireturn (pc := 22) F K dX6_better_22
  have hF4 : ¬ b1 = true → fx_J M G Λ 7 23 [some (8, this_0), some (0, person_0), some (0, hour_0), none, none, none, none] [] h := fun c11 => by
    have hf := (if_neg c11).symm.trans hf
    refine fx_aload_n (pc := 23) (t := 6) F 0 rfl rfl dX6_better_23 ?_
    obtain ⟨h15, e16, hf⟩ := fx_bnd hf
    refine fx_cVv (pc := 24) F 6 kC_X6 [] this_0 [] (m_X6_layNow Fu Λ this_0 h _ e16) kD_X6_layNow kI_X6_layNow rfl wM_X6_119 ⟨rfl, rfl⟩ ⟨by decide, by decide⟩ (Nat.le_of_ble_eq_true rfl) rfl dX6_better_24 ?_
    refine fx_aload_n (pc := 27) (t := 6) F 0 rfl rfl dX6_better_27 ?_
    obtain ⟨h17, e18, hf⟩ := fx_bnd hf
    refine fx_cVv (pc := 28) F 6 kC_X6 [] this_0 [] (m_X6_takeDone Fu Λ this_0 h15 _ e18) kD_X6_takeDone kI_X6_takeDone rfl wM_X6_140 ⟨rfl, rfl⟩ ⟨by decide, by decide⟩ (Nat.le_of_ble_eq_true rfl) rfl dX6_better_28 ?_
    refine fx_iconst (pc := 31) F ⟨by decide, by decide⟩ dX6_better_31 ?_
    refine fx_istore_n (pc := 32) (ls' := [some (8, this_0), some (0, person_0), some (0, hour_0), some (0, (-1)), none, none, none]) F 3 rfl (by decide) rfl rfl dX6_better_32 ?_
    refine fx_ldc (pc := 33) (z := 1000000) F (by decide) ⟨by decide, by decide⟩ wK_X6_158 dX6_better_33 ?_
    refine fx_istore (pc := 35) (ls' := [some (8, this_0), some (0, person_0), some (0, hour_0), some (0, (-1)), some (0, 1000000), none, none]) F (by decide) rfl rfl dX6_better_35 ?_
    refine fx_iconst (pc := 37) F ⟨by decide, by decide⟩ dX6_better_37 ?_
    refine fx_istore (pc := 38) (ls' := [some (8, this_0), some (0, person_0), some (0, hour_0), some (0, (-1)), some (0, 1000000), some (0, 0), none]) F (by decide) rfl rfl dX6_better_38 ?_
    obtain ⟨⟨bestThing_62, least_63, t_64, h65⟩, e66, hf⟩ := fx_bnd hf
    have hE67 : fx_J M G Λ 7 105 [some (8, this_0), some (0, person_0), some (0, hour_0), some (0, bestThing_62), some (0, least_63), some (0, t_64), none] [] h65 := by
      refine fx_iload_n (pc := 105) F 3 rfl rfl dX6_better_105 ?_
      cases hf
      exact fx_ireturn (pc := 106) F K dX6_better_106
    refine fx_loop_J (Hd := (fun z : Int × Int × Int × fx_H => fx_J M G Λ 7 40 [some (8, this_0), some (0, person_0), some (0, hour_0), some (0, z.1), some (0, z.2.1), some (0, z.2.2.1), none] [] z.2.2.2)) (Ex := (fun z : Int × Int × Int × fx_H => fx_J M G Λ 7 105 [some (8, this_0), some (0, person_0), some (0, hour_0), some (0, z.1), some (0, z.2.1), some (0, z.2.2.1), none] [] z.2.2.2)) ?_ Fu _ _ e66 hE67
    rintro ⟨bestThing_42, least_43, t_44, h45⟩ o9 eq46 ih ex
    unfold s_X6_better_1 at eq46
    show fx_J M G Λ 7 40 [some (8, this_0), some (0, person_0), some (0, hour_0), some (0, bestThing_42), some (0, least_43), some (0, t_44), none] [] h45
    refine fx_iload (pc := 40) F rfl dX6_better_40 ?_
    refine fx_aload_n (pc := 42) (t := 6) F 0 rfl rfl dX6_better_42 ?_
    obtain ⟨v47, e48, eq46⟩ := fx_bnd eq46
    refine fx_cV (pc := 43) F 6 kC_X6 [] this_0 [(0, t_44)] (m_X6_things Fu Λ this_0 h45 _ e48) kD_X6_things kI_X6_things rfl wM_X6_70 ⟨rfl, rfl⟩ ⟨by decide, by decide⟩ (Nat.le_of_ble_eq_true rfl) rfl dX6_better_43 ?_
    refine fx_nlt (pc := 46) F 105 (by decide) dX6_better_46 (fun c49 => ?_) (fun c49 => ?_)
    · have eq46 := (if_pos c49).symm.trans eq46
      refine fx_aload_n (pc := 49) (t := 6) F 0 rfl rfl dX6_better_49 ?_
      refine fx_gR (pc := 50) F 6 8 8 8 rfl kC_X6 (by decide) rfl wF_X6_33 dX6_better_50 ?_
      refine fx_iconst (pc := 53) F ⟨by decide, by decide⟩ dX6_better_53 ?_
      refine fx_iload_n (pc := 54) F 1 rfl rfl dX6_better_54 ?_
      refine fx_imul (pc := 55) F dX6_better_55 ?_
      refine fx_iload_n (pc := 56) F 2 rfl rfl dX6_better_56 ?_
      refine fx_iadd (pc := 57) F dX6_better_57 ?_
      refine fx_iload (pc := 58) F rfl dX6_better_58 ?_
      obtain ⟨h50, e51, eq46⟩ := fx_bnd eq46
      refine fx_rastI (pc := 60) F e51 dX6_better_60 ?_
      refine fx_aload_n (pc := 61) (t := 6) F 0 rfl rfl dX6_better_61 ?_
      refine fx_iload_n (pc := 62) F 1 rfl rfl dX6_better_62 ?_
      refine fx_iload_n (pc := 63) F 2 rfl rfl dX6_better_63 ?_
      obtain ⟨v52, e53, eq46⟩ := fx_bnd eq46
      refine fx_cV (pc := 64) F 6 kC_X6 [(0, person_0), (0, hour_0)] this_0 [] (m_X6_paysOf Fu Λ this_0 person_0 hour_0 h50 _ e53) kD_X6_paysOf kI_X6_paysOf rfl wM_X6_134 ⟨rfl, rfl⟩ ⟨by decide, by decide⟩ (Nat.le_of_ble_eq_true rfl) rfl dX6_better_64 ?_
      refine fx_istore (pc := 67) (ls' := [some (8, this_0), some (0, person_0), some (0, hour_0), some (0, bestThing_42), some (0, least_43), some (0, t_44), some (0, v52)]) F (by decide) rfl rfl dX6_better_67 ?_
      obtain ⟨v54, e55, eq46⟩ := fx_bnd eq46
      have hJ56 : fx_J M G Λ 7 82 [some (8, this_0), some (0, person_0), some (0, hour_0), some (0, bestThing_42), some (0, least_43), some (0, t_44), some (0, v52)] [(0, v54)] h50 := by
        refine fx_istore_n (pc := 82) (ls' := [some (8, this_0), some (0, person_0), some (0, hour_0), some (0, v54), some (0, least_43), some (0, t_44), some (0, v52)]) F 3 rfl (by decide) rfl rfl dX6_better_82 ?_
        obtain ⟨v58, e59, eq46⟩ := fx_bnd eq46
        have hJ60 : fx_J M G Λ 7 97 [some (8, this_0), some (0, person_0), some (0, hour_0), some (0, v54), some (0, least_43), some (0, t_44), some (0, v52)] [(0, v58)] h50 := by
          refine fx_istore (pc := 97) (ls' := [some (8, this_0), some (0, person_0), some (0, hour_0), some (0, v54), some (0, v58), some (0, t_44), some (0, v52)]) F (by decide) rfl rfl dX6_better_97 ?_
          refine fx_iinc (pc := 99) (ls' := [some (8, this_0), some (0, person_0), some (0, hour_0), some (0, v54), some (0, v58), some (0, (fx_w (t_44 + 1))), some (0, v52)]) F (by decide) rfl rfl rfl dX6_better_99 ?_
          refine fx_goto (pc := 102) F 40 (by decide) dX6_better_102 ?_
          cases eq46
          refine fx_drop (ls' := [some (8, this_0), some (0, person_0), some (0, hour_0), some (0, v54), some (0, v58), some (0, (fx_w (t_44 + 1))), none]) ⟨rfl, rfl, rfl, rfl, rfl, rfl, trivial⟩ ?_
          exact ih _ rfl
        refine fx_iload (pc := 83) F rfl dX6_better_83 ?_
        refine fx_iload (pc := 85) F rfl dX6_better_85 ?_
        refine fx_nlt (pc := 87) F 95 (by decide) dX6_better_87 (fun c61 => ?_) (fun c61 => ?_)
        · have e59 := (if_pos c61).symm.trans e59
          refine fx_iload (pc := 90) F rfl dX6_better_90 ?_
          cases e59
          refine fx_goto (pc := 92) F 97 (by decide) dX6_better_92 ?_
          exact hJ60
        · have e59 := (if_neg c61).symm.trans e59
          refine fx_iload (pc := 95) F rfl dX6_better_95 ?_
          cases e59
          exact hJ60
      refine fx_iload (pc := 69) F rfl dX6_better_69 ?_
      refine fx_iload (pc := 71) F rfl dX6_better_71 ?_
      refine fx_nlt (pc := 73) F 81 (by decide) dX6_better_73 (fun c57 => ?_) (fun c57 => ?_)
      · have e55 := (if_pos c57).symm.trans e55
        refine fx_iload (pc := 76) F rfl dX6_better_76 ?_
        cases e55
        refine fx_goto (pc := 78) F 82 (by decide) dX6_better_78 ?_
        exact hJ56
      · have e55 := (if_neg c57).symm.trans e55
        refine fx_iload_n (pc := 81) F 3 rfl rfl dX6_better_81 ?_
        cases e55
        exact hJ56
    · have eq46 := (if_neg c49).symm.trans eq46
      cases eq46
      exact ex _ rfl
  refine fx_aload_n (pc := 0) (t := 6) F 0 rfl rfl dX6_better_0 ?_
  refine fx_iload_n (pc := 1) F 1 rfl rfl dX6_better_1 ?_
  obtain ⟨v5, e6, e2⟩ := fx_bnd e2
  refine fx_cV (pc := 2) F 6 kC_X6 [(0, person_0)] this_0 [] (m_X6_isOne Fu Λ this_0 person_0 h _ e6) kD_X6_isOne kI_X6_isOne rfl wM_X6_102 ⟨rfl, rfl⟩ ⟨by decide, by decide⟩ (Nat.le_of_ble_eq_true rfl) rfl dX6_better_2 ?_
  refine fx_jzeq (pc := 5) F 16 (by decide) dX6_better_5 (fun c7 => ?_) (fun c7 => ?_)
  · have e2 := (if_pos c7).symm.trans e2
    cases e2
    exact hT3 (by decide)
  · have e2 := (if_neg c7).symm.trans e2
    refine fx_aload_n (pc := 8) (t := 6) F 0 rfl rfl dX6_better_8 ?_
    refine fx_iload_n (pc := 9) F 2 rfl rfl dX6_better_9 ?_
    obtain ⟨v8, e9, e2⟩ := fx_bnd e2
    refine fx_cV (pc := 10) F 6 kC_X6 [(0, hour_0)] this_0 [] (m_X6_isHour Fu Λ this_0 hour_0 h _ e9) kD_X6_isHour kI_X6_isHour rfl wM_X6_97 ⟨rfl, rfl⟩ ⟨by decide, by decide⟩ (Nat.le_of_ble_eq_true rfl) rfl dX6_better_10 ?_
    refine fx_nzeq (pc := 13) F 23 (by decide) dX6_better_13 (fun c10 => ?_) (fun c10 => ?_)
    · have e2 := (if_pos c10).symm.trans e2
      cases e2
      exact hT3 (by decide)
    · have e2 := (if_neg c10).symm.trans e2
      cases e2
      exact hF4 (by decide)
def f_X6_name (Fu : Nat) (Λ : fx_L) (this_0 : Int) (thing_0 : Int) (h : fx_H) : Option (Int × fx_H) :=
  (f_X6_isThing Fu Λ this_0 thing_0 h).bind fun v1 =>
  if v1 = 0 then
    (f_X6_bad Fu Λ this_0 (-1000) h).bind fun (v4, h5) =>
    some (v4, h5)
  else
    (f_X6_takeDone Fu Λ this_0 h).bind fun h7 =>
    (f_X6_layNow Fu Λ this_0 h7).bind fun h9 =>
    (f_X6_hours Fu Λ this_0 h9).bind fun v11 =>
    (f_X6_allIn Fu Λ this_0 v11 h9).bind fun v13 =>
    (fx_rd Λ h9 (fx_tg Λ this_0 0) 12).bind fun v15 =>
    (f_X6_layLine Fu Λ this_0 v15 thing_0 h9).bind fun h17 =>
    (f_X6_hours Fu Λ this_0 h17).bind fun v19 =>
    (f_X6_allIn Fu Λ this_0 v19 h17).bind fun v21 =>
    some ((fx_w (v13 - v21)), h17)
abbrev rm_X6_name : Room := { frames := 5, cells := 0, slots := 0, locals := 124 }
set_option maxRecDepth 100000 in
set_option maxHeartbeats 4000000 in
theorem m_X6_name (Fu : Nat) (Λ : fx_L) (this_0 : Int) (thing_0 : Int) (h : fx_H) (r : Int) (ho : fx_H) (hf : f_X6_name Fu Λ this_0 thing_0 h = some (r, ho)) : fx_Met yX6_name cX6_name 3 (some .int) rm_X6_name Λ [(8, this_0), (0, thing_0)] h (some (0, r)) ho := by
  unfold f_X6_name at hf
  refine fx_enter (ls := [some (8, this_0), some (0, thing_0), none]) (by decide) (Nat.le_of_ble_eq_true rfl) rfl (fun M G F K => ?_)
  refine fx_aload_n (pc := 0) (t := 6) F 0 rfl rfl dX6_name_0 ?_
  refine fx_iload_n (pc := 1) F 1 rfl rfl dX6_name_1 ?_
  obtain ⟨v1, e2, hf⟩ := fx_bnd hf
  refine fx_cV (pc := 2) F 6 kC_X6 [(0, thing_0)] this_0 [] (m_X6_isThing Fu Λ this_0 thing_0 h _ e2) kD_X6_isThing kI_X6_isThing rfl wM_X6_84 ⟨rfl, rfl⟩ ⟨by decide, by decide⟩ (Nat.le_of_ble_eq_true rfl) rfl dX6_name_2 ?_
  refine fx_nzeq (pc := 5) F 16 (by decide) dX6_name_5 (fun c3 => ?_) (fun c3 => ?_)
  · have hf := (if_pos c3).symm.trans hf
    refine fx_aload_n (pc := 8) (t := 6) F 0 rfl rfl dX6_name_8 ?_
    refine fx_sipush (pc := 9) F ⟨by decide, by decide⟩ (by decide) dX6_name_9 ?_
    obtain ⟨⟨v4, h5⟩, e6, hf⟩ := fx_bnd hf
    refine fx_cV (pc := 12) F 6 kC_X6 [(0, (-1000))] this_0 [] (m_X6_bad Fu Λ this_0 (-1000) h _ _ e6) kD_X6_bad kI_X6_bad rfl wM_X6_88 ⟨rfl, rfl⟩ ⟨by decide, by decide⟩ (Nat.le_of_ble_eq_true rfl) rfl dX6_name_12 ?_
    cases hf
    exact fx_ireturn (pc := 15) F K dX6_name_15
  · have hf := (if_neg c3).symm.trans hf
    refine fx_aload_n (pc := 16) (t := 6) F 0 rfl rfl dX6_name_16 ?_
    obtain ⟨h7, e8, hf⟩ := fx_bnd hf
    refine fx_cVv (pc := 17) F 6 kC_X6 [] this_0 [] (m_X6_takeDone Fu Λ this_0 h _ e8) kD_X6_takeDone kI_X6_takeDone rfl wM_X6_140 ⟨rfl, rfl⟩ ⟨by decide, by decide⟩ (Nat.le_of_ble_eq_true rfl) rfl dX6_name_17 ?_
    refine fx_aload_n (pc := 20) (t := 6) F 0 rfl rfl dX6_name_20 ?_
    obtain ⟨h9, e10, hf⟩ := fx_bnd hf
    refine fx_cVv (pc := 21) F 6 kC_X6 [] this_0 [] (m_X6_layNow Fu Λ this_0 h7 _ e10) kD_X6_layNow kI_X6_layNow rfl wM_X6_119 ⟨rfl, rfl⟩ ⟨by decide, by decide⟩ (Nat.le_of_ble_eq_true rfl) rfl dX6_name_21 ?_
    refine fx_aload_n (pc := 24) (t := 6) F 0 rfl rfl dX6_name_24 ?_
    refine fx_aload_n (pc := 25) (t := 6) F 0 rfl rfl dX6_name_25 ?_
    obtain ⟨v11, e12, hf⟩ := fx_bnd hf
    refine fx_cV (pc := 26) F 6 kC_X6 [] this_0 [(8, this_0)] (m_X6_hours Fu Λ this_0 h9 _ e12) kD_X6_hours kI_X6_hours rfl wM_X6_81 ⟨rfl, rfl⟩ ⟨by decide, by decide⟩ (Nat.le_of_ble_eq_true rfl) rfl dX6_name_26 ?_
    obtain ⟨v13, e14, hf⟩ := fx_bnd hf
    refine fx_cV (pc := 29) F 6 kC_X6 [(0, v11)] this_0 [] (m_X6_allIn Fu Λ this_0 v11 h9 _ e14) kD_X6_allIn kI_X6_allIn rfl wM_X6_143 ⟨rfl, rfl⟩ ⟨by decide, by decide⟩ (Nat.le_of_ble_eq_true rfl) rfl dX6_name_29 ?_
    refine fx_istore_n (pc := 32) (ls' := [some (8, this_0), some (0, thing_0), some (0, v13)]) F 2 rfl (by decide) rfl rfl dX6_name_32 ?_
    refine fx_aload_n (pc := 33) (t := 6) F 0 rfl rfl dX6_name_33 ?_
    refine fx_aload_n (pc := 34) (t := 6) F 0 rfl rfl dX6_name_34 ?_
    refine fx_gR (pc := 35) F 6 0 0 8 rfl kC_X6 (by decide) rfl wF_X6_7 dX6_name_35 ?_
    refine fx_bipush (pc := 38) F ⟨by decide, by decide⟩ (by decide) dX6_name_38 ?_
    obtain ⟨v15, e16, hf⟩ := fx_bnd hf
    refine fx_raldI (pc := 40) F e16 dX6_name_40 ?_
    refine fx_iload_n (pc := 41) F 1 rfl rfl dX6_name_41 ?_
    obtain ⟨h17, e18, hf⟩ := fx_bnd hf
    refine fx_cVv (pc := 42) F 6 kC_X6 [(0, v15), (0, thing_0)] this_0 [] (m_X6_layLine Fu Λ this_0 v15 thing_0 h9 _ e18) kD_X6_layLine kI_X6_layLine rfl wM_X6_115 ⟨rfl, rfl⟩ ⟨by decide, by decide⟩ (Nat.le_of_ble_eq_true rfl) rfl dX6_name_42 ?_
    refine fx_iload_n (pc := 45) F 2 rfl rfl dX6_name_45 ?_
    refine fx_aload_n (pc := 46) (t := 6) F 0 rfl rfl dX6_name_46 ?_
    refine fx_aload_n (pc := 47) (t := 6) F 0 rfl rfl dX6_name_47 ?_
    obtain ⟨v19, e20, hf⟩ := fx_bnd hf
    refine fx_cV (pc := 48) F 6 kC_X6 [] this_0 [(8, this_0), (0, v13)] (m_X6_hours Fu Λ this_0 h17 _ e20) kD_X6_hours kI_X6_hours rfl wM_X6_81 ⟨rfl, rfl⟩ ⟨by decide, by decide⟩ (Nat.le_of_ble_eq_true rfl) rfl dX6_name_48 ?_
    obtain ⟨v21, e22, hf⟩ := fx_bnd hf
    refine fx_cV (pc := 51) F 6 kC_X6 [(0, v19)] this_0 [(0, v13)] (m_X6_allIn Fu Λ this_0 v19 h17 _ e22) kD_X6_allIn kI_X6_allIn rfl wM_X6_143 ⟨rfl, rfl⟩ ⟨by decide, by decide⟩ (Nat.le_of_ble_eq_true rfl) rfl dX6_name_51 ?_
    refine fx_isub (pc := 54) F dX6_name_54 ?_
    cases hf
    exact fx_ireturn (pc := 55) F K dX6_name_55
def s_X6_line_1 (Fu : Nat) (Λ : fx_L) (this_13 : Int) (person_14 : Int) : Int × Int × Int × fx_H → Option ((Int × Int × Int × fx_H) ⊕ (Int × Int × Int × fx_H)) := fun (bestLine_9, least_10, line_11, h12) =>
  if line_11 < 5 then
    (f_X6_layLine Fu Λ this_13 line_11 (-1) h12).bind fun h17 =>
    (f_X6_hours Fu Λ this_13 h17).bind fun v19 =>
    (f_X6_paysIn Fu Λ this_13 person_14 v19 h17).bind fun v21 =>
    Option.bind (
      if v21 < least_10 then
        some line_11
      else
        some bestLine_9
    ) fun v23 =>
    Option.bind (
      if v21 < least_10 then
        some v21
      else
        some least_10
    ) fun v27 =>
    some (.inl (v23, v27, (fx_w (line_11 + 1)), h17))
  else
    some (.inr (bestLine_9, least_10, line_11, h12))
def f_X6_line (Fu : Nat) (Λ : fx_L) (this_0 : Int) (person_0 : Int) (h : fx_H) : Option (Int × fx_H) :=
  (f_X6_isOne Fu Λ this_0 person_0 h).bind fun v1 =>
  if v1 = 0 then
    (f_X6_bad Fu Λ this_0 (-2) h).bind fun (v4, h5) =>
    some (v4, h5)
  else
    (f_X6_takeDone Fu Λ this_0 h).bind fun h7 =>
    Option.bind (fx_loop (s_X6_line_1 Fu Λ this_0 person_0) Fu (0, 1000000, 0, h7)) fun (bestLine_51, least_52, line_53, h54) =>
    some (bestLine_51, h54)
abbrev rm_X6_line : Room := { frames := 4, cells := 0, slots := 0, locals := 101 }
set_option maxRecDepth 100000 in
set_option maxHeartbeats 4000000 in
theorem m_X6_line (Fu : Nat) (Λ : fx_L) (this_0 : Int) (person_0 : Int) (h : fx_H) (r : Int) (ho : fx_H) (hf : f_X6_line Fu Λ this_0 person_0 h = some (r, ho)) : fx_Met yX6_line cX6_line 6 (some .int) rm_X6_line Λ [(8, this_0), (0, person_0)] h (some (0, r)) ho := by
  unfold f_X6_line at hf
  refine fx_enter (ls := [some (8, this_0), some (0, person_0), none, none, none, none]) (by decide) (Nat.le_of_ble_eq_true rfl) rfl (fun M G F K => ?_)
  refine fx_aload_n (pc := 0) (t := 6) F 0 rfl rfl dX6_line_0 ?_
  refine fx_iload_n (pc := 1) F 1 rfl rfl dX6_line_1 ?_
  obtain ⟨v1, e2, hf⟩ := fx_bnd hf
  refine fx_cV (pc := 2) F 6 kC_X6 [(0, person_0)] this_0 [] (m_X6_isOne Fu Λ this_0 person_0 h _ e2) kD_X6_isOne kI_X6_isOne rfl wM_X6_102 ⟨rfl, rfl⟩ ⟨by decide, by decide⟩ (Nat.le_of_ble_eq_true rfl) rfl dX6_line_2 ?_
  refine fx_nzeq (pc := 5) F 15 (by decide) dX6_line_5 (fun c3 => ?_) (fun c3 => ?_)
  · have hf := (if_pos c3).symm.trans hf
    refine fx_aload_n (pc := 8) (t := 6) F 0 rfl rfl dX6_line_8 ?_
    refine fx_bipush (pc := 9) F ⟨by decide, by decide⟩ (by decide) dX6_line_9 ?_
    obtain ⟨⟨v4, h5⟩, e6, hf⟩ := fx_bnd hf
    refine fx_cV (pc := 11) F 6 kC_X6 [(0, (-2))] this_0 [] (m_X6_bad Fu Λ this_0 (-2) h _ _ e6) kD_X6_bad kI_X6_bad rfl wM_X6_88 ⟨rfl, rfl⟩ ⟨by decide, by decide⟩ (Nat.le_of_ble_eq_true rfl) rfl dX6_line_11 ?_
    cases hf
    exact fx_ireturn (pc := 14) F K dX6_line_14
  · have hf := (if_neg c3).symm.trans hf
    refine fx_aload_n (pc := 15) (t := 6) F 0 rfl rfl dX6_line_15 ?_
    obtain ⟨h7, e8, hf⟩ := fx_bnd hf
    refine fx_cVv (pc := 16) F 6 kC_X6 [] this_0 [] (m_X6_takeDone Fu Λ this_0 h _ e8) kD_X6_takeDone kI_X6_takeDone rfl wM_X6_140 ⟨rfl, rfl⟩ ⟨by decide, by decide⟩ (Nat.le_of_ble_eq_true rfl) rfl dX6_line_16 ?_
    refine fx_iconst (pc := 19) F ⟨by decide, by decide⟩ dX6_line_19 ?_
    refine fx_istore_n (pc := 20) (ls' := [some (8, this_0), some (0, person_0), some (0, 0), none, none, none]) F 2 rfl (by decide) rfl rfl dX6_line_20 ?_
    refine fx_ldc (pc := 21) (z := 1000000) F (by decide) ⟨by decide, by decide⟩ wK_X6_158 dX6_line_21 ?_
    refine fx_istore_n (pc := 23) (ls' := [some (8, this_0), some (0, person_0), some (0, 0), some (0, 1000000), none, none]) F 3 rfl (by decide) rfl rfl dX6_line_23 ?_
    refine fx_iconst (pc := 24) F ⟨by decide, by decide⟩ dX6_line_24 ?_
    refine fx_istore (pc := 25) (ls' := [some (8, this_0), some (0, person_0), some (0, 0), some (0, 1000000), some (0, 0), none]) F (by decide) rfl rfl dX6_line_25 ?_
    obtain ⟨⟨bestLine_51, least_52, line_53, h54⟩, e55, hf⟩ := fx_bnd hf
    have hE56 : fx_J M G Λ 6 83 [some (8, this_0), some (0, person_0), some (0, bestLine_51), some (0, least_52), some (0, line_53), none] [] h54 := by
      refine fx_iload_n (pc := 83) F 2 rfl rfl dX6_line_83 ?_
      cases hf
      exact fx_ireturn (pc := 84) F K dX6_line_84
    refine fx_loop_J (Hd := (fun z : Int × Int × Int × fx_H => fx_J M G Λ 6 27 [some (8, this_0), some (0, person_0), some (0, z.1), some (0, z.2.1), some (0, z.2.2.1), none] [] z.2.2.2)) (Ex := (fun z : Int × Int × Int × fx_H => fx_J M G Λ 6 83 [some (8, this_0), some (0, person_0), some (0, z.1), some (0, z.2.1), some (0, z.2.2.1), none] [] z.2.2.2)) ?_ Fu _ _ e55 hE56
    rintro ⟨bestLine_31, least_32, line_33, h34⟩ o9 eq35 ih ex
    unfold s_X6_line_1 at eq35
    show fx_J M G Λ 6 27 [some (8, this_0), some (0, person_0), some (0, bestLine_31), some (0, least_32), some (0, line_33), none] [] h34
    refine fx_iload (pc := 27) F rfl dX6_line_27 ?_
    refine fx_iconst (pc := 29) F ⟨by decide, by decide⟩ dX6_line_29 ?_
    refine fx_nlt (pc := 30) F 83 (by decide) dX6_line_30 (fun c36 => ?_) (fun c36 => ?_)
    · have eq35 := (if_pos c36).symm.trans eq35
      refine fx_aload_n (pc := 33) (t := 6) F 0 rfl rfl dX6_line_33 ?_
      refine fx_iload (pc := 34) F rfl dX6_line_34 ?_
      refine fx_iconst (pc := 36) F ⟨by decide, by decide⟩ dX6_line_36 ?_
      obtain ⟨h37, e38, eq35⟩ := fx_bnd eq35
      refine fx_cVv (pc := 37) F 6 kC_X6 [(0, line_33), (0, (-1))] this_0 [] (m_X6_layLine Fu Λ this_0 line_33 (-1) h34 _ e38) kD_X6_layLine kI_X6_layLine rfl wM_X6_115 ⟨rfl, rfl⟩ ⟨by decide, by decide⟩ (Nat.le_of_ble_eq_true rfl) rfl dX6_line_37 ?_
      refine fx_aload_n (pc := 40) (t := 6) F 0 rfl rfl dX6_line_40 ?_
      refine fx_iload_n (pc := 41) F 1 rfl rfl dX6_line_41 ?_
      refine fx_aload_n (pc := 42) (t := 6) F 0 rfl rfl dX6_line_42 ?_
      obtain ⟨v39, e40, eq35⟩ := fx_bnd eq35
      refine fx_cV (pc := 43) F 6 kC_X6 [] this_0 [(0, person_0), (8, this_0)] (m_X6_hours Fu Λ this_0 h37 _ e40) kD_X6_hours kI_X6_hours rfl wM_X6_81 ⟨rfl, rfl⟩ ⟨by decide, by decide⟩ (Nat.le_of_ble_eq_true rfl) rfl dX6_line_43 ?_
      obtain ⟨v41, e42, eq35⟩ := fx_bnd eq35
      refine fx_cV (pc := 46) F 6 kC_X6 [(0, person_0), (0, v39)] this_0 [] (m_X6_paysIn Fu Λ this_0 person_0 v39 h37 _ e42) kD_X6_paysIn kI_X6_paysIn rfl wM_X6_137 ⟨rfl, rfl⟩ ⟨by decide, by decide⟩ (Nat.le_of_ble_eq_true rfl) rfl dX6_line_46 ?_
      refine fx_istore (pc := 49) (ls' := [some (8, this_0), some (0, person_0), some (0, bestLine_31), some (0, least_32), some (0, line_33), some (0, v41)]) F (by decide) rfl rfl dX6_line_49 ?_
      obtain ⟨v43, e44, eq35⟩ := fx_bnd eq35
      have hJ45 : fx_J M G Λ 6 63 [some (8, this_0), some (0, person_0), some (0, bestLine_31), some (0, least_32), some (0, line_33), some (0, v41)] [(0, v43)] h37 := by
        refine fx_istore_n (pc := 63) (ls' := [some (8, this_0), some (0, person_0), some (0, v43), some (0, least_32), some (0, line_33), some (0, v41)]) F 2 rfl (by decide) rfl rfl dX6_line_63 ?_
        obtain ⟨v47, e48, eq35⟩ := fx_bnd eq35
        have hJ49 : fx_J M G Λ 6 76 [some (8, this_0), some (0, person_0), some (0, v43), some (0, least_32), some (0, line_33), some (0, v41)] [(0, v47)] h37 := by
          refine fx_istore_n (pc := 76) (ls' := [some (8, this_0), some (0, person_0), some (0, v43), some (0, v47), some (0, line_33), some (0, v41)]) F 3 rfl (by decide) rfl rfl dX6_line_76 ?_
          refine fx_iinc (pc := 77) (ls' := [some (8, this_0), some (0, person_0), some (0, v43), some (0, v47), some (0, (fx_w (line_33 + 1))), some (0, v41)]) F (by decide) rfl rfl rfl dX6_line_77 ?_
          refine fx_goto (pc := 80) F 27 (by decide) dX6_line_80 ?_
          cases eq35
          refine fx_drop (ls' := [some (8, this_0), some (0, person_0), some (0, v43), some (0, v47), some (0, (fx_w (line_33 + 1))), none]) ⟨rfl, rfl, rfl, rfl, rfl, trivial⟩ ?_
          exact ih _ rfl
        refine fx_iload (pc := 64) F rfl dX6_line_64 ?_
        refine fx_iload_n (pc := 66) F 3 rfl rfl dX6_line_66 ?_
        refine fx_nlt (pc := 67) F 75 (by decide) dX6_line_67 (fun c50 => ?_) (fun c50 => ?_)
        · have e48 := (if_pos c50).symm.trans e48
          refine fx_iload (pc := 70) F rfl dX6_line_70 ?_
          cases e48
          refine fx_goto (pc := 72) F 76 (by decide) dX6_line_72 ?_
          exact hJ49
        · have e48 := (if_neg c50).symm.trans e48
          refine fx_iload_n (pc := 75) F 3 rfl rfl dX6_line_75 ?_
          cases e48
          exact hJ49
      refine fx_iload (pc := 51) F rfl dX6_line_51 ?_
      refine fx_iload_n (pc := 53) F 3 rfl rfl dX6_line_53 ?_
      refine fx_nlt (pc := 54) F 62 (by decide) dX6_line_54 (fun c46 => ?_) (fun c46 => ?_)
      · have e44 := (if_pos c46).symm.trans e44
        refine fx_iload (pc := 57) F rfl dX6_line_57 ?_
        cases e44
        refine fx_goto (pc := 59) F 63 (by decide) dX6_line_59 ?_
        exact hJ45
      · have e44 := (if_neg c46).symm.trans e44
        refine fx_iload_n (pc := 62) F 2 rfl rfl dX6_line_62 ?_
        cases e44
        exact hJ45
    · have eq35 := (if_neg c36).symm.trans eq35
      cases eq35
      exact ex _ rfl
