def s_X6_list_1 (Fu : Nat) (Λ : fx_L) (this_15 : Int) (h : fx_H) : Int × Int → Option ((Int × Int) ⊕ (Int × Int)) := fun (codes_13, k_14) =>
  (f_X6_people Fu Λ this_15 h).bind fun v17 =>
  if k_14 < v17 then
    (f_X6_people Fu Λ this_15 h).bind fun v20 =>
    some (.inl ((fx_w (codes_13 * v20)), (fx_w (k_14 + 1))))
  else
    some (.inr (codes_13, k_14))
def s_X6_list_2 (Fu : Nat) (Λ : fx_L) (this_38 : Int) (what_39 : Int) (codes_40 : Int) : Int × Int × Int × fx_H → Option ((Int × Int × Int × fx_H) ⊕ (Int × Int × Int × fx_H)) := fun (first_34, most_35, code_36, h37) =>
  if code_36 < codes_40 then
    (f_X6_layOrder Fu Λ this_38 code_36 h37).bind fun (v45, h46) =>
    if ((¬ v45 = 0) ∧ ((first_34 = (-1)) ∨ (what_39 = 1))) then
      (f_X6_listed Fu Λ this_38 h46).bind fun (v52, h53) =>
      Option.bind (
        if first_34 = (-1) then
          some v52
        else
          some first_34
      ) fun v55 =>
      Option.bind (
        if most_35 < v52 then
          some v52
        else
          some most_35
      ) fun v59 =>
      some (.inl (v55, v59, (fx_w (code_36 + 1)), h53))
    else
      some (.inl (first_34, most_35, (fx_w (code_36 + 1)), h46))
  else
    some (.inr (first_34, most_35, code_36, h37))
def f_X6_list (Fu : Nat) (Λ : fx_L) (this_0 : Int) (what_0 : Int) (h : fx_H) : Option (Int × fx_H) :=
  (f_X6_in Fu Λ what_0 0 1 h).bind fun v1 =>
  if v1 = 0 then
    (f_X6_bad Fu Λ this_0 (-2) h).bind fun (v4, h5) =>
    some (v4, h5)
  else
    (f_X6_layNow Fu Λ this_0 h).bind fun h7 =>
    (f_X6_hours Fu Λ this_0 h7).bind fun v9 =>
    (f_X6_findAllRows Fu Λ this_0 v9 h7).bind fun h11 =>
    Option.bind (fx_loop (s_X6_list_1 Fu Λ this_0 h11) Fu (1, 0)) fun (codes_30, k_31) =>
    Option.bind (fx_loop (s_X6_list_2 Fu Λ this_0 what_0 codes_30) Fu ((-1), (-1), 0, h11)) fun (first_89, most_90, code_91, h92) =>
    Option.bind (
      if what_0 = 0 then
        some first_89
      else
        some most_90
    ) fun v95 =>
    some (v95, h92)
abbrev rm_X6_list : Room := { frames := 6, cells := 0, slots := 0, locals := 148 }
set_option maxRecDepth 100000 in
set_option maxHeartbeats 4000000 in
theorem m_X6_list (Fu : Nat) (Λ : fx_L) (this_0 : Int) (what_0 : Int) (h : fx_H) (r : Int) (ho : fx_H) (hf : f_X6_list Fu Λ this_0 what_0 h = some (r, ho)) : fx_Met yX6_list cX6_list 7 (some .int) rm_X6_list Λ [(8, this_0), (0, what_0)] h (some (0, r)) ho := by
  unfold f_X6_list at hf
  refine fx_enter (ls := [some (8, this_0), some (0, what_0), none, none, none, none, none]) (by decide) (Nat.le_of_ble_eq_true rfl) rfl (fun M G F K => ?_)
  refine fx_iload_n (pc := 0) F 1 rfl rfl dX6_list_0 ?_
  refine fx_ri2l (pc := 1) F dX6_list_1 ?_
  refine fx_lconst (pc := 2) (z := 0) F rfl ⟨by decide, by decide⟩ (by decide) dX6_list_2 ?_
  refine fx_lconst (pc := 3) (z := 1) F rfl ⟨by decide, by decide⟩ (by decide) dX6_list_3 ?_
  obtain ⟨v1, e2, hf⟩ := fx_bnd hf
  refine fx_cS (pc := 4) F [(1, what_0), (1, 0), (1, 1)] [] (m_X6_in Fu Λ what_0 0 1 h _ e2) kD_X6_in wSt_X6_in wM_X6_74 ⟨rfl, rfl⟩ ⟨by decide, by decide⟩ (Nat.le_of_ble_eq_true rfl) rfl dX6_list_4 ?_
  refine fx_nzeq (pc := 7) F 17 (by decide) dX6_list_7 (fun c3 => ?_) (fun c3 => ?_)
  · have hf := (if_pos c3).symm.trans hf
    refine fx_aload_n (pc := 10) (t := 6) F 0 rfl rfl dX6_list_10 ?_
    refine fx_bipush (pc := 11) F ⟨by decide, by decide⟩ (by decide) dX6_list_11 ?_
    obtain ⟨⟨v4, h5⟩, e6, hf⟩ := fx_bnd hf
    refine fx_cV (pc := 13) F 6 kC_X6 [(0, (-2))] this_0 [] (m_X6_bad Fu Λ this_0 (-2) h _ _ e6) kD_X6_bad kI_X6_bad rfl wM_X6_88 ⟨rfl, rfl⟩ ⟨by decide, by decide⟩ (Nat.le_of_ble_eq_true rfl) rfl dX6_list_13 ?_
    cases hf
    exact fx_ireturn (pc := 16) F K dX6_list_16
  · have hf := (if_neg c3).symm.trans hf
    refine fx_aload_n (pc := 17) (t := 6) F 0 rfl rfl dX6_list_17 ?_
    obtain ⟨h7, e8, hf⟩ := fx_bnd hf
    refine fx_cVv (pc := 18) F 6 kC_X6 [] this_0 [] (m_X6_layNow Fu Λ this_0 h _ e8) kD_X6_layNow kI_X6_layNow rfl wM_X6_119 ⟨rfl, rfl⟩ ⟨by decide, by decide⟩ (Nat.le_of_ble_eq_true rfl) rfl dX6_list_18 ?_
    refine fx_aload_n (pc := 21) (t := 6) F 0 rfl rfl dX6_list_21 ?_
    refine fx_aload_n (pc := 22) (t := 6) F 0 rfl rfl dX6_list_22 ?_
    obtain ⟨v9, e10, hf⟩ := fx_bnd hf
    refine fx_cV (pc := 23) F 6 kC_X6 [] this_0 [(8, this_0)] (m_X6_hours Fu Λ this_0 h7 _ e10) kD_X6_hours kI_X6_hours rfl wM_X6_81 ⟨rfl, rfl⟩ ⟨by decide, by decide⟩ (Nat.le_of_ble_eq_true rfl) rfl dX6_list_23 ?_
    obtain ⟨h11, e12, hf⟩ := fx_bnd hf
    refine fx_cVv (pc := 26) F 6 kC_X6 [(0, v9)] this_0 [] (m_X6_findAllRows Fu Λ this_0 v9 h7 _ e12) kD_X6_findAllRows kI_X6_findAllRows rfl wM_X6_167 ⟨rfl, rfl⟩ ⟨by decide, by decide⟩ (Nat.le_of_ble_eq_true rfl) rfl dX6_list_26 ?_
    refine fx_iconst (pc := 29) F ⟨by decide, by decide⟩ dX6_list_29 ?_
    refine fx_istore_n (pc := 30) (ls' := [some (8, this_0), some (0, what_0), some (0, 1), none, none, none, none]) F 2 rfl (by decide) rfl rfl dX6_list_30 ?_
    refine fx_iconst (pc := 31) F ⟨by decide, by decide⟩ dX6_list_31 ?_
    refine fx_istore_n (pc := 32) (ls' := [some (8, this_0), some (0, what_0), some (0, 1), some (0, 0), none, none, none]) F 3 rfl (by decide) rfl rfl dX6_list_32 ?_
    obtain ⟨⟨codes_30, k_31⟩, e32, hf⟩ := fx_bnd hf
    have hE33 : fx_J M G Λ 7 54 [some (8, this_0), some (0, what_0), some (0, codes_30), some (0, k_31), none, none, none] [] h11 := by
      refine fx_iconst (pc := 54) F ⟨by decide, by decide⟩ dX6_list_54 ?_
      refine fx_istore_n (pc := 55) (ls' := [some (8, this_0), some (0, what_0), some (0, codes_30), some (0, (-1)), none, none, none]) F 3 rfl (by decide) rfl rfl dX6_list_55 ?_
      refine fx_iconst (pc := 56) F ⟨by decide, by decide⟩ dX6_list_56 ?_
      refine fx_istore (pc := 57) (ls' := [some (8, this_0), some (0, what_0), some (0, codes_30), some (0, (-1)), some (0, (-1)), none, none]) F (by decide) rfl rfl dX6_list_57 ?_
      refine fx_iconst (pc := 59) F ⟨by decide, by decide⟩ dX6_list_59 ?_
      refine fx_istore (pc := 60) (ls' := [some (8, this_0), some (0, what_0), some (0, codes_30), some (0, (-1)), some (0, (-1)), some (0, 0), none]) F (by decide) rfl rfl dX6_list_60 ?_
      obtain ⟨⟨first_89, most_90, code_91, h92⟩, e93, hf⟩ := fx_bnd hf
      have hE94 : fx_J M G Λ 7 127 [some (8, this_0), some (0, what_0), some (0, codes_30), some (0, first_89), some (0, most_90), some (0, code_91), none] [] h92 := by
        obtain ⟨v95, e96, hf⟩ := fx_bnd hf
        have hJ97 : fx_J M G Λ 7 137 [some (8, this_0), some (0, what_0), some (0, codes_30), some (0, first_89), some (0, most_90), some (0, code_91), none] [(0, v95)] h92 := by
          cases hf
          exact fx_ireturn (pc := 137) F K dX6_list_137
        refine fx_iload_n (pc := 127) F 1 rfl rfl dX6_list_127 ?_
        refine fx_nzeq (pc := 128) F 135 (by decide) dX6_list_128 (fun c98 => ?_) (fun c98 => ?_)
        · have e96 := (if_pos c98).symm.trans e96
          refine fx_iload_n (pc := 131) F 3 rfl rfl dX6_list_131 ?_
          cases e96
          refine fx_goto (pc := 132) F 137 (by decide) dX6_list_132 ?_
          exact hJ97
        · have e96 := (if_neg c98).symm.trans e96
          refine fx_iload (pc := 135) F rfl dX6_list_135 ?_
          cases e96
          exact hJ97
      refine fx_loop_J (Hd := (fun z : Int × Int × Int × fx_H => fx_J M G Λ 7 62 [some (8, this_0), some (0, what_0), some (0, codes_30), some (0, z.1), some (0, z.2.1), some (0, z.2.2.1), none] [] z.2.2.2)) (Ex := (fun z : Int × Int × Int × fx_H => fx_J M G Λ 7 127 [some (8, this_0), some (0, what_0), some (0, codes_30), some (0, z.1), some (0, z.2.1), some (0, z.2.2.1), none] [] z.2.2.2)) ?_ Fu _ _ e93 hE94
      rintro ⟨first_63, most_64, code_65, h66⟩ o9 eq67 ih ex
      unfold s_X6_list_2 at eq67
      show fx_J M G Λ 7 62 [some (8, this_0), some (0, what_0), some (0, codes_30), some (0, first_63), some (0, most_64), some (0, code_65), none] [] h66
      refine fx_iload (pc := 62) F rfl dX6_list_62 ?_
      refine fx_iload_n (pc := 64) F 2 rfl rfl dX6_list_64 ?_
      refine fx_nlt (pc := 65) F 127 (by decide) dX6_list_65 (fun c68 => ?_) (fun c68 => ?_)
      · have eq67 := (if_pos c68).symm.trans eq67
        refine fx_aload_n (pc := 68) (t := 6) F 0 rfl rfl dX6_list_68 ?_
        refine fx_iload (pc := 69) F rfl dX6_list_69 ?_
        obtain ⟨⟨v71, h72⟩, e73, eq67⟩ := fx_bnd eq67
        refine fx_cV (pc := 71) F 6 kC_X6 [(0, code_65)] this_0 [] (m_X6_layOrder Fu Λ this_0 code_65 h66 _ _ e73) kD_X6_layOrder kI_X6_layOrder rfl wM_X6_179 ⟨rfl, rfl⟩ ⟨by decide, by decide⟩ (Nat.le_of_ble_eq_true rfl) rfl dX6_list_71 ?_
        have hT69 : (((¬ v71 = 0) ∧ ((first_63 = (-1)) ∨ (what_0 = 1)))) → fx_J M G Λ 7 87 [some (8, this_0), some (0, what_0), some (0, codes_30), some (0, first_63), some (0, most_64), some (0, code_65), none] [] h72 := fun c77 => by
          have eq67 := (if_pos c77).symm.trans eq67
          refine fx_aload_n (pc := 87) (t := 6) F 0 rfl rfl dX6_list_87 ?_
          obtain ⟨⟨v78, h79⟩, e80, eq67⟩ := fx_bnd eq67
          refine fx_cV (pc := 88) F 6 kC_X6 [] this_0 [] (m_X6_listed Fu Λ this_0 h72 _ _ e80) kD_X6_listed kI_X6_listed rfl wM_X6_182 ⟨rfl, rfl⟩ ⟨by decide, by decide⟩ (Nat.le_of_ble_eq_true rfl) rfl dX6_list_88 ?_
          refine fx_istore (pc := 91) (ls' := [some (8, this_0), some (0, what_0), some (0, codes_30), some (0, first_63), some (0, most_64), some (0, code_65), some (0, v78)]) F (by decide) rfl rfl dX6_list_91 ?_
          obtain ⟨v81, e82, eq67⟩ := fx_bnd eq67
          have hJ83 : fx_J M G Λ 7 104 [some (8, this_0), some (0, what_0), some (0, codes_30), some (0, first_63), some (0, most_64), some (0, code_65), some (0, v78)] [(0, v81)] h79 := by
            refine fx_istore_n (pc := 104) (ls' := [some (8, this_0), some (0, what_0), some (0, codes_30), some (0, v81), some (0, most_64), some (0, code_65), some (0, v78)]) F 3 rfl (by decide) rfl rfl dX6_list_104 ?_
            obtain ⟨v85, e86, eq67⟩ := fx_bnd eq67
            have hJ87 : fx_J M G Λ 7 119 [some (8, this_0), some (0, what_0), some (0, codes_30), some (0, v81), some (0, most_64), some (0, code_65), some (0, v78)] [(0, v85)] h79 := by
              refine fx_istore (pc := 119) (ls' := [some (8, this_0), some (0, what_0), some (0, codes_30), some (0, v81), some (0, v85), some (0, code_65), some (0, v78)]) F (by decide) rfl rfl dX6_list_119 ?_
              refine fx_iinc (pc := 121) (ls' := [some (8, this_0), some (0, what_0), some (0, codes_30), some (0, v81), some (0, v85), some (0, (fx_w (code_65 + 1))), some (0, v78)]) F (by decide) rfl rfl rfl dX6_list_121 ?_
              refine fx_goto (pc := 124) F 62 (by decide) dX6_list_124 ?_
              cases eq67
              refine fx_drop (ls' := [some (8, this_0), some (0, what_0), some (0, codes_30), some (0, v81), some (0, v85), some (0, (fx_w (code_65 + 1))), none]) ⟨rfl, rfl, rfl, rfl, rfl, rfl, trivial⟩ ?_
              exact ih _ rfl
            refine fx_iload (pc := 105) F rfl dX6_list_105 ?_
            refine fx_iload (pc := 107) F rfl dX6_list_107 ?_
            refine fx_ngt (pc := 109) F 117 (by decide) dX6_list_109 (fun c88 => ?_) (fun c88 => ?_)
            · have e86 := (if_pos c88).symm.trans e86
              refine fx_iload (pc := 112) F rfl dX6_list_112 ?_
              cases e86
              refine fx_goto (pc := 114) F 119 (by decide) dX6_list_114 ?_
              exact hJ87
            · have e86 := (if_neg c88).symm.trans e86
              refine fx_iload (pc := 117) F rfl dX6_list_117 ?_
              cases e86
              exact hJ87
          refine fx_iload_n (pc := 93) F 3 rfl rfl dX6_list_93 ?_
          refine fx_iconst (pc := 94) F ⟨by decide, by decide⟩ dX6_list_94 ?_
          refine fx_neq (pc := 95) F 103 (by decide) dX6_list_95 (fun c84 => ?_) (fun c84 => ?_)
          · have e82 := (if_pos c84).symm.trans e82
            refine fx_iload (pc := 98) F rfl dX6_list_98 ?_
            cases e82
            refine fx_goto (pc := 100) F 104 (by decide) dX6_list_100 ?_
            exact hJ83
          · have e82 := (if_neg c84).symm.trans e82
            refine fx_iload_n (pc := 103) F 3 rfl rfl dX6_list_103 ?_
            cases e82
            exact hJ83
        have hF70 : ¬ (((¬ v71 = 0) ∧ ((first_63 = (-1)) ∨ (what_0 = 1)))) → fx_J M G Λ 7 121 [some (8, this_0), some (0, what_0), some (0, codes_30), some (0, first_63), some (0, most_64), some (0, code_65), none] [] h72 := fun c77 => by
          have eq67 := (if_neg c77).symm.trans eq67
          refine fx_iinc (pc := 121) (ls' := [some (8, this_0), some (0, what_0), some (0, codes_30), some (0, first_63), some (0, most_64), some (0, (fx_w (code_65 + 1))), none]) F (by decide) rfl rfl rfl dX6_list_121 ?_
          refine fx_goto (pc := 124) F 62 (by decide) dX6_list_124 ?_
          cases eq67
          exact ih _ rfl
        refine fx_nzne (pc := 74) F 121 (by decide) dX6_list_74 (fun c74 => ?_) (fun c74 => ?_)
        · refine fx_iload_n (pc := 77) F 3 rfl rfl dX6_list_77 ?_
          refine fx_iconst (pc := 78) F ⟨by decide, by decide⟩ dX6_list_78 ?_
          refine fx_jeq (pc := 79) F 87 (by decide) dX6_list_79 (fun c75 => ?_) (fun c75 => ?_)
          · exact hT69 ⟨c74, (Or.inl c75)⟩
          · refine fx_iload_n (pc := 82) F 1 rfl rfl dX6_list_82 ?_
            refine fx_iconst (pc := 83) F ⟨by decide, by decide⟩ dX6_list_83 ?_
            refine fx_neq (pc := 84) F 121 (by decide) dX6_list_84 (fun c76 => ?_) (fun c76 => ?_)
            · exact hT69 ⟨c74, (Or.inr c76)⟩
            · exact hF70 (fun q => (fun q => q.elim c75 c76) q.2)
        · exact hF70 (fun q => c74 q.1)
      · have eq67 := (if_neg c68).symm.trans eq67
        cases eq67
        exact ex _ rfl
    refine fx_loop_J (Hd := (fun z : Int × Int => fx_J M G Λ 7 33 [some (8, this_0), some (0, what_0), some (0, z.1), some (0, z.2), none, none, none] [] h11)) (Ex := (fun z : Int × Int => fx_J M G Λ 7 54 [some (8, this_0), some (0, what_0), some (0, z.1), some (0, z.2), none, none, none] [] h11)) ?_ Fu _ _ e32 hE33
    rintro ⟨codes_22, k_23⟩ o9 eq24 ih ex
    unfold s_X6_list_1 at eq24
    show fx_J M G Λ 7 33 [some (8, this_0), some (0, what_0), some (0, codes_22), some (0, k_23), none, none, none] [] h11
    refine fx_iload_n (pc := 33) F 3 rfl rfl dX6_list_33 ?_
    refine fx_aload_n (pc := 34) (t := 6) F 0 rfl rfl dX6_list_34 ?_
    obtain ⟨v25, e26, eq24⟩ := fx_bnd eq24
    refine fx_cV (pc := 35) F 6 kC_X6 [] this_0 [(0, k_23)] (m_X6_people Fu Λ this_0 h11 _ e26) kD_X6_people kI_X6_people rfl wM_X6_78 ⟨rfl, rfl⟩ ⟨by decide, by decide⟩ (Nat.le_of_ble_eq_true rfl) rfl dX6_list_35 ?_
    refine fx_nlt (pc := 38) F 54 (by decide) dX6_list_38 (fun c27 => ?_) (fun c27 => ?_)
    · have eq24 := (if_pos c27).symm.trans eq24
      refine fx_iload_n (pc := 41) F 2 rfl rfl dX6_list_41 ?_
      refine fx_aload_n (pc := 42) (t := 6) F 0 rfl rfl dX6_list_42 ?_
      obtain ⟨v28, e29, eq24⟩ := fx_bnd eq24
      refine fx_cV (pc := 43) F 6 kC_X6 [] this_0 [(0, codes_22)] (m_X6_people Fu Λ this_0 h11 _ e29) kD_X6_people kI_X6_people rfl wM_X6_78 ⟨rfl, rfl⟩ ⟨by decide, by decide⟩ (Nat.le_of_ble_eq_true rfl) rfl dX6_list_43 ?_
      refine fx_imul (pc := 46) F dX6_list_46 ?_
      refine fx_istore_n (pc := 47) (ls' := [some (8, this_0), some (0, what_0), some (0, (fx_w (codes_22 * v28))), some (0, k_23), none, none, none]) F 2 rfl (by decide) rfl rfl dX6_list_47 ?_
      refine fx_iinc (pc := 48) (ls' := [some (8, this_0), some (0, what_0), some (0, (fx_w (codes_22 * v28))), some (0, (fx_w (k_23 + 1))), none, none, none]) F (by decide) rfl rfl rfl dX6_list_48 ?_
      refine fx_goto (pc := 51) F 33 (by decide) dX6_list_51 ?_
      cases eq24
      exact ih _ rfl
    · have eq24 := (if_neg c27).symm.trans eq24
      cases eq24
      exact ex _ rfl
def s_X6_changes_1 (Fu : Nat) (Λ : fx_L) (this_7 : Int) (p_8 : Int) : Int × fx_H → Option ((Int × fx_H) ⊕ (Int × fx_H)) := fun (h_5, h6) =>
  if h_5 < 5 then
    (fx_rd Λ h6 (fx_tg Λ this_7 8) (fx_w ((fx_w (5 * p_8)) + h_5))).bind fun v11 =>
    (fx_wr Λ h6 (fx_tg Λ this_7 15) h_5 v11).bind fun h13 =>
    some (.inl ((fx_w (h_5 + 1)), h13))
  else
    some (.inr (h_5, h6))
def s_X6_changes_2 (Fu : Nat) (Λ : fx_L) (this_33 : Int) (p_34 : Int) : Int × fx_H → Option ((Int × fx_H) ⊕ (Int × fx_H)) := fun (h_31, h32) =>
  if h_31 < 5 then
    (fx_rd Λ h32 (fx_tg Λ this_33 15) h_31).bind fun v37 =>
    (fx_wr Λ h32 (fx_tg Λ this_33 8) (fx_w ((fx_w (5 * p_34)) + h_31)) v37).bind fun h39 =>
    some (.inl ((fx_w (h_31 + 1)), h39))
  else
    some (.inr (h_31, h32))
def f_X6_changes (Fu : Nat) (Λ : fx_L) (this_0 : Int) (p_0 : Int) (h : fx_H) : Option (Int × fx_H) :=
  (f_X6_hours Fu Λ this_0 h).bind fun v1 =>
  (f_X6_paysIn Fu Λ this_0 p_0 v1 h).bind fun v3 =>
  Option.bind (fx_loop (s_X6_changes_1 Fu Λ this_0 p_0) Fu (0, h)) fun (h_23, h24) =>
  (f_X6_takeBest Fu Λ this_0 p_0 h24).bind fun (v27, h28) =>
  if v27 < v3 then
    some (1, h28)
  else
    Option.bind (fx_loop (s_X6_changes_2 Fu Λ this_0 p_0) Fu (0, h28)) fun (h_49, h50) =>
    some (0, h50)
abbrev rm_X6_changes : Room := { frames := 5, cells := 0, slots := 0, locals := 126 }
set_option maxRecDepth 100000 in
set_option maxHeartbeats 4000000 in
theorem m_X6_changes (Fu : Nat) (Λ : fx_L) (this_0 : Int) (p_0 : Int) (h : fx_H) (r : Int) (ho : fx_H) (hf : f_X6_changes Fu Λ this_0 p_0 h = some (r, ho)) : fx_Met yX6_changes cX6_changes 4 (some .boolean) rm_X6_changes Λ [(8, this_0), (0, p_0)] h (some (0, r)) ho := by
  unfold f_X6_changes at hf
  refine fx_enter (ls := [some (8, this_0), some (0, p_0), none, none]) (by decide) (Nat.le_of_ble_eq_true rfl) rfl (fun M G F K => ?_)
  refine fx_aload_n (pc := 0) (t := 6) F 0 rfl rfl dX6_changes_0 ?_
  refine fx_iload_n (pc := 1) F 1 rfl rfl dX6_changes_1 ?_
  refine fx_aload_n (pc := 2) (t := 6) F 0 rfl rfl dX6_changes_2 ?_
  obtain ⟨v1, e2, hf⟩ := fx_bnd hf
  refine fx_cV (pc := 3) F 6 kC_X6 [] this_0 [(0, p_0), (8, this_0)] (m_X6_hours Fu Λ this_0 h _ e2) kD_X6_hours kI_X6_hours rfl wM_X6_81 ⟨rfl, rfl⟩ ⟨by decide, by decide⟩ (Nat.le_of_ble_eq_true rfl) rfl dX6_changes_3 ?_
  obtain ⟨v3, e4, hf⟩ := fx_bnd hf
  refine fx_cV (pc := 6) F 6 kC_X6 [(0, p_0), (0, v1)] this_0 [] (m_X6_paysIn Fu Λ this_0 p_0 v1 h _ e4) kD_X6_paysIn kI_X6_paysIn rfl wM_X6_137 ⟨rfl, rfl⟩ ⟨by decide, by decide⟩ (Nat.le_of_ble_eq_true rfl) rfl dX6_changes_6 ?_
  refine fx_istore_n (pc := 9) (ls' := [some (8, this_0), some (0, p_0), some (0, v3), none]) F 2 rfl (by decide) rfl rfl dX6_changes_9 ?_
  refine fx_iconst (pc := 10) F ⟨by decide, by decide⟩ dX6_changes_10 ?_
  refine fx_istore_n (pc := 11) (ls' := [some (8, this_0), some (0, p_0), some (0, v3), some (0, 0)]) F 3 rfl (by decide) rfl rfl dX6_changes_11 ?_
  obtain ⟨⟨h_23, h24⟩, e25, hf⟩ := fx_bnd hf
  have hE26 : fx_J M G Λ 4 39 [some (8, this_0), some (0, p_0), some (0, v3), some (0, h_23)] [] h24 := by
    refine fx_aload_n (pc := 39) (t := 6) F 0 rfl rfl dX6_changes_39 ?_
    refine fx_iload_n (pc := 40) F 1 rfl rfl dX6_changes_40 ?_
    obtain ⟨⟨v27, h28⟩, e29, hf⟩ := fx_bnd hf
    refine fx_cV (pc := 41) F 6 kC_X6 [(0, p_0)] this_0 [] (m_X6_takeBest Fu Λ this_0 p_0 h24 _ _ e29) kD_X6_takeBest kI_X6_takeBest rfl wM_X6_176 ⟨rfl, rfl⟩ ⟨by decide, by decide⟩ (Nat.le_of_ble_eq_true rfl) rfl dX6_changes_41 ?_
    refine fx_iload_n (pc := 44) F 2 rfl rfl dX6_changes_44 ?_
    refine fx_nlt (pc := 45) F 50 (by decide) dX6_changes_45 (fun c30 => ?_) (fun c30 => ?_)
    · have hf := (if_pos c30).symm.trans hf
      refine fx_iconst (pc := 48) F ⟨by decide, by decide⟩ dX6_changes_48 ?_
      cases hf
      exact fx_zreturn (pc := 49) F (Or.inr rfl) K dX6_changes_49
    · have hf := (if_neg c30).symm.trans hf
      refine fx_iconst (pc := 50) F ⟨by decide, by decide⟩ dX6_changes_50 ?_
      refine fx_istore_n (pc := 51) (ls' := [some (8, this_0), some (0, p_0), some (0, v3), some (0, 0)]) F 3 rfl (by decide) rfl rfl dX6_changes_51 ?_
      obtain ⟨⟨h_49, h50⟩, e51, hf⟩ := fx_bnd hf
      have hE52 : fx_J M G Λ 4 79 [some (8, this_0), some (0, p_0), some (0, v3), some (0, h_49)] [] h50 := by
        refine fx_iconst (pc := 79) F ⟨by decide, by decide⟩ dX6_changes_79 ?_
        cases hf
        exact fx_zreturn (pc := 80) F (Or.inl rfl) K dX6_changes_80
      refine fx_loop_J (Hd := (fun z : Int × fx_H => fx_J M G Λ 4 52 [some (8, this_0), some (0, p_0), some (0, v3), some (0, z.1)] [] z.2)) (Ex := (fun z : Int × fx_H => fx_J M G Λ 4 79 [some (8, this_0), some (0, p_0), some (0, v3), some (0, z.1)] [] z.2)) ?_ Fu _ _ e51 hE52
      rintro ⟨h_41, h42⟩ o9 eq43 ih ex
      unfold s_X6_changes_2 at eq43
      show fx_J M G Λ 4 52 [some (8, this_0), some (0, p_0), some (0, v3), some (0, h_41)] [] h42
      refine fx_iload_n (pc := 52) F 3 rfl rfl dX6_changes_52 ?_
      refine fx_iconst (pc := 53) F ⟨by decide, by decide⟩ dX6_changes_53 ?_
      refine fx_nlt (pc := 54) F 79 (by decide) dX6_changes_54 (fun c44 => ?_) (fun c44 => ?_)
      · have eq43 := (if_pos c44).symm.trans eq43
        refine fx_aload_n (pc := 57) (t := 6) F 0 rfl rfl dX6_changes_57 ?_
        refine fx_gR (pc := 58) F 6 8 8 8 rfl kC_X6 (by decide) rfl wF_X6_33 dX6_changes_58 ?_
        refine fx_iconst (pc := 61) F ⟨by decide, by decide⟩ dX6_changes_61 ?_
        refine fx_iload_n (pc := 62) F 1 rfl rfl dX6_changes_62 ?_
        refine fx_imul (pc := 63) F dX6_changes_63 ?_
        refine fx_iload_n (pc := 64) F 3 rfl rfl dX6_changes_64 ?_
        refine fx_iadd (pc := 65) F dX6_changes_65 ?_
        refine fx_aload_n (pc := 66) (t := 6) F 0 rfl rfl dX6_changes_66 ?_
        refine fx_gR (pc := 67) F 6 15 15 8 rfl kC_X6 (by decide) rfl wF_X6_54 dX6_changes_67 ?_
        refine fx_iload_n (pc := 70) F 3 rfl rfl dX6_changes_70 ?_
        obtain ⟨v45, e46, eq43⟩ := fx_bnd eq43
        refine fx_raldI (pc := 71) F e46 dX6_changes_71 ?_
        obtain ⟨h47, e48, eq43⟩ := fx_bnd eq43
        refine fx_rastI (pc := 72) F e48 dX6_changes_72 ?_
        refine fx_iinc (pc := 73) (ls' := [some (8, this_0), some (0, p_0), some (0, v3), some (0, (fx_w (h_41 + 1)))]) F (by decide) rfl rfl rfl dX6_changes_73 ?_
        refine fx_goto (pc := 76) F 52 (by decide) dX6_changes_76 ?_
        cases eq43
        exact ih _ rfl
      · have eq43 := (if_neg c44).symm.trans eq43
        cases eq43
        exact ex _ rfl
  refine fx_loop_J (Hd := (fun z : Int × fx_H => fx_J M G Λ 4 12 [some (8, this_0), some (0, p_0), some (0, v3), some (0, z.1)] [] z.2)) (Ex := (fun z : Int × fx_H => fx_J M G Λ 4 39 [some (8, this_0), some (0, p_0), some (0, v3), some (0, z.1)] [] z.2)) ?_ Fu _ _ e25 hE26
  rintro ⟨h_15, h16⟩ o9 eq17 ih ex
  unfold s_X6_changes_1 at eq17
  show fx_J M G Λ 4 12 [some (8, this_0), some (0, p_0), some (0, v3), some (0, h_15)] [] h16
  refine fx_iload_n (pc := 12) F 3 rfl rfl dX6_changes_12 ?_
  refine fx_iconst (pc := 13) F ⟨by decide, by decide⟩ dX6_changes_13 ?_
  refine fx_nlt (pc := 14) F 39 (by decide) dX6_changes_14 (fun c18 => ?_) (fun c18 => ?_)
  · have eq17 := (if_pos c18).symm.trans eq17
    refine fx_aload_n (pc := 17) (t := 6) F 0 rfl rfl dX6_changes_17 ?_
    refine fx_gR (pc := 18) F 6 15 15 8 rfl kC_X6 (by decide) rfl wF_X6_54 dX6_changes_18 ?_
    refine fx_iload_n (pc := 21) F 3 rfl rfl dX6_changes_21 ?_
    refine fx_aload_n (pc := 22) (t := 6) F 0 rfl rfl dX6_changes_22 ?_
    refine fx_gR (pc := 23) F 6 8 8 8 rfl kC_X6 (by decide) rfl wF_X6_33 dX6_changes_23 ?_
    refine fx_iconst (pc := 26) F ⟨by decide, by decide⟩ dX6_changes_26 ?_
    refine fx_iload_n (pc := 27) F 1 rfl rfl dX6_changes_27 ?_
    refine fx_imul (pc := 28) F dX6_changes_28 ?_
    refine fx_iload_n (pc := 29) F 3 rfl rfl dX6_changes_29 ?_
    refine fx_iadd (pc := 30) F dX6_changes_30 ?_
    obtain ⟨v19, e20, eq17⟩ := fx_bnd eq17
    refine fx_raldI (pc := 31) F e20 dX6_changes_31 ?_
    obtain ⟨h21, e22, eq17⟩ := fx_bnd eq17
    refine fx_rastI (pc := 32) F e22 dX6_changes_32 ?_
    refine fx_iinc (pc := 33) (ls' := [some (8, this_0), some (0, p_0), some (0, v3), some (0, (fx_w (h_15 + 1)))]) F (by decide) rfl rfl rfl dX6_changes_33 ?_
    refine fx_goto (pc := 36) F 12 (by decide) dX6_changes_36 ?_
    cases eq17
    exact ih _ rfl
  · have eq17 := (if_neg c18).symm.trans eq17
    cases eq17
    exact ex _ rfl
def s_X6_rests_2 (Fu : Nat) (Λ : fx_L) (this_24 : Int) : Int × Int × fx_H → Option ((Int × Int × fx_H) ⊕ (Int × Int × fx_H)) := fun (any_21, p_22, h23) =>
  (f_X6_people Fu Λ this_24 h23).bind fun v26 =>
  if p_22 < v26 then
    (f_X6_changes Fu Λ this_24 p_22 h23).bind fun (v29, h30) =>
    Option.bind (
      if ((¬ any_21 = 0) ∨ (¬ v29 = 0)) then
        some (1 : Int)
      else
        some (0 : Int)
    ) fun v32 =>
    some (.inl (v32, (fx_w (p_22 + 1)), h30))
  else
    some (.inr (any_21, p_22, h23))
def s_X6_rests_1 (Fu : Nat) (Λ : fx_L) (this_17 : Int) (what_18 : Int) : Int × fx_H → Option ((Int × fx_H) ⊕ ((Int × fx_H) ⊕ (Int × fx_H))) := fun (round_15, h16) =>
  if round_15 ≤ 20 then
    Option.bind (fx_loop (s_X6_rests_2 Fu Λ this_17) Fu (0, 0, h16)) fun (any_58, p_59, h60) =>
    if any_58 = 0 then
      Option.bind (
        if what_18 = 0 then
          some round_15
        else
          (f_X6_hours Fu Λ this_17 h60).bind fun v68 =>
          (f_X6_allIn Fu Λ this_17 v68 h60).bind fun v70 =>
          some v70
      ) fun v64 =>
      some (.inr (.inr (v64, h60)))
    else
      some (.inl ((fx_w (round_15 + 1)), h60))
  else
    some (.inr (.inl (round_15, h16)))
def f_X6_rests (Fu : Nat) (Λ : fx_L) (this_0 : Int) (what_0 : Int) (h : fx_H) : Option (Int × fx_H) :=
  (f_X6_in Fu Λ what_0 0 1 h).bind fun v1 =>
  if v1 = 0 then
    (f_X6_bad Fu Λ this_0 (-10) h).bind fun (v4, h5) =>
    some (v4, h5)
  else
    (f_X6_layNow Fu Λ this_0 h).bind fun h7 =>
    (f_X6_hours Fu Λ this_0 h7).bind fun v9 =>
    (f_X6_findAllRows Fu Λ this_0 v9 h7).bind fun h11 =>
    (f_X6_takeDone Fu Λ this_0 h11).bind fun h13 =>
    Option.bind (fx_loop (s_X6_rests_1 Fu Λ this_0 what_0) Fu (0, h13)) fun x9 =>
    match x9 with
    | .inl (round_127, h128) =>
      Option.bind (
        if what_0 = 0 then
          some (-1 : Int)
        else
          some (-5 : Int)
      ) fun v131 =>
      some (v131, h128)
    | .inr r9 => some r9
abbrev rm_X6_rests : Room := { frames := 6, cells := 0, slots := 0, locals := 149 }
set_option maxRecDepth 100000 in
set_option maxHeartbeats 4000000 in
theorem m_X6_rests (Fu : Nat) (Λ : fx_L) (this_0 : Int) (what_0 : Int) (h : fx_H) (r : Int) (ho : fx_H) (hf : f_X6_rests Fu Λ this_0 what_0 h = some (r, ho)) : fx_Met yX6_rests cX6_rests 6 (some .int) rm_X6_rests Λ [(8, this_0), (0, what_0)] h (some (0, r)) ho := by
  unfold f_X6_rests at hf
  refine fx_enter (ls := [some (8, this_0), some (0, what_0), none, none, none, none]) (by decide) (Nat.le_of_ble_eq_true rfl) rfl (fun M G F K => ?_)
  refine fx_iload_n (pc := 0) F 1 rfl rfl dX6_rests_0 ?_
  refine fx_ri2l (pc := 1) F dX6_rests_1 ?_
  refine fx_lconst (pc := 2) (z := 0) F rfl ⟨by decide, by decide⟩ (by decide) dX6_rests_2 ?_
  refine fx_lconst (pc := 3) (z := 1) F rfl ⟨by decide, by decide⟩ (by decide) dX6_rests_3 ?_
  obtain ⟨v1, e2, hf⟩ := fx_bnd hf
  refine fx_cS (pc := 4) F [(1, what_0), (1, 0), (1, 1)] [] (m_X6_in Fu Λ what_0 0 1 h _ e2) kD_X6_in wSt_X6_in wM_X6_74 ⟨rfl, rfl⟩ ⟨by decide, by decide⟩ (Nat.le_of_ble_eq_true rfl) rfl dX6_rests_4 ?_
  refine fx_nzeq (pc := 7) F 17 (by decide) dX6_rests_7 (fun c3 => ?_) (fun c3 => ?_)
  · have hf := (if_pos c3).symm.trans hf
    refine fx_aload_n (pc := 10) (t := 6) F 0 rfl rfl dX6_rests_10 ?_
    refine fx_bipush (pc := 11) F ⟨by decide, by decide⟩ (by decide) dX6_rests_11 ?_
    obtain ⟨⟨v4, h5⟩, e6, hf⟩ := fx_bnd hf
    refine fx_cV (pc := 13) F 6 kC_X6 [(0, (-10))] this_0 [] (m_X6_bad Fu Λ this_0 (-10) h _ _ e6) kD_X6_bad kI_X6_bad rfl wM_X6_88 ⟨rfl, rfl⟩ ⟨by decide, by decide⟩ (Nat.le_of_ble_eq_true rfl) rfl dX6_rests_13 ?_
    cases hf
    exact fx_ireturn (pc := 16) F K dX6_rests_16
  · have hf := (if_neg c3).symm.trans hf
    refine fx_aload_n (pc := 17) (t := 6) F 0 rfl rfl dX6_rests_17 ?_
    obtain ⟨h7, e8, hf⟩ := fx_bnd hf
    refine fx_cVv (pc := 18) F 6 kC_X6 [] this_0 [] (m_X6_layNow Fu Λ this_0 h _ e8) kD_X6_layNow kI_X6_layNow rfl wM_X6_119 ⟨rfl, rfl⟩ ⟨by decide, by decide⟩ (Nat.le_of_ble_eq_true rfl) rfl dX6_rests_18 ?_
    refine fx_aload_n (pc := 21) (t := 6) F 0 rfl rfl dX6_rests_21 ?_
    refine fx_aload_n (pc := 22) (t := 6) F 0 rfl rfl dX6_rests_22 ?_
    obtain ⟨v9, e10, hf⟩ := fx_bnd hf
    refine fx_cV (pc := 23) F 6 kC_X6 [] this_0 [(8, this_0)] (m_X6_hours Fu Λ this_0 h7 _ e10) kD_X6_hours kI_X6_hours rfl wM_X6_81 ⟨rfl, rfl⟩ ⟨by decide, by decide⟩ (Nat.le_of_ble_eq_true rfl) rfl dX6_rests_23 ?_
    obtain ⟨h11, e12, hf⟩ := fx_bnd hf
    refine fx_cVv (pc := 26) F 6 kC_X6 [(0, v9)] this_0 [] (m_X6_findAllRows Fu Λ this_0 v9 h7 _ e12) kD_X6_findAllRows kI_X6_findAllRows rfl wM_X6_167 ⟨rfl, rfl⟩ ⟨by decide, by decide⟩ (Nat.le_of_ble_eq_true rfl) rfl dX6_rests_26 ?_
    refine fx_aload_n (pc := 29) (t := 6) F 0 rfl rfl dX6_rests_29 ?_
    obtain ⟨h13, e14, hf⟩ := fx_bnd hf
    refine fx_cVv (pc := 30) F 6 kC_X6 [] this_0 [] (m_X6_takeDone Fu Λ this_0 h11 _ e14) kD_X6_takeDone kI_X6_takeDone rfl wM_X6_140 ⟨rfl, rfl⟩ ⟨by decide, by decide⟩ (Nat.le_of_ble_eq_true rfl) rfl dX6_rests_30 ?_
    refine fx_iconst (pc := 33) F ⟨by decide, by decide⟩ dX6_rests_33 ?_
    refine fx_istore_n (pc := 34) (ls' := [some (8, this_0), some (0, what_0), some (0, 0), none, none, none]) F 2 rfl (by decide) rfl rfl dX6_rests_34 ?_
    obtain ⟨x9, e129, hf⟩ := fx_bnd hf
    have hE130 : (fun y : (Int × fx_H) ⊕ (Int × fx_H) => match y with | .inl z => fx_J M G Λ 6 111 [some (8, this_0), some (0, what_0), some (0, z.1), none, none, none] [] z.2 | .inr r9 => some r9 = some (r, ho)) x9 := by
      cases x9 with
      | inr r9 => exact hf
      | inl y9 =>
        obtain ⟨round_127, h128⟩ := y9
        show fx_J M G Λ 6 111 [some (8, this_0), some (0, what_0), some (0, round_127), none, none, none] [] h128
        obtain ⟨v131, e132, hf⟩ := fx_bnd hf
        have hJ133 : fx_J M G Λ 6 121 [some (8, this_0), some (0, what_0), some (0, round_127), none, none, none] [(0, v131)] h128 := by
          cases hf
          exact fx_ireturn (pc := 121) F K dX6_rests_121
        refine fx_iload_n (pc := 111) F 1 rfl rfl dX6_rests_111 ?_
        refine fx_nzeq (pc := 112) F 119 (by decide) dX6_rests_112 (fun c134 => ?_) (fun c134 => ?_)
        · have e132 := (if_pos c134).symm.trans e132
          refine fx_iconst (pc := 115) F ⟨by decide, by decide⟩ dX6_rests_115 ?_
          cases e132
          refine fx_goto (pc := 116) F 121 (by decide) dX6_rests_116 ?_
          exact hJ133
        · have e132 := (if_neg c134).symm.trans e132
          refine fx_bipush (pc := 119) F ⟨by decide, by decide⟩ (by decide) dX6_rests_119 ?_
          cases e132
          exact hJ133
    refine fx_loop_J (Hd := (fun z : Int × fx_H => fx_J M G Λ 6 35 [some (8, this_0), some (0, what_0), some (0, z.1), none, none, none] [] z.2)) (Ex := (fun y : (Int × fx_H) ⊕ (Int × fx_H) => match y with | .inl z => fx_J M G Λ 6 111 [some (8, this_0), some (0, what_0), some (0, z.1), none, none, none] [] z.2 | .inr r9 => some r9 = some (r, ho))) ?_ Fu _ _ e129 hE130
    rintro ⟨round_72, h73⟩ o9 eq74 ih ex
    unfold s_X6_rests_1 at eq74
    show fx_J M G Λ 6 35 [some (8, this_0), some (0, what_0), some (0, round_72), none, none, none] [] h73
    refine fx_iload_n (pc := 35) F 2 rfl rfl dX6_rests_35 ?_
    refine fx_bipush (pc := 36) F ⟨by decide, by decide⟩ (by decide) dX6_rests_36 ?_
    refine fx_nle (pc := 38) F 111 (by decide) dX6_rests_38 (fun c75 => ?_) (fun c75 => ?_)
    · have eq74 := (if_pos c75).symm.trans eq74
      refine fx_iconst (pc := 41) F ⟨by decide, by decide⟩ dX6_rests_41 ?_
      refine fx_istore_n (pc := 42) (ls' := [some (8, this_0), some (0, what_0), some (0, round_72), some (0, 0), none, none]) F 3 rfl (by decide) rfl rfl dX6_rests_42 ?_
      refine fx_iconst (pc := 43) F ⟨by decide, by decide⟩ dX6_rests_43 ?_
      refine fx_istore (pc := 44) (ls' := [some (8, this_0), some (0, what_0), some (0, round_72), some (0, 0), some (0, 0), none]) F (by decide) rfl rfl dX6_rests_44 ?_
      obtain ⟨⟨any_113, p_114, h115⟩, e116, eq74⟩ := fx_bnd eq74
      have hE117 : fx_J M G Λ 6 84 [some (8, this_0), some (0, what_0), some (0, round_72), some (0, any_113), some (0, p_114), none] [] h115 := by
        refine fx_iload_n (pc := 84) F 3 rfl rfl dX6_rests_84 ?_
        refine fx_nzeq (pc := 85) F 105 (by decide) dX6_rests_85 (fun c118 => ?_) (fun c118 => ?_)
        · have eq74 := (if_pos c118).symm.trans eq74
          obtain ⟨v119, e120, eq74⟩ := fx_bnd eq74
          have hJ121 : fx_J M G Λ 6 104 [some (8, this_0), some (0, what_0), some (0, round_72), some (0, any_113), some (0, p_114), none] [(0, v119)] h115 := by
            cases eq74
            have q9 := ex _ rfl
            cases q9
            exact fx_ireturn (pc := 104) F K dX6_rests_104
          refine fx_iload_n (pc := 88) F 1 rfl rfl dX6_rests_88 ?_
          refine fx_nzeq (pc := 89) F 96 (by decide) dX6_rests_89 (fun c122 => ?_) (fun c122 => ?_)
          · have e120 := (if_pos c122).symm.trans e120
            refine fx_iload_n (pc := 92) F 2 rfl rfl dX6_rests_92 ?_
            cases e120
            refine fx_goto (pc := 93) F 104 (by decide) dX6_rests_93 ?_
            exact hJ121
          · have e120 := (if_neg c122).symm.trans e120
            refine fx_aload_n (pc := 96) (t := 6) F 0 rfl rfl dX6_rests_96 ?_
            refine fx_aload_n (pc := 97) (t := 6) F 0 rfl rfl dX6_rests_97 ?_
            obtain ⟨v123, e124, e120⟩ := fx_bnd e120
            refine fx_cV (pc := 98) F 6 kC_X6 [] this_0 [(8, this_0)] (m_X6_hours Fu Λ this_0 h115 _ e124) kD_X6_hours kI_X6_hours rfl wM_X6_81 ⟨rfl, rfl⟩ ⟨by decide, by decide⟩ (Nat.le_of_ble_eq_true rfl) rfl dX6_rests_98 ?_
            obtain ⟨v125, e126, e120⟩ := fx_bnd e120
            refine fx_cV (pc := 101) F 6 kC_X6 [(0, v123)] this_0 [] (m_X6_allIn Fu Λ this_0 v123 h115 _ e126) kD_X6_allIn kI_X6_allIn rfl wM_X6_143 ⟨rfl, rfl⟩ ⟨by decide, by decide⟩ (Nat.le_of_ble_eq_true rfl) rfl dX6_rests_101 ?_
            cases e120
            exact hJ121
        · have eq74 := (if_neg c118).symm.trans eq74
          refine fx_iinc (pc := 105) (ls' := [some (8, this_0), some (0, what_0), some (0, (fx_w (round_72 + 1))), some (0, any_113), some (0, p_114), none]) F (by decide) rfl rfl rfl dX6_rests_105 ?_
          refine fx_goto (pc := 108) F 35 (by decide) dX6_rests_108 ?_
          cases eq74
          refine fx_drop (ls' := [some (8, this_0), some (0, what_0), some (0, (fx_w (round_72 + 1))), none, none, none]) ⟨rfl, rfl, rfl, trivial⟩ ?_
          exact ih _ rfl
      refine fx_loop_J (Hd := (fun z : Int × Int × fx_H => fx_J M G Λ 6 46 [some (8, this_0), some (0, what_0), some (0, round_72), some (0, z.1), some (0, z.2.1), none] [] z.2.2)) (Ex := (fun z : Int × Int × fx_H => fx_J M G Λ 6 84 [some (8, this_0), some (0, what_0), some (0, round_72), some (0, z.1), some (0, z.2.1), none] [] z.2.2)) ?_ Fu _ _ e116 hE117
      rintro ⟨any_95, p_96, h97⟩ o9 eq98 ih ex
      unfold s_X6_rests_2 at eq98
      show fx_J M G Λ 6 46 [some (8, this_0), some (0, what_0), some (0, round_72), some (0, any_95), some (0, p_96), none] [] h97
      refine fx_iload (pc := 46) F rfl dX6_rests_46 ?_
      refine fx_aload_n (pc := 48) (t := 6) F 0 rfl rfl dX6_rests_48 ?_
      obtain ⟨v99, e100, eq98⟩ := fx_bnd eq98
      refine fx_cV (pc := 49) F 6 kC_X6 [] this_0 [(0, p_96)] (m_X6_people Fu Λ this_0 h97 _ e100) kD_X6_people kI_X6_people rfl wM_X6_78 ⟨rfl, rfl⟩ ⟨by decide, by decide⟩ (Nat.le_of_ble_eq_true rfl) rfl dX6_rests_49 ?_
      refine fx_nlt (pc := 52) F 84 (by decide) dX6_rests_52 (fun c101 => ?_) (fun c101 => ?_)
      · have eq98 := (if_pos c101).symm.trans eq98
        refine fx_aload_n (pc := 55) (t := 6) F 0 rfl rfl dX6_rests_55 ?_
        refine fx_iload (pc := 56) F rfl dX6_rests_56 ?_
        obtain ⟨⟨v102, h103⟩, e104, eq98⟩ := fx_bnd eq98
        refine fx_cV (pc := 58) F 6 kC_X6 [(0, p_96)] this_0 [] (m_X6_changes Fu Λ this_0 p_96 h97 _ _ e104) kD_X6_changes kI_X6_changes rfl wM_X6_185 ⟨rfl, rfl⟩ ⟨by decide, by decide⟩ (Nat.le_of_ble_eq_true rfl) rfl dX6_rests_58 ?_
        refine fx_istore (pc := 61) (ls' := [some (8, this_0), some (0, what_0), some (0, round_72), some (0, any_95), some (0, p_96), some (0, v102)]) F (by decide) rfl rfl dX6_rests_61 ?_
        obtain ⟨v105, e106, eq98⟩ := fx_bnd eq98
        have hJ107 : fx_J M G Λ 6 77 [some (8, this_0), some (0, what_0), some (0, round_72), some (0, any_95), some (0, p_96), some (0, v102)] [(0, v105)] h103 := by
          refine fx_istore_n (pc := 77) (ls' := [some (8, this_0), some (0, what_0), some (0, round_72), some (0, v105), some (0, p_96), some (0, v102)]) F 3 rfl (by decide) rfl rfl dX6_rests_77 ?_
          refine fx_iinc (pc := 78) (ls' := [some (8, this_0), some (0, what_0), some (0, round_72), some (0, v105), some (0, (fx_w (p_96 + 1))), some (0, v102)]) F (by decide) rfl rfl rfl dX6_rests_78 ?_
          refine fx_goto (pc := 81) F 46 (by decide) dX6_rests_81 ?_
          cases eq98
          refine fx_drop (ls' := [some (8, this_0), some (0, what_0), some (0, round_72), some (0, v105), some (0, (fx_w (p_96 + 1))), none]) ⟨rfl, rfl, rfl, rfl, rfl, trivial⟩ ?_
          exact ih _ rfl
        refine fx_iload_n (pc := 63) F 3 rfl rfl dX6_rests_63 ?_
        have hT108 : (((¬ any_95 = 0) ∨ (¬ v102 = 0))) → fx_J M G Λ 6 72 [some (8, this_0), some (0, what_0), some (0, round_72), some (0, any_95), some (0, p_96), some (0, v102)] [] h103 := fun c112 => by
          have e106 := (if_pos c112).symm.trans e106
          refine fx_iconst (pc := 72) F ⟨by decide, by decide⟩ dX6_rests_72 ?_
          cases e106
          refine fx_goto (pc := 73) F 77 (by decide) dX6_rests_73 ?_
          exact hJ107
        have hF109 : ¬ (((¬ any_95 = 0) ∨ (¬ v102 = 0))) → fx_J M G Λ 6 76 [some (8, this_0), some (0, what_0), some (0, round_72), some (0, any_95), some (0, p_96), some (0, v102)] [] h103 := fun c112 => by
          have e106 := (if_neg c112).symm.trans e106
          refine fx_iconst (pc := 76) F ⟨by decide, by decide⟩ dX6_rests_76 ?_
          cases e106
          exact hJ107
        refine fx_jzne (pc := 64) F 72 (by decide) dX6_rests_64 (fun c110 => ?_) (fun c110 => ?_)
        · exact hT108 (Or.inl c110)
        · refine fx_iload (pc := 67) F rfl dX6_rests_67 ?_
          refine fx_nzne (pc := 69) F 76 (by decide) dX6_rests_69 (fun c111 => ?_) (fun c111 => ?_)
          · exact hT108 (Or.inr c111)
          · exact hF109 (fun q => q.elim c110 c111)
      · have eq98 := (if_neg c101).symm.trans eq98
        cases eq98
        exact ex _ rfl
    · have eq74 := (if_neg c75).symm.trans eq74
      cases eq74
      exact ex _ rfl
def s_X6_better_1 (Fu : Nat) (Λ : fx_L) (this_23 : Int) (person_24 : Int) (hour_25 : Int) : Int × Int × Int × fx_H → Option ((Int × Int × Int × fx_H) ⊕ (Int × Int × Int × fx_H)) := fun (bestThing_19, least_20, t_21, h22) =>
  (f_X6_things Fu Λ this_23 h22).bind fun v27 =>
  if t_21 < v27 then
    (fx_wr Λ h22 (fx_tg Λ this_23 8) (fx_w ((fx_w (5 * person_24)) + hour_25)) t_21).bind fun h30 =>
    (f_X6_paysOf Fu Λ this_23 person_24 hour_25 h30).bind fun v32 =>
    Option.bind (
      if v32 < least_20 then
        some t_21
      else
        some bestThing_19
    ) fun v34 =>
    Option.bind (
      if v32 < least_20 then
        some v32
      else
        some least_20
    ) fun v38 =>
    some (.inl (v34, v38, (fx_w (t_21 + 1)), h30))
  else
    some (.inr (bestThing_19, least_20, t_21, h22))
def f_X6_better (Fu : Nat) (Λ : fx_L) (this_0 : Int) (person_0 : Int) (hour_0 : Int) (h : fx_H) : Option (Int × fx_H) :=
  Option.bind (
    (f_X6_isOne Fu Λ this_0 person_0 h).bind fun v5 =>
    if v5 = 0 then
      some true
    else
      (f_X6_isHour Fu Λ this_0 hour_0 h).bind fun v8 =>
      if v8 = 0 then
        some true
      else
        some false
  ) fun b1 =>
  if b1 = true then
    (f_X6_bad Fu Λ this_0 (-2) h).bind fun (v12, h13) =>
    some (v12, h13)
  else
    (f_X6_layNow Fu Λ this_0 h).bind fun h15 =>
    (f_X6_takeDone Fu Λ this_0 h15).bind fun h17 =>
    Option.bind (fx_loop (s_X6_better_1 Fu Λ this_0 person_0 hour_0) Fu ((-1), 1000000, 0, h17)) fun (bestThing_62, least_63, t_64, h65) =>
    some (bestThing_62, h65)
abbrev rm_X6_better : Room := { frames := 3, cells := 0, slots := 0, locals := 77 }
set_option maxRecDepth 100000 in
set_option maxHeartbeats 4000000 in
theorem m_X6_better (Fu : Nat) (Λ : fx_L) (this_0 : Int) (person_0 : Int) (hour_0 : Int) (h : fx_H) (r : Int) (ho : fx_H) (hf : f_X6_better Fu Λ this_0 person_0 hour_0 h = some (r, ho)) : fx_Met yX6_better cX6_better 7 (some .int) rm_X6_better Λ [(8, this_0), (0, person_0), (0, hour_0)] h (some (0, r)) ho := by
  unfold f_X6_better at hf
  refine fx_enter (ls := [some (8, this_0), some (0, person_0), some (0, hour_0), none, none, none, none]) (by decide) (Nat.le_of_ble_eq_true rfl) rfl (fun M G F K => ?_)
  obtain ⟨b1, e2, hf⟩ := fx_bnd hf
  have hT3 : b1 = true → fx_J M G Λ 7 16 [some (8, this_0), some (0, person_0), some (0, hour_0), none, none, none, none] [] h := fun c11 => by
    have hf := (if_pos c11).symm.trans hf
    refine fx_aload_n (pc := 16) (t := 6) F 0 rfl rfl dX6_better_16 ?_
    refine fx_bipush (pc := 17) F ⟨by decide, by decide⟩ (by decide) dX6_better_17 ?_
    obtain ⟨⟨v12, h13⟩, e14, hf⟩ := fx_bnd hf
    refine fx_cV (pc := 19) F 6 kC_X6 [(0, (-2))] this_0 [] (m_X6_bad Fu Λ this_0 (-2) h _ _ e14) kD_X6_bad kI_X6_bad rfl wM_X6_88 ⟨rfl, rfl⟩ ⟨by decide, by decide⟩ (Nat.le_of_ble_eq_true rfl) rfl dX6_better_19 ?_
    cases hf
    exact fx_ireturn (pc := 22) F K dX6_better_22
  have hF4 : ¬ b1 = true → fx_J M G Λ 7 23 [some (8, this_0), some (0, person_0), some (0, hour_0), none, none, none, none] [] h := fun c11 => by
    have hf := (if_neg c11).symm.trans hf
    refine fx_aload_n (pc := 23) (t := 6) F 0 rfl rfl dX6_better_23 ?_
    obtain ⟨h15, e16, hf⟩ := fx_bnd hf
    refine fx_cVv (pc := 24) F 6 kC_X6 [] this_0 [] (m_X6_layNow Fu Λ this_0 h _ e16) kD_X6_layNow kI_X6_layNow rfl wM_X6_119 ⟨rfl, rfl⟩ ⟨by decide, by decide⟩ (Nat.le_of_ble_eq_true rfl) rfl dX6_better_24 ?_
    refine fx_aload_n (pc := 27) (t := 6) F 0 rfl rfl dX6_better_27 ?_
    obtain ⟨h17, e18, hf⟩ := fx_bnd hf
    refine fx_cVv (pc := 28) F 6 kC_X6 [] this_0 [] (m_X6_takeDone Fu Λ this_0 h15 _ e18) kD_X6_takeDone kI_X6_takeDone rfl wM_X6_140 ⟨rfl, rfl⟩ ⟨by decide, by decide⟩ (Nat.le_of_ble_eq_true rfl) rfl dX6_better_28 ?_
    refine fx_iconst (pc := 31) F ⟨by decide, by decide⟩ dX6_better_31 ?_
    refine fx_istore_n (pc := 32) (ls' := [some (8, this_0), some (0, person_0), some (0, hour_0), some (0, (-1)), none, none, none]) F 3 rfl (by decide) rfl rfl dX6_better_32 ?_
    refine fx_ldc (pc := 33) (z := 1000000) F (by decide) ⟨by decide, by decide⟩ wK_X6_158 dX6_better_33 ?_
    refine fx_istore (pc := 35) (ls' := [some (8, this_0), some (0, person_0), some (0, hour_0), some (0, (-1)), some (0, 1000000), none, none]) F (by decide) rfl rfl dX6_better_35 ?_
    refine fx_iconst (pc := 37) F ⟨by decide, by decide⟩ dX6_better_37 ?_
    refine fx_istore (pc := 38) (ls' := [some (8, this_0), some (0, person_0), some (0, hour_0), some (0, (-1)), some (0, 1000000), some (0, 0), none]) F (by decide) rfl rfl dX6_better_38 ?_
    obtain ⟨⟨bestThing_62, least_63, t_64, h65⟩, e66, hf⟩ := fx_bnd hf
    have hE67 : fx_J M G Λ 7 105 [some (8, this_0), some (0, person_0), some (0, hour_0), some (0, bestThing_62), some (0, least_63), some (0, t_64), none] [] h65 := by
      refine fx_iload_n (pc := 105) F 3 rfl rfl dX6_better_105 ?_
      cases hf
      exact fx_ireturn (pc := 106) F K dX6_better_106
    refine fx_loop_J (Hd := (fun z : Int × Int × Int × fx_H => fx_J M G Λ 7 40 [some (8, this_0), some (0, person_0), some (0, hour_0), some (0, z.1), some (0, z.2.1), some (0, z.2.2.1), none] [] z.2.2.2)) (Ex := (fun z : Int × Int × Int × fx_H => fx_J M G Λ 7 105 [some (8, this_0), some (0, person_0), some (0, hour_0), some (0, z.1), some (0, z.2.1), some (0, z.2.2.1), none] [] z.2.2.2)) ?_ Fu _ _ e66 hE67
    rintro ⟨bestThing_42, least_43, t_44, h45⟩ o9 eq46 ih ex
    unfold s_X6_better_1 at eq46
    show fx_J M G Λ 7 40 [some (8, this_0), some (0, person_0), some (0, hour_0), some (0, bestThing_42), some (0, least_43), some (0, t_44), none] [] h45
    refine fx_iload (pc := 40) F rfl dX6_better_40 ?_
    refine fx_aload_n (pc := 42) (t := 6) F 0 rfl rfl dX6_better_42 ?_
    obtain ⟨v47, e48, eq46⟩ := fx_bnd eq46
    refine fx_cV (pc := 43) F 6 kC_X6 [] this_0 [(0, t_44)] (m_X6_things Fu Λ this_0 h45 _ e48) kD_X6_things kI_X6_things rfl wM_X6_70 ⟨rfl, rfl⟩ ⟨by decide, by decide⟩ (Nat.le_of_ble_eq_true rfl) rfl dX6_better_43 ?_
    refine fx_nlt (pc := 46) F 105 (by decide) dX6_better_46 (fun c49 => ?_) (fun c49 => ?_)
    · have eq46 := (if_pos c49).symm.trans eq46
      refine fx_aload_n (pc := 49) (t := 6) F 0 rfl rfl dX6_better_49 ?_
      refine fx_gR (pc := 50) F 6 8 8 8 rfl kC_X6 (by decide) rfl wF_X6_33 dX6_better_50 ?_
      refine fx_iconst (pc := 53) F ⟨by decide, by decide⟩ dX6_better_53 ?_
      refine fx_iload_n (pc := 54) F 1 rfl rfl dX6_better_54 ?_
      refine fx_imul (pc := 55) F dX6_better_55 ?_
      refine fx_iload_n (pc := 56) F 2 rfl rfl dX6_better_56 ?_
      refine fx_iadd (pc := 57) F dX6_better_57 ?_
      refine fx_iload (pc := 58) F rfl dX6_better_58 ?_
      obtain ⟨h50, e51, eq46⟩ := fx_bnd eq46
      refine fx_rastI (pc := 60) F e51 dX6_better_60 ?_
      refine fx_aload_n (pc := 61) (t := 6) F 0 rfl rfl dX6_better_61 ?_
      refine fx_iload_n (pc := 62) F 1 rfl rfl dX6_better_62 ?_
      refine fx_iload_n (pc := 63) F 2 rfl rfl dX6_better_63 ?_
      obtain ⟨v52, e53, eq46⟩ := fx_bnd eq46
      refine fx_cV (pc := 64) F 6 kC_X6 [(0, person_0), (0, hour_0)] this_0 [] (m_X6_paysOf Fu Λ this_0 person_0 hour_0 h50 _ e53) kD_X6_paysOf kI_X6_paysOf rfl wM_X6_134 ⟨rfl, rfl⟩ ⟨by decide, by decide⟩ (Nat.le_of_ble_eq_true rfl) rfl dX6_better_64 ?_
      refine fx_istore (pc := 67) (ls' := [some (8, this_0), some (0, person_0), some (0, hour_0), some (0, bestThing_42), some (0, least_43), some (0, t_44), some (0, v52)]) F (by decide) rfl rfl dX6_better_67 ?_
      obtain ⟨v54, e55, eq46⟩ := fx_bnd eq46
      have hJ56 : fx_J M G Λ 7 82 [some (8, this_0), some (0, person_0), some (0, hour_0), some (0, bestThing_42), some (0, least_43), some (0, t_44), some (0, v52)] [(0, v54)] h50 := by
        refine fx_istore_n (pc := 82) (ls' := [some (8, this_0), some (0, person_0), some (0, hour_0), some (0, v54), some (0, least_43), some (0, t_44), some (0, v52)]) F 3 rfl (by decide) rfl rfl dX6_better_82 ?_
        obtain ⟨v58, e59, eq46⟩ := fx_bnd eq46
        have hJ60 : fx_J M G Λ 7 97 [some (8, this_0), some (0, person_0), some (0, hour_0), some (0, v54), some (0, least_43), some (0, t_44), some (0, v52)] [(0, v58)] h50 := by
          refine fx_istore (pc := 97) (ls' := [some (8, this_0), some (0, person_0), some (0, hour_0), some (0, v54), some (0, v58), some (0, t_44), some (0, v52)]) F (by decide) rfl rfl dX6_better_97 ?_
          refine fx_iinc (pc := 99) (ls' := [some (8, this_0), some (0, person_0), some (0, hour_0), some (0, v54), some (0, v58), some (0, (fx_w (t_44 + 1))), some (0, v52)]) F (by decide) rfl rfl rfl dX6_better_99 ?_
          refine fx_goto (pc := 102) F 40 (by decide) dX6_better_102 ?_
          cases eq46
          refine fx_drop (ls' := [some (8, this_0), some (0, person_0), some (0, hour_0), some (0, v54), some (0, v58), some (0, (fx_w (t_44 + 1))), none]) ⟨rfl, rfl, rfl, rfl, rfl, rfl, trivial⟩ ?_
          exact ih _ rfl
        refine fx_iload (pc := 83) F rfl dX6_better_83 ?_
        refine fx_iload (pc := 85) F rfl dX6_better_85 ?_
        refine fx_nlt (pc := 87) F 95 (by decide) dX6_better_87 (fun c61 => ?_) (fun c61 => ?_)
        · have e59 := (if_pos c61).symm.trans e59
          refine fx_iload (pc := 90) F rfl dX6_better_90 ?_
          cases e59
          refine fx_goto (pc := 92) F 97 (by decide) dX6_better_92 ?_
          exact hJ60
        · have e59 := (if_neg c61).symm.trans e59
          refine fx_iload (pc := 95) F rfl dX6_better_95 ?_
          cases e59
          exact hJ60
      refine fx_iload (pc := 69) F rfl dX6_better_69 ?_
      refine fx_iload (pc := 71) F rfl dX6_better_71 ?_
      refine fx_nlt (pc := 73) F 81 (by decide) dX6_better_73 (fun c57 => ?_) (fun c57 => ?_)
      · have e55 := (if_pos c57).symm.trans e55
        refine fx_iload (pc := 76) F rfl dX6_better_76 ?_
        cases e55
        refine fx_goto (pc := 78) F 82 (by decide) dX6_better_78 ?_
        exact hJ56
      · have e55 := (if_neg c57).symm.trans e55
        refine fx_iload_n (pc := 81) F 3 rfl rfl dX6_better_81 ?_
        cases e55
        exact hJ56
    · have eq46 := (if_neg c49).symm.trans eq46
      cases eq46
      exact ex _ rfl
  refine fx_aload_n (pc := 0) (t := 6) F 0 rfl rfl dX6_better_0 ?_
  refine fx_iload_n (pc := 1) F 1 rfl rfl dX6_better_1 ?_
  obtain ⟨v5, e6, e2⟩ := fx_bnd e2
  refine fx_cV (pc := 2) F 6 kC_X6 [(0, person_0)] this_0 [] (m_X6_isOne Fu Λ this_0 person_0 h _ e6) kD_X6_isOne kI_X6_isOne rfl wM_X6_102 ⟨rfl, rfl⟩ ⟨by decide, by decide⟩ (Nat.le_of_ble_eq_true rfl) rfl dX6_better_2 ?_
  refine fx_jzeq (pc := 5) F 16 (by decide) dX6_better_5 (fun c7 => ?_) (fun c7 => ?_)
  · have e2 := (if_pos c7).symm.trans e2
    cases e2
    exact hT3 (by decide)
  · have e2 := (if_neg c7).symm.trans e2
    refine fx_aload_n (pc := 8) (t := 6) F 0 rfl rfl dX6_better_8 ?_
    refine fx_iload_n (pc := 9) F 2 rfl rfl dX6_better_9 ?_
    obtain ⟨v8, e9, e2⟩ := fx_bnd e2
    refine fx_cV (pc := 10) F 6 kC_X6 [(0, hour_0)] this_0 [] (m_X6_isHour Fu Λ this_0 hour_0 h _ e9) kD_X6_isHour kI_X6_isHour rfl wM_X6_97 ⟨rfl, rfl⟩ ⟨by decide, by decide⟩ (Nat.le_of_ble_eq_true rfl) rfl dX6_better_10 ?_
    refine fx_nzeq (pc := 13) F 23 (by decide) dX6_better_13 (fun c10 => ?_) (fun c10 => ?_)
    · have e2 := (if_pos c10).symm.trans e2
      cases e2
      exact hT3 (by decide)
    · have e2 := (if_neg c10).symm.trans e2
      cases e2
      exact hF4 (by decide)
def f_X6_name (Fu : Nat) (Λ : fx_L) (this_0 : Int) (thing_0 : Int) (h : fx_H) : Option (Int × fx_H) :=
  (f_X6_isThing Fu Λ this_0 thing_0 h).bind fun v1 =>
  if v1 = 0 then
    (f_X6_bad Fu Λ this_0 (-1000) h).bind fun (v4, h5) =>
    some (v4, h5)
  else
    (f_X6_takeDone Fu Λ this_0 h).bind fun h7 =>
    (f_X6_layNow Fu Λ this_0 h7).bind fun h9 =>
    (f_X6_hours Fu Λ this_0 h9).bind fun v11 =>
    (f_X6_allIn Fu Λ this_0 v11 h9).bind fun v13 =>
    (fx_rd Λ h9 (fx_tg Λ this_0 0) 12).bind fun v15 =>
    (f_X6_layLine Fu Λ this_0 v15 thing_0 h9).bind fun h17 =>
    (f_X6_hours Fu Λ this_0 h17).bind fun v19 =>
    (f_X6_allIn Fu Λ this_0 v19 h17).bind fun v21 =>
    some ((fx_w (v13 - v21)), h17)
abbrev rm_X6_name : Room := { frames := 5, cells := 0, slots := 0, locals := 124 }
set_option maxRecDepth 100000 in
set_option maxHeartbeats 4000000 in
theorem m_X6_name (Fu : Nat) (Λ : fx_L) (this_0 : Int) (thing_0 : Int) (h : fx_H) (r : Int) (ho : fx_H) (hf : f_X6_name Fu Λ this_0 thing_0 h = some (r, ho)) : fx_Met yX6_name cX6_name 3 (some .int) rm_X6_name Λ [(8, this_0), (0, thing_0)] h (some (0, r)) ho := by
  unfold f_X6_name at hf
  refine fx_enter (ls := [some (8, this_0), some (0, thing_0), none]) (by decide) (Nat.le_of_ble_eq_true rfl) rfl (fun M G F K => ?_)
  refine fx_aload_n (pc := 0) (t := 6) F 0 rfl rfl dX6_name_0 ?_
  refine fx_iload_n (pc := 1) F 1 rfl rfl dX6_name_1 ?_
  obtain ⟨v1, e2, hf⟩ := fx_bnd hf
  refine fx_cV (pc := 2) F 6 kC_X6 [(0, thing_0)] this_0 [] (m_X6_isThing Fu Λ this_0 thing_0 h _ e2) kD_X6_isThing kI_X6_isThing rfl wM_X6_84 ⟨rfl, rfl⟩ ⟨by decide, by decide⟩ (Nat.le_of_ble_eq_true rfl) rfl dX6_name_2 ?_
  refine fx_nzeq (pc := 5) F 16 (by decide) dX6_name_5 (fun c3 => ?_) (fun c3 => ?_)
  · have hf := (if_pos c3).symm.trans hf
    refine fx_aload_n (pc := 8) (t := 6) F 0 rfl rfl dX6_name_8 ?_
    refine fx_sipush (pc := 9) F ⟨by decide, by decide⟩ (by decide) dX6_name_9 ?_
    obtain ⟨⟨v4, h5⟩, e6, hf⟩ := fx_bnd hf
    refine fx_cV (pc := 12) F 6 kC_X6 [(0, (-1000))] this_0 [] (m_X6_bad Fu Λ this_0 (-1000) h _ _ e6) kD_X6_bad kI_X6_bad rfl wM_X6_88 ⟨rfl, rfl⟩ ⟨by decide, by decide⟩ (Nat.le_of_ble_eq_true rfl) rfl dX6_name_12 ?_
    cases hf
    exact fx_ireturn (pc := 15) F K dX6_name_15
  · have hf := (if_neg c3).symm.trans hf
    refine fx_aload_n (pc := 16) (t := 6) F 0 rfl rfl dX6_name_16 ?_
    obtain ⟨h7, e8, hf⟩ := fx_bnd hf
    refine fx_cVv (pc := 17) F 6 kC_X6 [] this_0 [] (m_X6_takeDone Fu Λ this_0 h _ e8) kD_X6_takeDone kI_X6_takeDone rfl wM_X6_140 ⟨rfl, rfl⟩ ⟨by decide, by decide⟩ (Nat.le_of_ble_eq_true rfl) rfl dX6_name_17 ?_
    refine fx_aload_n (pc := 20) (t := 6) F 0 rfl rfl dX6_name_20 ?_
    obtain ⟨h9, e10, hf⟩ := fx_bnd hf
    refine fx_cVv (pc := 21) F 6 kC_X6 [] this_0 [] (m_X6_layNow Fu Λ this_0 h7 _ e10) kD_X6_layNow kI_X6_layNow rfl wM_X6_119 ⟨rfl, rfl⟩ ⟨by decide, by decide⟩ (Nat.le_of_ble_eq_true rfl) rfl dX6_name_21 ?_
    refine fx_aload_n (pc := 24) (t := 6) F 0 rfl rfl dX6_name_24 ?_
    refine fx_aload_n (pc := 25) (t := 6) F 0 rfl rfl dX6_name_25 ?_
    obtain ⟨v11, e12, hf⟩ := fx_bnd hf
    refine fx_cV (pc := 26) F 6 kC_X6 [] this_0 [(8, this_0)] (m_X6_hours Fu Λ this_0 h9 _ e12) kD_X6_hours kI_X6_hours rfl wM_X6_81 ⟨rfl, rfl⟩ ⟨by decide, by decide⟩ (Nat.le_of_ble_eq_true rfl) rfl dX6_name_26 ?_
    obtain ⟨v13, e14, hf⟩ := fx_bnd hf
    refine fx_cV (pc := 29) F 6 kC_X6 [(0, v11)] this_0 [] (m_X6_allIn Fu Λ this_0 v11 h9 _ e14) kD_X6_allIn kI_X6_allIn rfl wM_X6_143 ⟨rfl, rfl⟩ ⟨by decide, by decide⟩ (Nat.le_of_ble_eq_true rfl) rfl dX6_name_29 ?_
    refine fx_istore_n (pc := 32) (ls' := [some (8, this_0), some (0, thing_0), some (0, v13)]) F 2 rfl (by decide) rfl rfl dX6_name_32 ?_
    refine fx_aload_n (pc := 33) (t := 6) F 0 rfl rfl dX6_name_33 ?_
    refine fx_aload_n (pc := 34) (t := 6) F 0 rfl rfl dX6_name_34 ?_
    refine fx_gR (pc := 35) F 6 0 0 8 rfl kC_X6 (by decide) rfl wF_X6_7 dX6_name_35 ?_
    refine fx_bipush (pc := 38) F ⟨by decide, by decide⟩ (by decide) dX6_name_38 ?_
    obtain ⟨v15, e16, hf⟩ := fx_bnd hf
    refine fx_raldI (pc := 40) F e16 dX6_name_40 ?_
    refine fx_iload_n (pc := 41) F 1 rfl rfl dX6_name_41 ?_
    obtain ⟨h17, e18, hf⟩ := fx_bnd hf
    refine fx_cVv (pc := 42) F 6 kC_X6 [(0, v15), (0, thing_0)] this_0 [] (m_X6_layLine Fu Λ this_0 v15 thing_0 h9 _ e18) kD_X6_layLine kI_X6_layLine rfl wM_X6_115 ⟨rfl, rfl⟩ ⟨by decide, by decide⟩ (Nat.le_of_ble_eq_true rfl) rfl dX6_name_42 ?_
    refine fx_iload_n (pc := 45) F 2 rfl rfl dX6_name_45 ?_
    refine fx_aload_n (pc := 46) (t := 6) F 0 rfl rfl dX6_name_46 ?_
    refine fx_aload_n (pc := 47) (t := 6) F 0 rfl rfl dX6_name_47 ?_
    obtain ⟨v19, e20, hf⟩ := fx_bnd hf
    refine fx_cV (pc := 48) F 6 kC_X6 [] this_0 [(8, this_0), (0, v13)] (m_X6_hours Fu Λ this_0 h17 _ e20) kD_X6_hours kI_X6_hours rfl wM_X6_81 ⟨rfl, rfl⟩ ⟨by decide, by decide⟩ (Nat.le_of_ble_eq_true rfl) rfl dX6_name_48 ?_
    obtain ⟨v21, e22, hf⟩ := fx_bnd hf
    refine fx_cV (pc := 51) F 6 kC_X6 [(0, v19)] this_0 [(0, v13)] (m_X6_allIn Fu Λ this_0 v19 h17 _ e22) kD_X6_allIn kI_X6_allIn rfl wM_X6_143 ⟨rfl, rfl⟩ ⟨by decide, by decide⟩ (Nat.le_of_ble_eq_true rfl) rfl dX6_name_51 ?_
    refine fx_isub (pc := 54) F dX6_name_54 ?_
    cases hf
    exact fx_ireturn (pc := 55) F K dX6_name_55
def s_X6_line_1 (Fu : Nat) (Λ : fx_L) (this_13 : Int) (person_14 : Int) : Int × Int × Int × fx_H → Option ((Int × Int × Int × fx_H) ⊕ (Int × Int × Int × fx_H)) := fun (bestLine_9, least_10, line_11, h12) =>
  if line_11 < 5 then
    (f_X6_layLine Fu Λ this_13 line_11 (-1) h12).bind fun h17 =>
    (f_X6_hours Fu Λ this_13 h17).bind fun v19 =>
    (f_X6_paysIn Fu Λ this_13 person_14 v19 h17).bind fun v21 =>
    Option.bind (
      if v21 < least_10 then
        some line_11
      else
        some bestLine_9
    ) fun v23 =>
    Option.bind (
      if v21 < least_10 then
        some v21
      else
        some least_10
    ) fun v27 =>
    some (.inl (v23, v27, (fx_w (line_11 + 1)), h17))
  else
    some (.inr (bestLine_9, least_10, line_11, h12))
def f_X6_line (Fu : Nat) (Λ : fx_L) (this_0 : Int) (person_0 : Int) (h : fx_H) : Option (Int × fx_H) :=
  (f_X6_isOne Fu Λ this_0 person_0 h).bind fun v1 =>
  if v1 = 0 then
    (f_X6_bad Fu Λ this_0 (-2) h).bind fun (v4, h5) =>
    some (v4, h5)
  else
    (f_X6_takeDone Fu Λ this_0 h).bind fun h7 =>
    Option.bind (fx_loop (s_X6_line_1 Fu Λ this_0 person_0) Fu (0, 1000000, 0, h7)) fun (bestLine_51, least_52, line_53, h54) =>
    some (bestLine_51, h54)
abbrev rm_X6_line : Room := { frames := 4, cells := 0, slots := 0, locals := 101 }
set_option maxRecDepth 100000 in
set_option maxHeartbeats 4000000 in
theorem m_X6_line (Fu : Nat) (Λ : fx_L) (this_0 : Int) (person_0 : Int) (h : fx_H) (r : Int) (ho : fx_H) (hf : f_X6_line Fu Λ this_0 person_0 h = some (r, ho)) : fx_Met yX6_line cX6_line 6 (some .int) rm_X6_line Λ [(8, this_0), (0, person_0)] h (some (0, r)) ho := by
  unfold f_X6_line at hf
  refine fx_enter (ls := [some (8, this_0), some (0, person_0), none, none, none, none]) (by decide) (Nat.le_of_ble_eq_true rfl) rfl (fun M G F K => ?_)
  refine fx_aload_n (pc := 0) (t := 6) F 0 rfl rfl dX6_line_0 ?_
  refine fx_iload_n (pc := 1) F 1 rfl rfl dX6_line_1 ?_
  obtain ⟨v1, e2, hf⟩ := fx_bnd hf
  refine fx_cV (pc := 2) F 6 kC_X6 [(0, person_0)] this_0 [] (m_X6_isOne Fu Λ this_0 person_0 h _ e2) kD_X6_isOne kI_X6_isOne rfl wM_X6_102 ⟨rfl, rfl⟩ ⟨by decide, by decide⟩ (Nat.le_of_ble_eq_true rfl) rfl dX6_line_2 ?_
  refine fx_nzeq (pc := 5) F 15 (by decide) dX6_line_5 (fun c3 => ?_) (fun c3 => ?_)
  · have hf := (if_pos c3).symm.trans hf
    refine fx_aload_n (pc := 8) (t := 6) F 0 rfl rfl dX6_line_8 ?_
    refine fx_bipush (pc := 9) F ⟨by decide, by decide⟩ (by decide) dX6_line_9 ?_
    obtain ⟨⟨v4, h5⟩, e6, hf⟩ := fx_bnd hf
    refine fx_cV (pc := 11) F 6 kC_X6 [(0, (-2))] this_0 [] (m_X6_bad Fu Λ this_0 (-2) h _ _ e6) kD_X6_bad kI_X6_bad rfl wM_X6_88 ⟨rfl, rfl⟩ ⟨by decide, by decide⟩ (Nat.le_of_ble_eq_true rfl) rfl dX6_line_11 ?_
    cases hf
    exact fx_ireturn (pc := 14) F K dX6_line_14
  · have hf := (if_neg c3).symm.trans hf
    refine fx_aload_n (pc := 15) (t := 6) F 0 rfl rfl dX6_line_15 ?_
    obtain ⟨h7, e8, hf⟩ := fx_bnd hf
    refine fx_cVv (pc := 16) F 6 kC_X6 [] this_0 [] (m_X6_takeDone Fu Λ this_0 h _ e8) kD_X6_takeDone kI_X6_takeDone rfl wM_X6_140 ⟨rfl, rfl⟩ ⟨by decide, by decide⟩ (Nat.le_of_ble_eq_true rfl) rfl dX6_line_16 ?_
    refine fx_iconst (pc := 19) F ⟨by decide, by decide⟩ dX6_line_19 ?_
    refine fx_istore_n (pc := 20) (ls' := [some (8, this_0), some (0, person_0), some (0, 0), none, none, none]) F 2 rfl (by decide) rfl rfl dX6_line_20 ?_
    refine fx_ldc (pc := 21) (z := 1000000) F (by decide) ⟨by decide, by decide⟩ wK_X6_158 dX6_line_21 ?_
    refine fx_istore_n (pc := 23) (ls' := [some (8, this_0), some (0, person_0), some (0, 0), some (0, 1000000), none, none]) F 3 rfl (by decide) rfl rfl dX6_line_23 ?_
    refine fx_iconst (pc := 24) F ⟨by decide, by decide⟩ dX6_line_24 ?_
    refine fx_istore (pc := 25) (ls' := [some (8, this_0), some (0, person_0), some (0, 0), some (0, 1000000), some (0, 0), none]) F (by decide) rfl rfl dX6_line_25 ?_
    obtain ⟨⟨bestLine_51, least_52, line_53, h54⟩, e55, hf⟩ := fx_bnd hf
    have hE56 : fx_J M G Λ 6 83 [some (8, this_0), some (0, person_0), some (0, bestLine_51), some (0, least_52), some (0, line_53), none] [] h54 := by
      refine fx_iload_n (pc := 83) F 2 rfl rfl dX6_line_83 ?_
      cases hf
      exact fx_ireturn (pc := 84) F K dX6_line_84
    refine fx_loop_J (Hd := (fun z : Int × Int × Int × fx_H => fx_J M G Λ 6 27 [some (8, this_0), some (0, person_0), some (0, z.1), some (0, z.2.1), some (0, z.2.2.1), none] [] z.2.2.2)) (Ex := (fun z : Int × Int × Int × fx_H => fx_J M G Λ 6 83 [some (8, this_0), some (0, person_0), some (0, z.1), some (0, z.2.1), some (0, z.2.2.1), none] [] z.2.2.2)) ?_ Fu _ _ e55 hE56
    rintro ⟨bestLine_31, least_32, line_33, h34⟩ o9 eq35 ih ex
    unfold s_X6_line_1 at eq35
    show fx_J M G Λ 6 27 [some (8, this_0), some (0, person_0), some (0, bestLine_31), some (0, least_32), some (0, line_33), none] [] h34
    refine fx_iload (pc := 27) F rfl dX6_line_27 ?_
    refine fx_iconst (pc := 29) F ⟨by decide, by decide⟩ dX6_line_29 ?_
    refine fx_nlt (pc := 30) F 83 (by decide) dX6_line_30 (fun c36 => ?_) (fun c36 => ?_)
    · have eq35 := (if_pos c36).symm.trans eq35
      refine fx_aload_n (pc := 33) (t := 6) F 0 rfl rfl dX6_line_33 ?_
      refine fx_iload (pc := 34) F rfl dX6_line_34 ?_
      refine fx_iconst (pc := 36) F ⟨by decide, by decide⟩ dX6_line_36 ?_
      obtain ⟨h37, e38, eq35⟩ := fx_bnd eq35
      refine fx_cVv (pc := 37) F 6 kC_X6 [(0, line_33), (0, (-1))] this_0 [] (m_X6_layLine Fu Λ this_0 line_33 (-1) h34 _ e38) kD_X6_layLine kI_X6_layLine rfl wM_X6_115 ⟨rfl, rfl⟩ ⟨by decide, by decide⟩ (Nat.le_of_ble_eq_true rfl) rfl dX6_line_37 ?_
      refine fx_aload_n (pc := 40) (t := 6) F 0 rfl rfl dX6_line_40 ?_
      refine fx_iload_n (pc := 41) F 1 rfl rfl dX6_line_41 ?_
      refine fx_aload_n (pc := 42) (t := 6) F 0 rfl rfl dX6_line_42 ?_
      obtain ⟨v39, e40, eq35⟩ := fx_bnd eq35
      refine fx_cV (pc := 43) F 6 kC_X6 [] this_0 [(0, person_0), (8, this_0)] (m_X6_hours Fu Λ this_0 h37 _ e40) kD_X6_hours kI_X6_hours rfl wM_X6_81 ⟨rfl, rfl⟩ ⟨by decide, by decide⟩ (Nat.le_of_ble_eq_true rfl) rfl dX6_line_43 ?_
      obtain ⟨v41, e42, eq35⟩ := fx_bnd eq35
      refine fx_cV (pc := 46) F 6 kC_X6 [(0, person_0), (0, v39)] this_0 [] (m_X6_paysIn Fu Λ this_0 person_0 v39 h37 _ e42) kD_X6_paysIn kI_X6_paysIn rfl wM_X6_137 ⟨rfl, rfl⟩ ⟨by decide, by decide⟩ (Nat.le_of_ble_eq_true rfl) rfl dX6_line_46 ?_
      refine fx_istore (pc := 49) (ls' := [some (8, this_0), some (0, person_0), some (0, bestLine_31), some (0, least_32), some (0, line_33), some (0, v41)]) F (by decide) rfl rfl dX6_line_49 ?_
      obtain ⟨v43, e44, eq35⟩ := fx_bnd eq35
      have hJ45 : fx_J M G Λ 6 63 [some (8, this_0), some (0, person_0), some (0, bestLine_31), some (0, least_32), some (0, line_33), some (0, v41)] [(0, v43)] h37 := by
        refine fx_istore_n (pc := 63) (ls' := [some (8, this_0), some (0, person_0), some (0, v43), some (0, least_32), some (0, line_33), some (0, v41)]) F 2 rfl (by decide) rfl rfl dX6_line_63 ?_
        obtain ⟨v47, e48, eq35⟩ := fx_bnd eq35
        have hJ49 : fx_J M G Λ 6 76 [some (8, this_0), some (0, person_0), some (0, v43), some (0, least_32), some (0, line_33), some (0, v41)] [(0, v47)] h37 := by
          refine fx_istore_n (pc := 76) (ls' := [some (8, this_0), some (0, person_0), some (0, v43), some (0, v47), some (0, line_33), some (0, v41)]) F 3 rfl (by decide) rfl rfl dX6_line_76 ?_
          refine fx_iinc (pc := 77) (ls' := [some (8, this_0), some (0, person_0), some (0, v43), some (0, v47), some (0, (fx_w (line_33 + 1))), some (0, v41)]) F (by decide) rfl rfl rfl dX6_line_77 ?_
          refine fx_goto (pc := 80) F 27 (by decide) dX6_line_80 ?_
          cases eq35
          refine fx_drop (ls' := [some (8, this_0), some (0, person_0), some (0, v43), some (0, v47), some (0, (fx_w (line_33 + 1))), none]) ⟨rfl, rfl, rfl, rfl, rfl, trivial⟩ ?_
          exact ih _ rfl
        refine fx_iload (pc := 64) F rfl dX6_line_64 ?_
        refine fx_iload_n (pc := 66) F 3 rfl rfl dX6_line_66 ?_
        refine fx_nlt (pc := 67) F 75 (by decide) dX6_line_67 (fun c50 => ?_) (fun c50 => ?_)
        · have e48 := (if_pos c50).symm.trans e48
          refine fx_iload (pc := 70) F rfl dX6_line_70 ?_
          cases e48
          refine fx_goto (pc := 72) F 76 (by decide) dX6_line_72 ?_
          exact hJ49
        · have e48 := (if_neg c50).symm.trans e48
          refine fx_iload_n (pc := 75) F 3 rfl rfl dX6_line_75 ?_
          cases e48
          exact hJ49
      refine fx_iload (pc := 51) F rfl dX6_line_51 ?_
      refine fx_iload_n (pc := 53) F 3 rfl rfl dX6_line_53 ?_
      refine fx_nlt (pc := 54) F 62 (by decide) dX6_line_54 (fun c46 => ?_) (fun c46 => ?_)
      · have e44 := (if_pos c46).symm.trans e44
        refine fx_iload (pc := 57) F rfl dX6_line_57 ?_
        cases e44
        refine fx_goto (pc := 59) F 63 (by decide) dX6_line_59 ?_
        exact hJ45
      · have e44 := (if_neg c46).symm.trans e44
        refine fx_iload_n (pc := 62) F 2 rfl rfl dX6_line_62 ?_
        cases e44
        exact hJ45
    · have eq35 := (if_neg c36).symm.trans eq35
      cases eq35
      exact ex _ rfl
def s_X6_choir_2 (Fu : Nat) (Λ : fx_L) (this_33 : Int) (thing_34 : Int) (m_35 : Int) (h_36 : Int) : Int × fx_H → Option ((Int × fx_H) ⊕ (Int × fx_H)) := fun (p_31, h32) =>
  if p_31 < m_35 then
    (fx_wr Λ h32 (fx_tg Λ this_33 8) (fx_w ((fx_w (5 * p_31)) + h_36)) thing_34).bind fun h39 =>
    some (.inl ((fx_w (p_31 + 1)), h39))
  else
    some (.inr (p_31, h32))
def s_X6_choir_3 (Fu : Nat) (Λ : fx_L) (this_53 : Int) (m_54 : Int) (h_55 : Int) (h : fx_H) : Int × Int → Option ((Int × Int) ⊕ (Int × Int)) := fun (sum_51, p_52) =>
  if p_52 < m_54 then
    (f_X6_paysOf Fu Λ this_53 p_52 h_55 h).bind fun v58 =>
    some (.inl ((fx_w (sum_51 + v58)), (fx_w (p_52 + 1))))
  else
    some (.inr (sum_51, p_52))
def s_X6_choir_1 (Fu : Nat) (Λ : fx_L) (this_22 : Int) (thing_23 : Int) (m_24 : Int) : Int × Int × fx_H → Option ((Int × Int × fx_H) ⊕ (Int × Int × fx_H)) := fun (least_19, h_20, h21) =>
  (f_X6_hours Fu Λ this_22 h21).bind fun v26 =>
  if h_20 < v26 then
    (f_X6_takeNothing Fu Λ this_22 h21).bind fun h29 =>
    Option.bind (fx_loop (s_X6_choir_2 Fu Λ this_22 thing_23 m_24 h_20) Fu (0, h29)) fun (p_47, h48) =>
    Option.bind (fx_loop (s_X6_choir_3 Fu Λ this_22 m_24 h_20 h48) Fu (0, 0)) fun (sum_66, p_67) =>
    Option.bind (
      if sum_66 < least_19 then
        some sum_66
      else
        some least_19
    ) fun v70 =>
    some (.inl (v70, (fx_w (h_20 + 1)), h48))
  else
    some (.inr (least_19, h_20, h21))
def f_X6_choir (Fu : Nat) (Λ : fx_L) (this_0 : Int) (thing_0 : Int) (m_0 : Int) (h : fx_H) : Option (Int × fx_H) :=
  Option.bind (
    (f_X6_isThing Fu Λ this_0 thing_0 h).bind fun v5 =>
    if v5 = 0 then
      some true
    else
      (f_X6_people Fu Λ this_0 h).bind fun v8 =>
      (f_X6_in Fu Λ m_0 1 v8 h).bind fun v10 =>
      if v10 = 0 then
        some true
      else
        some false
  ) fun b1 =>
  if b1 = true then
    (f_X6_bad Fu Λ this_0 (-2) h).bind fun (v14, h15) =>
    some (v14, h15)
  else
    (f_X6_layNow Fu Λ this_0 h).bind fun h17 =>
    Option.bind (fx_loop (s_X6_choir_1 Fu Λ this_0 thing_0 m_0) Fu (1000000, 0, h17)) fun (least_126, h_127, h128) =>
    some (least_126, h128)
abbrev rm_X6_choir : Room := { frames := 3, cells := 0, slots := 0, locals := 77 }
set_option maxRecDepth 100000 in
set_option maxHeartbeats 4000000 in
theorem m_X6_choir (Fu : Nat) (Λ : fx_L) (this_0 : Int) (thing_0 : Int) (m_0 : Int) (h : fx_H) (r : Int) (ho : fx_H) (hf : f_X6_choir Fu Λ this_0 thing_0 m_0 h = some (r, ho)) : fx_Met yX6_choir cX6_choir 7 (some .int) rm_X6_choir Λ [(8, this_0), (0, thing_0), (0, m_0)] h (some (0, r)) ho := by
  unfold f_X6_choir at hf
  refine fx_enter (ls := [some (8, this_0), some (0, thing_0), some (0, m_0), none, none, none, none]) (by decide) (Nat.le_of_ble_eq_true rfl) rfl (fun M G F K => ?_)
  obtain ⟨b1, e2, hf⟩ := fx_bnd hf
  have hT3 : b1 = true → fx_J M G Λ 7 22 [some (8, this_0), some (0, thing_0), some (0, m_0), none, none, none, none] [] h := fun c13 => by
    have hf := (if_pos c13).symm.trans hf
    refine fx_aload_n (pc := 22) (t := 6) F 0 rfl rfl dX6_choir_22 ?_
    refine fx_bipush (pc := 23) F ⟨by decide, by decide⟩ (by decide) dX6_choir_23 ?_
    obtain ⟨⟨v14, h15⟩, e16, hf⟩ := fx_bnd hf
    refine fx_cV (pc := 25) F 6 kC_X6 [(0, (-2))] this_0 [] (m_X6_bad Fu Λ this_0 (-2) h _ _ e16) kD_X6_bad kI_X6_bad rfl wM_X6_88 ⟨rfl, rfl⟩ ⟨by decide, by decide⟩ (Nat.le_of_ble_eq_true rfl) rfl dX6_choir_25 ?_
    cases hf
    exact fx_ireturn (pc := 28) F K dX6_choir_28
  have hF4 : ¬ b1 = true → fx_J M G Λ 7 29 [some (8, this_0), some (0, thing_0), some (0, m_0), none, none, none, none] [] h := fun c13 => by
    have hf := (if_neg c13).symm.trans hf
    refine fx_aload_n (pc := 29) (t := 6) F 0 rfl rfl dX6_choir_29 ?_
    obtain ⟨h17, e18, hf⟩ := fx_bnd hf
    refine fx_cVv (pc := 30) F 6 kC_X6 [] this_0 [] (m_X6_layNow Fu Λ this_0 h _ e18) kD_X6_layNow kI_X6_layNow rfl wM_X6_119 ⟨rfl, rfl⟩ ⟨by decide, by decide⟩ (Nat.le_of_ble_eq_true rfl) rfl dX6_choir_30 ?_
    refine fx_ldc (pc := 33) (z := 1000000) F (by decide) ⟨by decide, by decide⟩ wK_X6_158 dX6_choir_33 ?_
    refine fx_istore_n (pc := 35) (ls' := [some (8, this_0), some (0, thing_0), some (0, m_0), some (0, 1000000), none, none, none]) F 3 rfl (by decide) rfl rfl dX6_choir_35 ?_
    refine fx_iconst (pc := 36) F ⟨by decide, by decide⟩ dX6_choir_36 ?_
    refine fx_istore (pc := 37) (ls' := [some (8, this_0), some (0, thing_0), some (0, m_0), some (0, 1000000), some (0, 0), none, none]) F (by decide) rfl rfl dX6_choir_37 ?_
    obtain ⟨⟨least_126, h_127, h128⟩, e129, hf⟩ := fx_bnd hf
    have hE130 : fx_J M G Λ 7 130 [some (8, this_0), some (0, thing_0), some (0, m_0), some (0, least_126), some (0, h_127), none, none] [] h128 := by
      refine fx_iload_n (pc := 130) F 3 rfl rfl dX6_choir_130 ?_
      cases hf
      exact fx_ireturn (pc := 131) F K dX6_choir_131
    refine fx_loop_J (Hd := (fun z : Int × Int × fx_H => fx_J M G Λ 7 39 [some (8, this_0), some (0, thing_0), some (0, m_0), some (0, z.1), some (0, z.2.1), none, none] [] z.2.2)) (Ex := (fun z : Int × Int × fx_H => fx_J M G Λ 7 130 [some (8, this_0), some (0, thing_0), some (0, m_0), some (0, z.1), some (0, z.2.1), none, none] [] z.2.2)) ?_ Fu _ _ e129 hE130
    rintro ⟨least_74, h_75, h76⟩ o9 eq77 ih ex
    unfold s_X6_choir_1 at eq77
    show fx_J M G Λ 7 39 [some (8, this_0), some (0, thing_0), some (0, m_0), some (0, least_74), some (0, h_75), none, none] [] h76
    refine fx_iload (pc := 39) F rfl dX6_choir_39 ?_
    refine fx_aload_n (pc := 41) (t := 6) F 0 rfl rfl dX6_choir_41 ?_
    obtain ⟨v78, e79, eq77⟩ := fx_bnd eq77
    refine fx_cV (pc := 42) F 6 kC_X6 [] this_0 [(0, h_75)] (m_X6_hours Fu Λ this_0 h76 _ e79) kD_X6_hours kI_X6_hours rfl wM_X6_81 ⟨rfl, rfl⟩ ⟨by decide, by decide⟩ (Nat.le_of_ble_eq_true rfl) rfl dX6_choir_42 ?_
    refine fx_nlt (pc := 45) F 130 (by decide) dX6_choir_45 (fun c80 => ?_) (fun c80 => ?_)
    · have eq77 := (if_pos c80).symm.trans eq77
      refine fx_aload_n (pc := 48) (t := 6) F 0 rfl rfl dX6_choir_48 ?_
      obtain ⟨h81, e82, eq77⟩ := fx_bnd eq77
      refine fx_cVv (pc := 49) F 6 kC_X6 [] this_0 [] (m_X6_takeNothing Fu Λ this_0 h76 _ e82) kD_X6_takeNothing kI_X6_takeNothing rfl wM_X6_155 ⟨rfl, rfl⟩ ⟨by decide, by decide⟩ (Nat.le_of_ble_eq_true rfl) rfl dX6_choir_49 ?_
      refine fx_iconst (pc := 52) F ⟨by decide, by decide⟩ dX6_choir_52 ?_
      refine fx_istore (pc := 53) (ls' := [some (8, this_0), some (0, thing_0), some (0, m_0), some (0, least_74), some (0, h_75), some (0, 0), none]) F (by decide) rfl rfl dX6_choir_53 ?_
      obtain ⟨⟨p_99, h100⟩, e101, eq77⟩ := fx_bnd eq77
      have hE102 : fx_J M G Λ 7 80 [some (8, this_0), some (0, thing_0), some (0, m_0), some (0, least_74), some (0, h_75), some (0, p_99), none] [] h100 := by
        refine fx_iconst (pc := 80) F ⟨by decide, by decide⟩ dX6_choir_80 ?_
        refine fx_istore (pc := 81) (ls' := [some (8, this_0), some (0, thing_0), some (0, m_0), some (0, least_74), some (0, h_75), some (0, 0), none]) F (by decide) rfl rfl dX6_choir_81 ?_
        refine fx_iconst (pc := 83) F ⟨by decide, by decide⟩ dX6_choir_83 ?_
        refine fx_istore (pc := 84) (ls' := [some (8, this_0), some (0, thing_0), some (0, m_0), some (0, least_74), some (0, h_75), some (0, 0), some (0, 0)]) F (by decide) rfl rfl dX6_choir_84 ?_
        obtain ⟨⟨sum_118, p_119⟩, e120, eq77⟩ := fx_bnd eq77
        have hE121 : fx_J M G Λ 7 111 [some (8, this_0), some (0, thing_0), some (0, m_0), some (0, least_74), some (0, h_75), some (0, sum_118), some (0, p_119)] [] h100 := by
          obtain ⟨v122, e123, eq77⟩ := fx_bnd eq77
          have hJ124 : fx_J M G Λ 7 123 [some (8, this_0), some (0, thing_0), some (0, m_0), some (0, least_74), some (0, h_75), some (0, sum_118), some (0, p_119)] [(0, v122)] h100 := by
            refine fx_istore_n (pc := 123) (ls' := [some (8, this_0), some (0, thing_0), some (0, m_0), some (0, v122), some (0, h_75), some (0, sum_118), some (0, p_119)]) F 3 rfl (by decide) rfl rfl dX6_choir_123 ?_
            refine fx_iinc (pc := 124) (ls' := [some (8, this_0), some (0, thing_0), some (0, m_0), some (0, v122), some (0, (fx_w (h_75 + 1))), some (0, sum_118), some (0, p_119)]) F (by decide) rfl rfl rfl dX6_choir_124 ?_
            refine fx_goto (pc := 127) F 39 (by decide) dX6_choir_127 ?_
            cases eq77
            refine fx_drop (ls' := [some (8, this_0), some (0, thing_0), some (0, m_0), some (0, v122), some (0, (fx_w (h_75 + 1))), none, none]) ⟨rfl, rfl, rfl, rfl, rfl, trivial⟩ ?_
            exact ih _ rfl
          refine fx_iload (pc := 111) F rfl dX6_choir_111 ?_
          refine fx_iload_n (pc := 113) F 3 rfl rfl dX6_choir_113 ?_
          refine fx_nlt (pc := 114) F 122 (by decide) dX6_choir_114 (fun c125 => ?_) (fun c125 => ?_)
          · have e123 := (if_pos c125).symm.trans e123
            refine fx_iload (pc := 117) F rfl dX6_choir_117 ?_
            cases e123
            refine fx_goto (pc := 119) F 123 (by decide) dX6_choir_119 ?_
            exact hJ124
          · have e123 := (if_neg c125).symm.trans e123
            refine fx_iload_n (pc := 122) F 3 rfl rfl dX6_choir_122 ?_
            cases e123
            exact hJ124
        refine fx_loop_J (Hd := (fun z : Int × Int => fx_J M G Λ 7 86 [some (8, this_0), some (0, thing_0), some (0, m_0), some (0, least_74), some (0, h_75), some (0, z.1), some (0, z.2)] [] h100)) (Ex := (fun z : Int × Int => fx_J M G Λ 7 111 [some (8, this_0), some (0, thing_0), some (0, m_0), some (0, least_74), some (0, h_75), some (0, z.1), some (0, z.2)] [] h100)) ?_ Fu _ _ e120 hE121
        rintro ⟨sum_112, p_113⟩ o9 eq114 ih ex
        unfold s_X6_choir_3 at eq114
        show fx_J M G Λ 7 86 [some (8, this_0), some (0, thing_0), some (0, m_0), some (0, least_74), some (0, h_75), some (0, sum_112), some (0, p_113)] [] h100
        refine fx_iload (pc := 86) F rfl dX6_choir_86 ?_
        refine fx_iload_n (pc := 88) F 2 rfl rfl dX6_choir_88 ?_
        refine fx_nlt (pc := 89) F 111 (by decide) dX6_choir_89 (fun c115 => ?_) (fun c115 => ?_)
        · have eq114 := (if_pos c115).symm.trans eq114
          refine fx_iload (pc := 92) F rfl dX6_choir_92 ?_
          refine fx_aload_n (pc := 94) (t := 6) F 0 rfl rfl dX6_choir_94 ?_
          refine fx_iload (pc := 95) F rfl dX6_choir_95 ?_
          refine fx_iload (pc := 97) F rfl dX6_choir_97 ?_
          obtain ⟨v116, e117, eq114⟩ := fx_bnd eq114
          refine fx_cV (pc := 99) F 6 kC_X6 [(0, p_113), (0, h_75)] this_0 [(0, sum_112)] (m_X6_paysOf Fu Λ this_0 p_113 h_75 h100 _ e117) kD_X6_paysOf kI_X6_paysOf rfl wM_X6_134 ⟨rfl, rfl⟩ ⟨by decide, by decide⟩ (Nat.le_of_ble_eq_true rfl) rfl dX6_choir_99 ?_
          refine fx_iadd (pc := 102) F dX6_choir_102 ?_
          refine fx_istore (pc := 103) (ls' := [some (8, this_0), some (0, thing_0), some (0, m_0), some (0, least_74), some (0, h_75), some (0, (fx_w (sum_112 + v116))), some (0, p_113)]) F (by decide) rfl rfl dX6_choir_103 ?_
          refine fx_iinc (pc := 105) (ls' := [some (8, this_0), some (0, thing_0), some (0, m_0), some (0, least_74), some (0, h_75), some (0, (fx_w (sum_112 + v116))), some (0, (fx_w (p_113 + 1)))]) F (by decide) rfl rfl rfl dX6_choir_105 ?_
          refine fx_goto (pc := 108) F 86 (by decide) dX6_choir_108 ?_
          cases eq114
          exact ih _ rfl
        · have eq114 := (if_neg c115).symm.trans eq114
          cases eq114
          exact ex _ rfl
      refine fx_loop_J (Hd := (fun z : Int × fx_H => fx_J M G Λ 7 55 [some (8, this_0), some (0, thing_0), some (0, m_0), some (0, least_74), some (0, h_75), some (0, z.1), none] [] z.2)) (Ex := (fun z : Int × fx_H => fx_J M G Λ 7 80 [some (8, this_0), some (0, thing_0), some (0, m_0), some (0, least_74), some (0, h_75), some (0, z.1), none] [] z.2)) ?_ Fu _ _ e101 hE102
      rintro ⟨p_93, h94⟩ o9 eq95 ih ex
      unfold s_X6_choir_2 at eq95
      show fx_J M G Λ 7 55 [some (8, this_0), some (0, thing_0), some (0, m_0), some (0, least_74), some (0, h_75), some (0, p_93), none] [] h94
      refine fx_iload (pc := 55) F rfl dX6_choir_55 ?_
      refine fx_iload_n (pc := 57) F 2 rfl rfl dX6_choir_57 ?_
      refine fx_nlt (pc := 58) F 80 (by decide) dX6_choir_58 (fun c96 => ?_) (fun c96 => ?_)
      · have eq95 := (if_pos c96).symm.trans eq95
        refine fx_aload_n (pc := 61) (t := 6) F 0 rfl rfl dX6_choir_61 ?_
        refine fx_gR (pc := 62) F 6 8 8 8 rfl kC_X6 (by decide) rfl wF_X6_33 dX6_choir_62 ?_
        refine fx_iconst (pc := 65) F ⟨by decide, by decide⟩ dX6_choir_65 ?_
        refine fx_iload (pc := 66) F rfl dX6_choir_66 ?_
        refine fx_imul (pc := 68) F dX6_choir_68 ?_
        refine fx_iload (pc := 69) F rfl dX6_choir_69 ?_
        refine fx_iadd (pc := 71) F dX6_choir_71 ?_
        refine fx_iload_n (pc := 72) F 1 rfl rfl dX6_choir_72 ?_
        obtain ⟨h97, e98, eq95⟩ := fx_bnd eq95
        refine fx_rastI (pc := 73) F e98 dX6_choir_73 ?_
        refine fx_iinc (pc := 74) (ls' := [some (8, this_0), some (0, thing_0), some (0, m_0), some (0, least_74), some (0, h_75), some (0, (fx_w (p_93 + 1))), none]) F (by decide) rfl rfl rfl dX6_choir_74 ?_
        refine fx_goto (pc := 77) F 55 (by decide) dX6_choir_77 ?_
        cases eq95
        exact ih _ rfl
      · have eq95 := (if_neg c96).symm.trans eq95
        cases eq95
        exact ex _ rfl
    · have eq77 := (if_neg c80).symm.trans eq77
      cases eq77
      exact ex _ rfl
  refine fx_aload_n (pc := 0) (t := 6) F 0 rfl rfl dX6_choir_0 ?_
  refine fx_iload_n (pc := 1) F 1 rfl rfl dX6_choir_1 ?_
  obtain ⟨v5, e6, e2⟩ := fx_bnd e2
  refine fx_cV (pc := 2) F 6 kC_X6 [(0, thing_0)] this_0 [] (m_X6_isThing Fu Λ this_0 thing_0 h _ e6) kD_X6_isThing kI_X6_isThing rfl wM_X6_84 ⟨rfl, rfl⟩ ⟨by decide, by decide⟩ (Nat.le_of_ble_eq_true rfl) rfl dX6_choir_2 ?_
  refine fx_jzeq (pc := 5) F 22 (by decide) dX6_choir_5 (fun c7 => ?_) (fun c7 => ?_)
  · have e2 := (if_pos c7).symm.trans e2
    cases e2
    exact hT3 (by decide)
  · have e2 := (if_neg c7).symm.trans e2
    refine fx_iload_n (pc := 8) F 2 rfl rfl dX6_choir_8 ?_
    refine fx_ri2l (pc := 9) F dX6_choir_9 ?_
    refine fx_lconst (pc := 10) (z := 1) F rfl ⟨by decide, by decide⟩ (by decide) dX6_choir_10 ?_
    refine fx_aload_n (pc := 11) (t := 6) F 0 rfl rfl dX6_choir_11 ?_
    obtain ⟨v8, e9, e2⟩ := fx_bnd e2
    refine fx_cV (pc := 12) F 6 kC_X6 [] this_0 [(1, 1), (1, m_0)] (m_X6_people Fu Λ this_0 h _ e9) kD_X6_people kI_X6_people rfl wM_X6_78 ⟨rfl, rfl⟩ ⟨by decide, by decide⟩ (Nat.le_of_ble_eq_true rfl) rfl dX6_choir_12 ?_
    refine fx_ri2l (pc := 15) F dX6_choir_15 ?_
    obtain ⟨v10, e11, e2⟩ := fx_bnd e2
    refine fx_cS (pc := 16) F [(1, m_0), (1, 1), (1, v8)] [] (m_X6_in Fu Λ m_0 1 v8 h _ e11) kD_X6_in wSt_X6_in wM_X6_74 ⟨rfl, rfl⟩ ⟨by decide, by decide⟩ (Nat.le_of_ble_eq_true rfl) rfl dX6_choir_16 ?_
    refine fx_nzeq (pc := 19) F 29 (by decide) dX6_choir_19 (fun c12 => ?_) (fun c12 => ?_)
    · have e2 := (if_pos c12).symm.trans e2
      cases e2
      exact hT3 (by decide)
    · have e2 := (if_neg c12).symm.trans e2
      cases e2
      exact hF4 (by decide)
def f_X6_told (Fu : Nat) (Λ : fx_L) (this_0 : Int) (person_0 : Int) (pennies_0 : Int) (h : fx_H) : Option (Int × fx_H) :=
  Option.bind (
    (f_X6_isOne Fu Λ this_0 person_0 h).bind fun v5 =>
    if v5 = 0 then
      some true
    else
      (f_X6_in Fu Λ pennies_0 0 40 h).bind fun v8 =>
      if v8 = 0 then
        some true
      else
        some false
  ) fun b1 =>
  if b1 = true then
    (f_X6_bad Fu Λ this_0 (-2) h).bind fun (v12, h13) =>
    some (v12, h13)
  else
    (fx_rd Λ h (fx_tg Λ this_0 0) (fx_w (89 + person_0))).bind fun v15 =>
    (fx_wr Λ h (fx_tg Λ this_0 0) (fx_w (89 + person_0)) pennies_0).bind fun h17 =>
    some (v15, h17)
abbrev rm_X6_told : Room := { frames := 2, cells := 0, slots := 0, locals := 46 }
set_option maxRecDepth 100000 in
set_option maxHeartbeats 4000000 in
theorem m_X6_told (Fu : Nat) (Λ : fx_L) (this_0 : Int) (person_0 : Int) (pennies_0 : Int) (h : fx_H) (r : Int) (ho : fx_H) (hf : f_X6_told Fu Λ this_0 person_0 pennies_0 h = some (r, ho)) : fx_Met yX6_told cX6_told 4 (some .int) rm_X6_told Λ [(8, this_0), (0, person_0), (0, pennies_0)] h (some (0, r)) ho := by
  unfold f_X6_told at hf
  refine fx_enter (ls := [some (8, this_0), some (0, person_0), some (0, pennies_0), none]) (by decide) (Nat.le_of_ble_eq_true rfl) rfl (fun M G F K => ?_)
  obtain ⟨b1, e2, hf⟩ := fx_bnd hf
  have hT3 : b1 = true → fx_J M G Λ 4 20 [some (8, this_0), some (0, person_0), some (0, pennies_0), none] [] h := fun c11 => by
    have hf := (if_pos c11).symm.trans hf
    refine fx_aload_n (pc := 20) (t := 6) F 0 rfl rfl dX6_told_20 ?_
    refine fx_bipush (pc := 21) F ⟨by decide, by decide⟩ (by decide) dX6_told_21 ?_
    obtain ⟨⟨v12, h13⟩, e14, hf⟩ := fx_bnd hf
    refine fx_cV (pc := 23) F 6 kC_X6 [(0, (-2))] this_0 [] (m_X6_bad Fu Λ this_0 (-2) h _ _ e14) kD_X6_bad kI_X6_bad rfl wM_X6_88 ⟨rfl, rfl⟩ ⟨by decide, by decide⟩ (Nat.le_of_ble_eq_true rfl) rfl dX6_told_23 ?_
    cases hf
    exact fx_ireturn (pc := 26) F K dX6_told_26
  have hF4 : ¬ b1 = true → fx_J M G Λ 4 27 [some (8, this_0), some (0, person_0), some (0, pennies_0), none] [] h := fun c11 => by
    have hf := (if_neg c11).symm.trans hf
    refine fx_aload_n (pc := 27) (t := 6) F 0 rfl rfl dX6_told_27 ?_
    refine fx_gR (pc := 28) F 6 0 0 8 rfl kC_X6 (by decide) rfl wF_X6_7 dX6_told_28 ?_
    refine fx_bipush (pc := 31) F ⟨by decide, by decide⟩ (by decide) dX6_told_31 ?_
    refine fx_iload_n (pc := 33) F 1 rfl rfl dX6_told_33 ?_
    refine fx_iadd (pc := 34) F dX6_told_34 ?_
    obtain ⟨v15, e16, hf⟩ := fx_bnd hf
    refine fx_raldI (pc := 35) F e16 dX6_told_35 ?_
    refine fx_istore_n (pc := 36) (ls' := [some (8, this_0), some (0, person_0), some (0, pennies_0), some (0, v15)]) F 3 rfl (by decide) rfl rfl dX6_told_36 ?_
    refine fx_aload_n (pc := 37) (t := 6) F 0 rfl rfl dX6_told_37 ?_
    refine fx_gR (pc := 38) F 6 0 0 8 rfl kC_X6 (by decide) rfl wF_X6_7 dX6_told_38 ?_
    refine fx_bipush (pc := 41) F ⟨by decide, by decide⟩ (by decide) dX6_told_41 ?_
    refine fx_iload_n (pc := 43) F 1 rfl rfl dX6_told_43 ?_
    refine fx_iadd (pc := 44) F dX6_told_44 ?_
    refine fx_iload_n (pc := 45) F 2 rfl rfl dX6_told_45 ?_
    obtain ⟨h17, e18, hf⟩ := fx_bnd hf
    refine fx_rastI (pc := 46) F e18 dX6_told_46 ?_
    refine fx_iload_n (pc := 47) F 3 rfl rfl dX6_told_47 ?_
    cases hf
    exact fx_ireturn (pc := 48) F K dX6_told_48
  refine fx_aload_n (pc := 0) (t := 6) F 0 rfl rfl dX6_told_0 ?_
  refine fx_iload_n (pc := 1) F 1 rfl rfl dX6_told_1 ?_
  obtain ⟨v5, e6, e2⟩ := fx_bnd e2
  refine fx_cV (pc := 2) F 6 kC_X6 [(0, person_0)] this_0 [] (m_X6_isOne Fu Λ this_0 person_0 h _ e6) kD_X6_isOne kI_X6_isOne rfl wM_X6_102 ⟨rfl, rfl⟩ ⟨by decide, by decide⟩ (Nat.le_of_ble_eq_true rfl) rfl dX6_told_2 ?_
  refine fx_jzeq (pc := 5) F 20 (by decide) dX6_told_5 (fun c7 => ?_) (fun c7 => ?_)
  · have e2 := (if_pos c7).symm.trans e2
    cases e2
    exact hT3 (by decide)
  · have e2 := (if_neg c7).symm.trans e2
    refine fx_iload_n (pc := 8) F 2 rfl rfl dX6_told_8 ?_
    refine fx_ri2l (pc := 9) F dX6_told_9 ?_
    refine fx_lconst (pc := 10) (z := 0) F rfl ⟨by decide, by decide⟩ (by decide) dX6_told_10 ?_
    refine fx_ldc2 (pc := 11) (z := 40) F (by decide) ⟨by decide, by decide⟩ wK_X6_188 dX6_told_11 ?_
    obtain ⟨v8, e9, e2⟩ := fx_bnd e2
    refine fx_cS (pc := 14) F [(1, pennies_0), (1, 0), (1, 40)] [] (m_X6_in Fu Λ pennies_0 0 40 h _ e9) kD_X6_in wSt_X6_in wM_X6_74 ⟨rfl, rfl⟩ ⟨by decide, by decide⟩ (Nat.le_of_ble_eq_true rfl) rfl dX6_told_14 ?_
    refine fx_nzeq (pc := 17) F 27 (by decide) dX6_told_17 (fun c10 => ?_) (fun c10 => ?_)
    · have e2 := (if_pos c10).symm.trans e2
      cases e2
      exact hT3 (by decide)
    · have e2 := (if_neg c10).symm.trans e2
      cases e2
      exact hF4 (by decide)
def s_X6_pay_1 (Fu : Nat) (Λ : fx_L) (this_3 : Int) (hour_4 : Int) (h : fx_H) : Int × Int → Option ((Int × Int) ⊕ (Int × Int)) := fun (is_1, p_2) =>
  (f_X6_people Fu Λ this_3 h).bind fun v8 =>
  if ((p_2 < v8) ∧ (¬ is_1 = 0)) then
    Option.bind (
      (f_X6_paysOf Fu Λ this_3 p_2 hour_4 h).bind fun v16 =>
      (fx_rd Λ h (fx_tg Λ this_3 0) (fx_w (89 + p_2))).bind fun v18 =>
      if v16 = v18 then
        some (1 : Int)
      else
        some (0 : Int)
    ) fun v13 =>
    some (.inl (v13, (fx_w (p_2 + 1))))
  else
    some (.inr (is_1, p_2))
def f_X6_pay (Fu : Nat) (Λ : fx_L) (this_0 : Int) (hour_0 : Int) (h : fx_H) : Option (Int) :=
  Option.bind (fx_loop (s_X6_pay_1 Fu Λ this_0 hour_0 h) Fu (1, 0)) fun (is_39, p_40) =>
  (fx_zb is_39).bind fun z43 =>
  some z43
abbrev rm_X6_pay : Room := { frames := 3, cells := 0, slots := 0, locals := 77 }
set_option maxRecDepth 100000 in
set_option maxHeartbeats 4000000 in
theorem m_X6_pay (Fu : Nat) (Λ : fx_L) (this_0 : Int) (hour_0 : Int) (h : fx_H) (r : Int) (hf : f_X6_pay Fu Λ this_0 hour_0 h = some r) : fx_Met yX6_pay cX6_pay 4 (some .boolean) rm_X6_pay Λ [(8, this_0), (0, hour_0)] h (some (0, r)) h := by
  unfold f_X6_pay at hf
  refine fx_enter (ls := [some (8, this_0), some (0, hour_0), none, none]) (by decide) (Nat.le_of_ble_eq_true rfl) rfl (fun M G F K => ?_)
  refine fx_iconst (pc := 0) F ⟨by decide, by decide⟩ dX6_pay_0 ?_
  refine fx_istore_n (pc := 1) (ls' := [some (8, this_0), some (0, hour_0), some (0, 1), none]) F 2 rfl (by decide) rfl rfl dX6_pay_1 ?_
  refine fx_iconst (pc := 2) F ⟨by decide, by decide⟩ dX6_pay_2 ?_
  refine fx_istore_n (pc := 3) (ls' := [some (8, this_0), some (0, hour_0), some (0, 1), some (0, 0)]) F 3 rfl (by decide) rfl rfl dX6_pay_3 ?_
  obtain ⟨⟨is_39, p_40⟩, e41, hf⟩ := fx_bnd hf
  have hE42 : fx_J M G Λ 4 46 [some (8, this_0), some (0, hour_0), some (0, is_39), some (0, p_40)] [] h := by
    refine fx_iload_n (pc := 46) F 2 rfl rfl dX6_pay_46 ?_
    obtain ⟨z43, e44, hf⟩ := fx_bnd hf
    obtain ⟨e44, hzz43⟩ := fx_zb_use e44
    refine fx_top (X := fx_X) e44 ?_
    cases hf
    exact fx_zreturn (pc := 47) F hzz43 K dX6_pay_47
  refine fx_loop_J (Hd := (fun z : Int × Int => fx_J M G Λ 4 4 [some (8, this_0), some (0, hour_0), some (0, z.1), some (0, z.2)] [] h)) (Ex := (fun z : Int × Int => fx_J M G Λ 4 46 [some (8, this_0), some (0, hour_0), some (0, z.1), some (0, z.2)] [] h)) ?_ Fu _ _ e41 hE42
  rintro ⟨is_21, p_22⟩ o9 eq23 ih ex
  unfold s_X6_pay_1 at eq23
  show fx_J M G Λ 4 4 [some (8, this_0), some (0, hour_0), some (0, is_21), some (0, p_22)] [] h
  refine fx_iload_n (pc := 4) F 3 rfl rfl dX6_pay_4 ?_
  refine fx_aload_n (pc := 5) (t := 6) F 0 rfl rfl dX6_pay_5 ?_
  obtain ⟨v26, e27, eq23⟩ := fx_bnd eq23
  refine fx_cV (pc := 6) F 6 kC_X6 [] this_0 [(0, p_22)] (m_X6_people Fu Λ this_0 h _ e27) kD_X6_people kI_X6_people rfl wM_X6_78 ⟨rfl, rfl⟩ ⟨by decide, by decide⟩ (Nat.le_of_ble_eq_true rfl) rfl dX6_pay_6 ?_
  have hT24 : (((p_22 < v26) ∧ (¬ is_21 = 0))) → fx_J M G Λ 4 16 [some (8, this_0), some (0, hour_0), some (0, is_21), some (0, p_22)] [] h := fun c30 => by
    have eq23 := (if_pos c30).symm.trans eq23
    obtain ⟨v31, e32, eq23⟩ := fx_bnd eq23
    have hJ33 : fx_J M G Λ 4 39 [some (8, this_0), some (0, hour_0), some (0, is_21), some (0, p_22)] [(0, v31)] h := by
      refine fx_istore_n (pc := 39) (ls' := [some (8, this_0), some (0, hour_0), some (0, v31), some (0, p_22)]) F 2 rfl (by decide) rfl rfl dX6_pay_39 ?_
      refine fx_iinc (pc := 40) (ls' := [some (8, this_0), some (0, hour_0), some (0, v31), some (0, (fx_w (p_22 + 1)))]) F (by decide) rfl rfl rfl dX6_pay_40 ?_
      refine fx_goto (pc := 43) F 4 (by decide) dX6_pay_43 ?_
      cases eq23
      exact ih _ rfl
    refine fx_aload_n (pc := 16) (t := 6) F 0 rfl rfl dX6_pay_16 ?_
    refine fx_iload_n (pc := 17) F 3 rfl rfl dX6_pay_17 ?_
    refine fx_iload_n (pc := 18) F 1 rfl rfl dX6_pay_18 ?_
    obtain ⟨v34, e35, e32⟩ := fx_bnd e32
    refine fx_cV (pc := 19) F 6 kC_X6 [(0, p_22), (0, hour_0)] this_0 [] (m_X6_paysOf Fu Λ this_0 p_22 hour_0 h _ e35) kD_X6_paysOf kI_X6_paysOf rfl wM_X6_134 ⟨rfl, rfl⟩ ⟨by decide, by decide⟩ (Nat.le_of_ble_eq_true rfl) rfl dX6_pay_19 ?_
    refine fx_aload_n (pc := 22) (t := 6) F 0 rfl rfl dX6_pay_22 ?_
    refine fx_gR (pc := 23) F 6 0 0 8 rfl kC_X6 (by decide) rfl wF_X6_7 dX6_pay_23 ?_
    refine fx_bipush (pc := 26) F ⟨by decide, by decide⟩ (by decide) dX6_pay_26 ?_
    refine fx_iload_n (pc := 28) F 3 rfl rfl dX6_pay_28 ?_
    refine fx_iadd (pc := 29) F dX6_pay_29 ?_
    obtain ⟨v36, e37, e32⟩ := fx_bnd e32
    refine fx_raldI (pc := 30) F e37 dX6_pay_30 ?_
    refine fx_neq (pc := 31) F 38 (by decide) dX6_pay_31 (fun c38 => ?_) (fun c38 => ?_)
    · have e32 := (if_pos c38).symm.trans e32
      refine fx_iconst (pc := 34) F ⟨by decide, by decide⟩ dX6_pay_34 ?_
      cases e32
      refine fx_goto (pc := 35) F 39 (by decide) dX6_pay_35 ?_
      exact hJ33
    · have e32 := (if_neg c38).symm.trans e32
      refine fx_iconst (pc := 38) F ⟨by decide, by decide⟩ dX6_pay_38 ?_
      cases e32
      exact hJ33
  have hF25 : ¬ (((p_22 < v26) ∧ (¬ is_21 = 0))) → fx_J M G Λ 4 46 [some (8, this_0), some (0, hour_0), some (0, is_21), some (0, p_22)] [] h := fun c30 => by
    have eq23 := (if_neg c30).symm.trans eq23
    cases eq23
    exact ex _ rfl
  refine fx_nlt (pc := 9) F 46 (by decide) dX6_pay_9 (fun c28 => ?_) (fun c28 => ?_)
  · refine fx_iload_n (pc := 12) F 2 rfl rfl dX6_pay_12 ?_
    refine fx_nzne (pc := 13) F 46 (by decide) dX6_pay_13 (fun c29 => ?_) (fun c29 => ?_)
    · exact hT24 ⟨c28, c29⟩
    · exact hF25 (fun q => c29 q.2)
  · exact hF25 (fun q => c28 q.1)
def s_X6_did_1 (Fu : Nat) (Λ : fx_L) (this_22 : Int) (h : fx_H) : Int × Int → Option ((Int × Int) ⊕ (Int × Int)) := fun (codes_20, p_21) =>
  (f_X6_people Fu Λ this_22 h).bind fun v24 =>
  if p_21 < v24 then
    (f_X6_things Fu Λ this_22 h).bind fun v27 =>
    some (.inl ((fx_w (codes_20 * (fx_w (v27 + 1)))), (fx_w (p_21 + 1))))
  else
    some (.inr (codes_20, p_21))
def s_X6_did_3 (Fu : Nat) (Λ : fx_L) (this_56 : Int) (hour_57 : Int) : Int × Int × fx_H → Option ((Int × Int × fx_H) ⊕ (Int × Int × fx_H)) := fun (rest_53, p_54, h55) =>
  if 0 ≤ p_54 then
    (f_X6_things Fu Λ this_56 h55).bind fun v60 =>
    (fx_rm rest_53 (fx_w (v60 + 1))).bind fun v62 =>
    Option.bind (
      (f_X6_things Fu Λ this_56 h55).bind fun v67 =>
      if v62 = v67 then
        some (-1 : Int)
      else
        some v62
    ) fun v64 =>
    (fx_wr Λ h55 (fx_tg Λ this_56 8) (fx_w ((fx_w (5 * p_54)) + hour_57)) v64).bind fun h70 =>
    (f_X6_things Fu Λ this_56 h70).bind fun v72 =>
    (fx_dv rest_53 (fx_w (v72 + 1))).bind fun v74 =>
    some (.inl (v74, (fx_w (p_54 + (-1))), h70))
  else
    some (.inr (rest_53, p_54, h55))
def s_X6_did_2 (Fu : Nat) (Λ : fx_L) (this_45 : Int) (hour_46 : Int) (person_47 : Int) (codes_48 : Int) : Int × Int × Int × fx_H → Option ((Int × Int × Int × fx_H) ⊕ (Int × Int × Int × fx_H)) := fun (many_41, first_42, code_43, h44) =>
  if code_43 < codes_48 then
    (f_X6_people Fu Λ this_45 h44).bind fun v51 =>
    Option.bind (fx_loop (s_X6_did_3 Fu Λ this_45 hour_46) Fu (code_43, (fx_w (v51 - 1)), h44)) fun (rest_97, p_98, h99) =>
    (f_X6_pay Fu Λ this_45 hour_46 h99).bind fun v102 =>
    if ¬ v102 = 0 then
      Option.bind (
        if person_47 = (-1) then
          some (-1 : Int)
        else
          (fx_rd Λ h99 (fx_tg Λ this_45 8) (fx_w ((fx_w (5 * person_47)) + hour_46))).bind fun v109 =>
          some v109
      ) fun v105 =>
      Option.bind (
        if 0 < many_41 then
          some first_42
        else
          Option.bind (
            if v105 = (-1) then
              some (9 : Int)
            else
              some v105
          ) fun v115 =>
          some v115
      ) fun v111 =>
      some (.inl ((fx_w (many_41 + 1)), v111, (fx_w (code_43 + 1)), h99))
    else
      some (.inl (many_41, first_42, (fx_w (code_43 + 1)), h99))
  else
    some (.inr (many_41, first_42, code_43, h44))
def f_X6_did (Fu : Nat) (Λ : fx_L) (this_0 : Int) (hour_0 : Int) (person_0 : Int) (h : fx_H) : Option (Int × fx_H) :=
  Option.bind (
    (f_X6_isHour Fu Λ this_0 hour_0 h).bind fun v5 =>
    if v5 = 0 then
      some true
    else
      if ¬ person_0 = (-1) then
        (f_X6_isOne Fu Λ this_0 person_0 h).bind fun v9 =>
        if v9 = 0 then
          some true
        else
          some false
      else
        some false
  ) fun b1 =>
  if b1 = true then
    (f_X6_bad Fu Λ this_0 (-10) h).bind fun (v13, h14) =>
    some (v13, h14)
  else
    (f_X6_layNow Fu Λ this_0 h).bind fun h16 =>
    (f_X6_takeDone Fu Λ this_0 h16).bind fun h18 =>
    Option.bind (fx_loop (s_X6_did_1 Fu Λ this_0 h18) Fu (1, 0)) fun (codes_37, p_38) =>
    Option.bind (fx_loop (s_X6_did_2 Fu Λ this_0 hour_0 person_0 codes_37) Fu (0, (-5), 0, h18)) fun (many_193, first_194, code_195, h196) =>
    Option.bind (
      if person_0 = (-1) then
        some many_193
      else
        some first_194
    ) fun v199 =>
    some (v199, h196)
abbrev rm_X6_did : Room := { frames := 4, cells := 0, slots := 0, locals := 100 }
set_option maxRecDepth 100000 in
set_option maxHeartbeats 4000000 in
theorem m_X6_did (Fu : Nat) (Λ : fx_L) (this_0 : Int) (hour_0 : Int) (person_0 : Int) (h : fx_H) (r : Int) (ho : fx_H) (hf : f_X6_did Fu Λ this_0 hour_0 person_0 h = some (r, ho)) : fx_Met yX6_did cX6_did 10 (some .int) rm_X6_did Λ [(8, this_0), (0, hour_0), (0, person_0)] h (some (0, r)) ho := by
  unfold f_X6_did at hf
  refine fx_enter (ls := [some (8, this_0), some (0, hour_0), some (0, person_0), none, none, none, none, none, none, none]) (by decide) (Nat.le_of_ble_eq_true rfl) rfl (fun M G F K => ?_)
  obtain ⟨b1, e2, hf⟩ := fx_bnd hf
  have hT3 : b1 = true → fx_J M G Λ 10 21 [some (8, this_0), some (0, hour_0), some (0, person_0), none, none, none, none, none, none, none] [] h := fun c12 => by
    have hf := (if_pos c12).symm.trans hf
    refine fx_aload_n (pc := 21) (t := 6) F 0 rfl rfl dX6_did_21 ?_
    refine fx_bipush (pc := 22) F ⟨by decide, by decide⟩ (by decide) dX6_did_22 ?_
    obtain ⟨⟨v13, h14⟩, e15, hf⟩ := fx_bnd hf
    refine fx_cV (pc := 24) F 6 kC_X6 [(0, (-10))] this_0 [] (m_X6_bad Fu Λ this_0 (-10) h _ _ e15) kD_X6_bad kI_X6_bad rfl wM_X6_88 ⟨rfl, rfl⟩ ⟨by decide, by decide⟩ (Nat.le_of_ble_eq_true rfl) rfl dX6_did_24 ?_
    cases hf
    exact fx_ireturn (pc := 27) F K dX6_did_27
  have hF4 : ¬ b1 = true → fx_J M G Λ 10 28 [some (8, this_0), some (0, hour_0), some (0, person_0), none, none, none, none, none, none, none] [] h := fun c12 => by
    have hf := (if_neg c12).symm.trans hf
    refine fx_aload_n (pc := 28) (t := 6) F 0 rfl rfl dX6_did_28 ?_
    obtain ⟨h16, e17, hf⟩ := fx_bnd hf
    refine fx_cVv (pc := 29) F 6 kC_X6 [] this_0 [] (m_X6_layNow Fu Λ this_0 h _ e17) kD_X6_layNow kI_X6_layNow rfl wM_X6_119 ⟨rfl, rfl⟩ ⟨by decide, by decide⟩ (Nat.le_of_ble_eq_true rfl) rfl dX6_did_29 ?_
    refine fx_aload_n (pc := 32) (t := 6) F 0 rfl rfl dX6_did_32 ?_
    obtain ⟨h18, e19, hf⟩ := fx_bnd hf
    refine fx_cVv (pc := 33) F 6 kC_X6 [] this_0 [] (m_X6_takeDone Fu Λ this_0 h16 _ e19) kD_X6_takeDone kI_X6_takeDone rfl wM_X6_140 ⟨rfl, rfl⟩ ⟨by decide, by decide⟩ (Nat.le_of_ble_eq_true rfl) rfl dX6_did_33 ?_
    refine fx_iconst (pc := 36) F ⟨by decide, by decide⟩ dX6_did_36 ?_
    refine fx_istore_n (pc := 37) (ls' := [some (8, this_0), some (0, hour_0), some (0, person_0), some (0, 1), none, none, none, none, none, none]) F 3 rfl (by decide) rfl rfl dX6_did_37 ?_
    refine fx_iconst (pc := 38) F ⟨by decide, by decide⟩ dX6_did_38 ?_
    refine fx_istore (pc := 39) (ls' := [some (8, this_0), some (0, hour_0), some (0, person_0), some (0, 1), some (0, 0), none, none, none, none, none]) F (by decide) rfl rfl dX6_did_39 ?_
    obtain ⟨⟨codes_37, p_38⟩, e39, hf⟩ := fx_bnd hf
    have hE40 : fx_J M G Λ 10 65 [some (8, this_0), some (0, hour_0), some (0, person_0), some (0, codes_37), some (0, p_38), none, none, none, none, none] [] h18 := by
      refine fx_iconst (pc := 65) F ⟨by decide, by decide⟩ dX6_did_65 ?_
      refine fx_istore (pc := 66) (ls' := [some (8, this_0), some (0, hour_0), some (0, person_0), some (0, codes_37), some (0, 0), none, none, none, none, none]) F (by decide) rfl rfl dX6_did_66 ?_
      refine fx_bipush (pc := 68) F ⟨by decide, by decide⟩ (by decide) dX6_did_68 ?_
      refine fx_istore (pc := 70) (ls' := [some (8, this_0), some (0, hour_0), some (0, person_0), some (0, codes_37), some (0, 0), some (0, (-5)), none, none, none, none]) F (by decide) rfl rfl dX6_did_70 ?_
      refine fx_iconst (pc := 72) F ⟨by decide, by decide⟩ dX6_did_72 ?_
      refine fx_istore (pc := 73) (ls' := [some (8, this_0), some (0, hour_0), some (0, person_0), some (0, codes_37), some (0, 0), some (0, (-5)), some (0, 0), none, none, none]) F (by decide) rfl rfl dX6_did_73 ?_
      obtain ⟨⟨many_193, first_194, code_195, h196⟩, e197, hf⟩ := fx_bnd hf
      have hE198 : fx_J M G Λ 10 215 [some (8, this_0), some (0, hour_0), some (0, person_0), some (0, codes_37), some (0, many_193), some (0, first_194), some (0, code_195), none, none, none] [] h196 := by
        obtain ⟨v199, e200, hf⟩ := fx_bnd hf
        have hJ201 : fx_J M G Λ 10 227 [some (8, this_0), some (0, hour_0), some (0, person_0), some (0, codes_37), some (0, many_193), some (0, first_194), some (0, code_195), none, none, none] [(0, v199)] h196 := by
          cases hf
          exact fx_ireturn (pc := 227) F K dX6_did_227
        refine fx_iload_n (pc := 215) F 2 rfl rfl dX6_did_215 ?_
        refine fx_iconst (pc := 216) F ⟨by decide, by decide⟩ dX6_did_216 ?_
        refine fx_neq (pc := 217) F 225 (by decide) dX6_did_217 (fun c202 => ?_) (fun c202 => ?_)
        · have e200 := (if_pos c202).symm.trans e200
          refine fx_iload (pc := 220) F rfl dX6_did_220 ?_
          cases e200
          refine fx_goto (pc := 222) F 227 (by decide) dX6_did_222 ?_
          exact hJ201
        · have e200 := (if_neg c202).symm.trans e200
          refine fx_iload (pc := 225) F rfl dX6_did_225 ?_
          cases e200
          exact hJ201
      refine fx_loop_J (Hd := (fun z : Int × Int × Int × fx_H => fx_J M G Λ 10 75 [some (8, this_0), some (0, hour_0), some (0, person_0), some (0, codes_37), some (0, z.1), some (0, z.2.1), some (0, z.2.2.1), none, none, none] [] z.2.2.2)) (Ex := (fun z : Int × Int × Int × fx_H => fx_J M G Λ 10 215 [some (8, this_0), some (0, hour_0), some (0, person_0), some (0, codes_37), some (0, z.1), some (0, z.2.1), some (0, z.2.2.1), none, none, none] [] z.2.2.2)) ?_ Fu _ _ e197 hE198
      rintro ⟨many_119, first_120, code_121, h122⟩ o9 eq123 ih ex
      unfold s_X6_did_2 at eq123
      show fx_J M G Λ 10 75 [some (8, this_0), some (0, hour_0), some (0, person_0), some (0, codes_37), some (0, many_119), some (0, first_120), some (0, code_121), none, none, none] [] h122
      refine fx_iload (pc := 75) F rfl dX6_did_75 ?_
      refine fx_iload_n (pc := 77) F 3 rfl rfl dX6_did_77 ?_
      refine fx_nlt (pc := 78) F 215 (by decide) dX6_did_78 (fun c124 => ?_) (fun c124 => ?_)
      · have eq123 := (if_pos c124).symm.trans eq123
        refine fx_iload (pc := 81) F rfl dX6_did_81 ?_
        refine fx_istore (pc := 83) (ls' := [some (8, this_0), some (0, hour_0), some (0, person_0), some (0, codes_37), some (0, many_119), some (0, first_120), some (0, code_121), some (0, code_121), none, none]) F (by decide) rfl rfl dX6_did_83 ?_
        refine fx_aload_n (pc := 85) (t := 6) F 0 rfl rfl dX6_did_85 ?_
        obtain ⟨v125, e126, eq123⟩ := fx_bnd eq123
        refine fx_cV (pc := 86) F 6 kC_X6 [] this_0 [] (m_X6_people Fu Λ this_0 h122 _ e126) kD_X6_people kI_X6_people rfl wM_X6_78 ⟨rfl, rfl⟩ ⟨by decide, by decide⟩ (Nat.le_of_ble_eq_true rfl) rfl dX6_did_86 ?_
        refine fx_iconst (pc := 89) F ⟨by decide, by decide⟩ dX6_did_89 ?_
        refine fx_isub (pc := 90) F dX6_did_90 ?_
        refine fx_istore (pc := 91) (ls' := [some (8, this_0), some (0, hour_0), some (0, person_0), some (0, codes_37), some (0, many_119), some (0, first_120), some (0, code_121), some (0, code_121), some (0, (fx_w (v125 - 1))), none]) F (by decide) rfl rfl dX6_did_91 ?_
        obtain ⟨⟨rest_171, p_172, h173⟩, e174, eq123⟩ := fx_bnd eq123
        have hE175 : fx_J M G Λ 10 152 [some (8, this_0), some (0, hour_0), some (0, person_0), some (0, codes_37), some (0, many_119), some (0, first_120), some (0, code_121), some (0, rest_171), some (0, p_172), none] [] h173 := by
          refine fx_aload_n (pc := 152) (t := 6) F 0 rfl rfl dX6_did_152 ?_
          refine fx_iload_n (pc := 153) F 1 rfl rfl dX6_did_153 ?_
          obtain ⟨v176, e177, eq123⟩ := fx_bnd eq123
          refine fx_cV (pc := 154) F 6 kC_X6 [(0, hour_0)] this_0 [] (m_X6_pay Fu Λ this_0 hour_0 h173 _ e177) kD_X6_pay kI_X6_pay rfl wM_X6_190 ⟨rfl, rfl⟩ ⟨by decide, by decide⟩ (Nat.le_of_ble_eq_true rfl) rfl dX6_did_154 ?_
          refine fx_nzne (pc := 157) F 209 (by decide) dX6_did_157 (fun c178 => ?_) (fun c178 => ?_)
          · have eq123 := (if_pos c178).symm.trans eq123
            obtain ⟨v179, e180, eq123⟩ := fx_bnd eq123
            have hJ181 : fx_J M G Λ 10 179 [some (8, this_0), some (0, hour_0), some (0, person_0), some (0, codes_37), some (0, many_119), some (0, first_120), some (0, code_121), some (0, rest_171), some (0, p_172), none] [(0, v179)] h173 := by
              refine fx_istore (pc := 179) (ls' := [some (8, this_0), some (0, hour_0), some (0, person_0), some (0, codes_37), some (0, many_119), some (0, first_120), some (0, code_121), some (0, rest_171), some (0, v179), none]) F (by decide) rfl rfl dX6_did_179 ?_
              obtain ⟨v185, e186, eq123⟩ := fx_bnd eq123
              have hJ187 : fx_J M G Λ 10 204 [some (8, this_0), some (0, hour_0), some (0, person_0), some (0, codes_37), some (0, many_119), some (0, first_120), some (0, code_121), some (0, rest_171), some (0, v179), none] [(0, v185)] h173 := by
                refine fx_istore (pc := 204) (ls' := [some (8, this_0), some (0, hour_0), some (0, person_0), some (0, codes_37), some (0, many_119), some (0, v185), some (0, code_121), some (0, rest_171), some (0, v179), none]) F (by decide) rfl rfl dX6_did_204 ?_
                refine fx_iinc (pc := 206) (ls' := [some (8, this_0), some (0, hour_0), some (0, person_0), some (0, codes_37), some (0, (fx_w (many_119 + 1))), some (0, v185), some (0, code_121), some (0, rest_171), some (0, v179), none]) F (by decide) rfl rfl rfl dX6_did_206 ?_
                refine fx_iinc (pc := 209) (ls' := [some (8, this_0), some (0, hour_0), some (0, person_0), some (0, codes_37), some (0, (fx_w (many_119 + 1))), some (0, v185), some (0, (fx_w (code_121 + 1))), some (0, rest_171), some (0, v179), none]) F (by decide) rfl rfl rfl dX6_did_209 ?_
                refine fx_goto (pc := 212) F 75 (by decide) dX6_did_212 ?_
                cases eq123
                refine fx_drop (ls' := [some (8, this_0), some (0, hour_0), some (0, person_0), some (0, codes_37), some (0, (fx_w (many_119 + 1))), some (0, v185), some (0, (fx_w (code_121 + 1))), none, none, none]) ⟨rfl, rfl, rfl, rfl, rfl, rfl, rfl, trivial⟩ ?_
                exact ih _ rfl
              refine fx_iload (pc := 181) F rfl dX6_did_181 ?_
              refine fx_nzgt (pc := 183) F 191 (by decide) dX6_did_183 (fun c188 => ?_) (fun c188 => ?_)
              · have e186 := (if_pos c188).symm.trans e186
                refine fx_iload (pc := 186) F rfl dX6_did_186 ?_
                cases e186
                refine fx_goto (pc := 188) F 204 (by decide) dX6_did_188 ?_
                exact hJ187
              · have e186 := (if_neg c188).symm.trans e186
                obtain ⟨v189, e190, e186⟩ := fx_bnd e186
                have hJ191 : fx_J M G Λ 10 204 [some (8, this_0), some (0, hour_0), some (0, person_0), some (0, codes_37), some (0, many_119), some (0, first_120), some (0, code_121), some (0, rest_171), some (0, v179), none] [(0, v189)] h173 := by
                  cases e186
                  exact hJ187
                refine fx_iload (pc := 191) F rfl dX6_did_191 ?_
                refine fx_iconst (pc := 193) F ⟨by decide, by decide⟩ dX6_did_193 ?_
                refine fx_neq (pc := 194) F 202 (by decide) dX6_did_194 (fun c192 => ?_) (fun c192 => ?_)
                · have e190 := (if_pos c192).symm.trans e190
                  refine fx_bipush (pc := 197) F ⟨by decide, by decide⟩ (by decide) dX6_did_197 ?_
                  cases e190
                  refine fx_goto (pc := 199) F 204 (by decide) dX6_did_199 ?_
                  exact hJ191
                · have e190 := (if_neg c192).symm.trans e190
                  refine fx_iload (pc := 202) F rfl dX6_did_202 ?_
                  cases e190
                  exact hJ191
            refine fx_iload_n (pc := 160) F 2 rfl rfl dX6_did_160 ?_
            refine fx_iconst (pc := 161) F ⟨by decide, by decide⟩ dX6_did_161 ?_
            refine fx_neq (pc := 162) F 169 (by decide) dX6_did_162 (fun c182 => ?_) (fun c182 => ?_)
            · have e180 := (if_pos c182).symm.trans e180
              refine fx_iconst (pc := 165) F ⟨by decide, by decide⟩ dX6_did_165 ?_
              cases e180
              refine fx_goto (pc := 166) F 179 (by decide) dX6_did_166 ?_
              exact hJ181
            · have e180 := (if_neg c182).symm.trans e180
              refine fx_aload_n (pc := 169) (t := 6) F 0 rfl rfl dX6_did_169 ?_
              refine fx_gR (pc := 170) F 6 8 8 8 rfl kC_X6 (by decide) rfl wF_X6_33 dX6_did_170 ?_
              refine fx_iconst (pc := 173) F ⟨by decide, by decide⟩ dX6_did_173 ?_
              refine fx_iload_n (pc := 174) F 2 rfl rfl dX6_did_174 ?_
              refine fx_imul (pc := 175) F dX6_did_175 ?_
              refine fx_iload_n (pc := 176) F 1 rfl rfl dX6_did_176 ?_
              refine fx_iadd (pc := 177) F dX6_did_177 ?_
              obtain ⟨v183, e184, e180⟩ := fx_bnd e180
              refine fx_raldI (pc := 178) F e184 dX6_did_178 ?_
              cases e180
              exact hJ181
          · have eq123 := (if_neg c178).symm.trans eq123
            refine fx_iinc (pc := 209) (ls' := [some (8, this_0), some (0, hour_0), some (0, person_0), some (0, codes_37), some (0, many_119), some (0, first_120), some (0, (fx_w (code_121 + 1))), some (0, rest_171), some (0, p_172), none]) F (by decide) rfl rfl rfl dX6_did_209 ?_
            refine fx_goto (pc := 212) F 75 (by decide) dX6_did_212 ?_
            cases eq123
            refine fx_drop (ls' := [some (8, this_0), some (0, hour_0), some (0, person_0), some (0, codes_37), some (0, many_119), some (0, first_120), some (0, (fx_w (code_121 + 1))), none, none, none]) ⟨rfl, rfl, rfl, rfl, rfl, rfl, rfl, trivial⟩ ?_
            exact ih _ rfl
        refine fx_loop_J (Hd := (fun z : Int × Int × fx_H => fx_J M G Λ 10 93 [some (8, this_0), some (0, hour_0), some (0, person_0), some (0, codes_37), some (0, many_119), some (0, first_120), some (0, code_121), some (0, z.1), some (0, z.2.1), none] [] z.2.2)) (Ex := (fun z : Int × Int × fx_H => fx_J M G Λ 10 152 [some (8, this_0), some (0, hour_0), some (0, person_0), some (0, codes_37), some (0, many_119), some (0, first_120), some (0, code_121), some (0, z.1), some (0, z.2.1), none] [] z.2.2)) ?_ Fu _ _ e174 hE175
        rintro ⟨rest_150, p_151, h152⟩ o9 eq153 ih ex
        unfold s_X6_did_3 at eq153
        show fx_J M G Λ 10 93 [some (8, this_0), some (0, hour_0), some (0, person_0), some (0, codes_37), some (0, many_119), some (0, first_120), some (0, code_121), some (0, rest_150), some (0, p_151), none] [] h152
        refine fx_iload (pc := 93) F rfl dX6_did_93 ?_
        refine fx_nzge (pc := 95) F 152 (by decide) dX6_did_95 (fun c154 => ?_) (fun c154 => ?_)
        · have eq153 := (if_pos c154).symm.trans eq153
          refine fx_iload (pc := 98) F rfl dX6_did_98 ?_
          refine fx_aload_n (pc := 100) (t := 6) F 0 rfl rfl dX6_did_100 ?_
          obtain ⟨v155, e156, eq153⟩ := fx_bnd eq153
          refine fx_cV (pc := 101) F 6 kC_X6 [] this_0 [(0, rest_150)] (m_X6_things Fu Λ this_0 h152 _ e156) kD_X6_things kI_X6_things rfl wM_X6_70 ⟨rfl, rfl⟩ ⟨by decide, by decide⟩ (Nat.le_of_ble_eq_true rfl) rfl dX6_did_101 ?_
          refine fx_iconst (pc := 104) F ⟨by decide, by decide⟩ dX6_did_104 ?_
          refine fx_iadd (pc := 105) F dX6_did_105 ?_
          obtain ⟨v157, e158, eq153⟩ := fx_bnd eq153
          refine fx_rirem (pc := 106) F e158 dX6_did_106 ?_
          refine fx_istore (pc := 107) (ls' := [some (8, this_0), some (0, hour_0), some (0, person_0), some (0, codes_37), some (0, many_119), some (0, first_120), some (0, code_121), some (0, rest_150), some (0, p_151), some (0, v157)]) F (by decide) rfl rfl dX6_did_107 ?_
          refine fx_aload_n (pc := 109) (t := 6) F 0 rfl rfl dX6_did_109 ?_
          refine fx_gR (pc := 110) F 6 8 8 8 rfl kC_X6 (by decide) rfl wF_X6_33 dX6_did_110 ?_
          refine fx_iconst (pc := 113) F ⟨by decide, by decide⟩ dX6_did_113 ?_
          refine fx_iload (pc := 114) F rfl dX6_did_114 ?_
          refine fx_imul (pc := 116) F dX6_did_116 ?_
          refine fx_iload_n (pc := 117) F 1 rfl rfl dX6_did_117 ?_
          refine fx_iadd (pc := 118) F dX6_did_118 ?_
          obtain ⟨v159, e160, eq153⟩ := fx_bnd eq153
          have hJ161 : fx_J M G Λ 10 134 [some (8, this_0), some (0, hour_0), some (0, person_0), some (0, codes_37), some (0, many_119), some (0, first_120), some (0, code_121), some (0, rest_150), some (0, p_151), some (0, v157)] [(0, v159), (0, (fx_w ((fx_w (5 * p_151)) + hour_0))), (10, (fx_tg Λ this_0 8))] h152 := by
            obtain ⟨h165, e166, eq153⟩ := fx_bnd eq153
            refine fx_rastI (pc := 134) F e166 dX6_did_134 ?_
            refine fx_iload (pc := 135) F rfl dX6_did_135 ?_
            refine fx_aload_n (pc := 137) (t := 6) F 0 rfl rfl dX6_did_137 ?_
            obtain ⟨v167, e168, eq153⟩ := fx_bnd eq153
            refine fx_cV (pc := 138) F 6 kC_X6 [] this_0 [(0, rest_150)] (m_X6_things Fu Λ this_0 h165 _ e168) kD_X6_things kI_X6_things rfl wM_X6_70 ⟨rfl, rfl⟩ ⟨by decide, by decide⟩ (Nat.le_of_ble_eq_true rfl) rfl dX6_did_138 ?_
            refine fx_iconst (pc := 141) F ⟨by decide, by decide⟩ dX6_did_141 ?_
            refine fx_iadd (pc := 142) F dX6_did_142 ?_
            obtain ⟨v169, e170, eq153⟩ := fx_bnd eq153
            refine fx_ridiv (pc := 143) F e170 dX6_did_143 ?_
            refine fx_istore (pc := 144) (ls' := [some (8, this_0), some (0, hour_0), some (0, person_0), some (0, codes_37), some (0, many_119), some (0, first_120), some (0, code_121), some (0, v169), some (0, p_151), some (0, v157)]) F (by decide) rfl rfl dX6_did_144 ?_
            refine fx_iinc (pc := 146) (ls' := [some (8, this_0), some (0, hour_0), some (0, person_0), some (0, codes_37), some (0, many_119), some (0, first_120), some (0, code_121), some (0, v169), some (0, (fx_w (p_151 + (-1)))), some (0, v157)]) F (by decide) rfl rfl rfl dX6_did_146 ?_
            refine fx_goto (pc := 149) F 93 (by decide) dX6_did_149 ?_
            cases eq153
            refine fx_drop (ls' := [some (8, this_0), some (0, hour_0), some (0, person_0), some (0, codes_37), some (0, many_119), some (0, first_120), some (0, code_121), some (0, v169), some (0, (fx_w (p_151 + (-1)))), none]) ⟨rfl, rfl, rfl, rfl, rfl, rfl, rfl, rfl, rfl, trivial⟩ ?_
            exact ih _ rfl
          refine fx_iload (pc := 119) F rfl dX6_did_119 ?_
          refine fx_aload_n (pc := 121) (t := 6) F 0 rfl rfl dX6_did_121 ?_
          obtain ⟨v162, e163, e160⟩ := fx_bnd e160
          refine fx_cV (pc := 122) F 6 kC_X6 [] this_0 [(0, v157), (0, (fx_w ((fx_w (5 * p_151)) + hour_0))), (10, (fx_tg Λ this_0 8))] (m_X6_things Fu Λ this_0 h152 _ e163) kD_X6_things kI_X6_things rfl wM_X6_70 ⟨rfl, rfl⟩ ⟨by decide, by decide⟩ (Nat.le_of_ble_eq_true rfl) rfl dX6_did_122 ?_
          refine fx_neq (pc := 125) F 132 (by decide) dX6_did_125 (fun c164 => ?_) (fun c164 => ?_)
          · have e160 := (if_pos c164).symm.trans e160
            refine fx_iconst (pc := 128) F ⟨by decide, by decide⟩ dX6_did_128 ?_
            cases e160
            refine fx_goto (pc := 129) F 134 (by decide) dX6_did_129 ?_
            exact hJ161
          · have e160 := (if_neg c164).symm.trans e160
            refine fx_iload (pc := 132) F rfl dX6_did_132 ?_
            cases e160
            exact hJ161
        · have eq153 := (if_neg c154).symm.trans eq153
          cases eq153
          exact ex _ rfl
      · have eq123 := (if_neg c124).symm.trans eq123
        cases eq123
        exact ex _ rfl
    refine fx_loop_J (Hd := (fun z : Int × Int => fx_J M G Λ 10 41 [some (8, this_0), some (0, hour_0), some (0, person_0), some (0, z.1), some (0, z.2), none, none, none, none, none] [] h18)) (Ex := (fun z : Int × Int => fx_J M G Λ 10 65 [some (8, this_0), some (0, hour_0), some (0, person_0), some (0, z.1), some (0, z.2), none, none, none, none, none] [] h18)) ?_ Fu _ _ e39 hE40
    rintro ⟨codes_29, p_30⟩ o9 eq31 ih ex
    unfold s_X6_did_1 at eq31
    show fx_J M G Λ 10 41 [some (8, this_0), some (0, hour_0), some (0, person_0), some (0, codes_29), some (0, p_30), none, none, none, none, none] [] h18
    refine fx_iload (pc := 41) F rfl dX6_did_41 ?_
    refine fx_aload_n (pc := 43) (t := 6) F 0 rfl rfl dX6_did_43 ?_
    obtain ⟨v32, e33, eq31⟩ := fx_bnd eq31
    refine fx_cV (pc := 44) F 6 kC_X6 [] this_0 [(0, p_30)] (m_X6_people Fu Λ this_0 h18 _ e33) kD_X6_people kI_X6_people rfl wM_X6_78 ⟨rfl, rfl⟩ ⟨by decide, by decide⟩ (Nat.le_of_ble_eq_true rfl) rfl dX6_did_44 ?_
    refine fx_nlt (pc := 47) F 65 (by decide) dX6_did_47 (fun c34 => ?_) (fun c34 => ?_)
    · have eq31 := (if_pos c34).symm.trans eq31
      refine fx_iload_n (pc := 50) F 3 rfl rfl dX6_did_50 ?_
      refine fx_aload_n (pc := 51) (t := 6) F 0 rfl rfl dX6_did_51 ?_
      obtain ⟨v35, e36, eq31⟩ := fx_bnd eq31
      refine fx_cV (pc := 52) F 6 kC_X6 [] this_0 [(0, codes_29)] (m_X6_things Fu Λ this_0 h18 _ e36) kD_X6_things kI_X6_things rfl wM_X6_70 ⟨rfl, rfl⟩ ⟨by decide, by decide⟩ (Nat.le_of_ble_eq_true rfl) rfl dX6_did_52 ?_
      refine fx_iconst (pc := 55) F ⟨by decide, by decide⟩ dX6_did_55 ?_
      refine fx_iadd (pc := 56) F dX6_did_56 ?_
      refine fx_imul (pc := 57) F dX6_did_57 ?_
      refine fx_istore_n (pc := 58) (ls' := [some (8, this_0), some (0, hour_0), some (0, person_0), some (0, (fx_w (codes_29 * (fx_w (v35 + 1))))), some (0, p_30), none, none, none, none, none]) F 3 rfl (by decide) rfl rfl dX6_did_58 ?_
      refine fx_iinc (pc := 59) (ls' := [some (8, this_0), some (0, hour_0), some (0, person_0), some (0, (fx_w (codes_29 * (fx_w (v35 + 1))))), some (0, (fx_w (p_30 + 1))), none, none, none, none, none]) F (by decide) rfl rfl rfl dX6_did_59 ?_
      refine fx_goto (pc := 62) F 41 (by decide) dX6_did_62 ?_
      cases eq31
      exact ih _ rfl
    · have eq31 := (if_neg c34).symm.trans eq31
      cases eq31
      exact ex _ rfl
  refine fx_aload_n (pc := 0) (t := 6) F 0 rfl rfl dX6_did_0 ?_
  refine fx_iload_n (pc := 1) F 1 rfl rfl dX6_did_1 ?_
  obtain ⟨v5, e6, e2⟩ := fx_bnd e2
  refine fx_cV (pc := 2) F 6 kC_X6 [(0, hour_0)] this_0 [] (m_X6_isHour Fu Λ this_0 hour_0 h _ e6) kD_X6_isHour kI_X6_isHour rfl wM_X6_97 ⟨rfl, rfl⟩ ⟨by decide, by decide⟩ (Nat.le_of_ble_eq_true rfl) rfl dX6_did_2 ?_
  refine fx_jzeq (pc := 5) F 21 (by decide) dX6_did_5 (fun c7 => ?_) (fun c7 => ?_)
  · have e2 := (if_pos c7).symm.trans e2
    cases e2
    exact hT3 (by decide)
  · have e2 := (if_neg c7).symm.trans e2
    refine fx_iload_n (pc := 8) F 2 rfl rfl dX6_did_8 ?_
    refine fx_iconst (pc := 9) F ⟨by decide, by decide⟩ dX6_did_9 ?_
    refine fx_nne (pc := 10) F 28 (by decide) dX6_did_10 (fun c8 => ?_) (fun c8 => ?_)
    · have e2 := (if_pos c8).symm.trans e2
      refine fx_aload_n (pc := 13) (t := 6) F 0 rfl rfl dX6_did_13 ?_
      refine fx_iload_n (pc := 14) F 2 rfl rfl dX6_did_14 ?_
      obtain ⟨v9, e10, e2⟩ := fx_bnd e2
      refine fx_cV (pc := 15) F 6 kC_X6 [(0, person_0)] this_0 [] (m_X6_isOne Fu Λ this_0 person_0 h _ e10) kD_X6_isOne kI_X6_isOne rfl wM_X6_102 ⟨rfl, rfl⟩ ⟨by decide, by decide⟩ (Nat.le_of_ble_eq_true rfl) rfl dX6_did_15 ?_
      refine fx_nzeq (pc := 18) F 28 (by decide) dX6_did_18 (fun c11 => ?_) (fun c11 => ?_)
      · have e2 := (if_pos c11).symm.trans e2
        cases e2
        exact hT3 (by decide)
      · have e2 := (if_neg c11).symm.trans e2
        cases e2
        exact hF4 (by decide)
    · have e2 := (if_neg c8).symm.trans e2
      cases e2
      exact hF4 (by decide)
