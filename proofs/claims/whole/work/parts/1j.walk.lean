def s_X6_copied_2 (Fu : Nat) (Λ : fx_L) (this_18 : Int) (person_19 : Int) (q_20 : Int) (h : fx_H) : Int × Int → Option ((Int × Int) ⊕ (Int × Int)) := fun (n_16, h_17) =>
  (f_X6_hours Fu Λ this_18 h).bind fun v24 =>
  if ((h_17 < (fx_w (v24 - 1))) ∧ (¬ q_20 = person_19)) then
    (fx_rd Λ h (fx_tg Λ this_18 0) (fx_w ((fx_w (19 + (fx_w (5 * q_20)))) + h_17))).bind fun v29 =>
    Option.bind (
      Option.bind (
        if ¬ v29 = (-1) then
          (fx_rd Λ h (fx_tg Λ this_18 0) (fx_w ((fx_w ((fx_w (19 + (fx_w (5 * person_19)))) + h_17)) + 1))).bind fun v39 =>
          if v39 = v29 then
            some true
          else
            some false
        else
          some false
      ) fun b34 =>
      if b34 = true then
        some (1 : Int)
      else
        some (0 : Int)
    ) fun v31 =>
    some (.inl ((fx_w (n_16 + v31)), (fx_w (h_17 + 1))))
  else
    some (.inr (n_16, h_17))
def s_X6_copied_1 (Fu : Nat) (Λ : fx_L) (this_10 : Int) (person_11 : Int) (h : fx_H) : Int × Int × Int → Option ((Int × Int × Int) ⊕ (Int × Int × Int)) := fun (whom_7, most_8, q_9) =>
  (f_X6_people Fu Λ this_10 h).bind fun v13 =>
  if q_9 < v13 then
    Option.bind (fx_loop (s_X6_copied_2 Fu Λ this_10 person_11 q_9 h) Fu (0, 0)) fun (n_67, h_68) =>
    Option.bind (
      if most_8 < n_67 then
        some q_9
      else
        some whom_7
    ) fun v71 =>
    Option.bind (
      if most_8 < n_67 then
        some n_67
      else
        some most_8
    ) fun v75 =>
    some (.inl (v71, v75, (fx_w (q_9 + 1))))
  else
    some (.inr (whom_7, most_8, q_9))
def f_X6_copied (Fu : Nat) (Λ : fx_L) (this_0 : Int) (person_0 : Int) (h : fx_H) : Option (Int × fx_H) :=
  (f_X6_isOne Fu Λ this_0 person_0 h).bind fun v1 =>
  if v1 = 0 then
    (f_X6_bad Fu Λ this_0 (-2) h).bind fun (v4, h5) =>
    some (v4, h5)
  else
    Option.bind (fx_loop (s_X6_copied_1 Fu Λ this_0 person_0 h) Fu ((-1), 0, 0)) fun (whom_149, most_150, q_151) =>
    some (whom_149, h)
abbrev rm_X6_copied : Room := { frames := 2, cells := 0, slots := 0, locals := 46 }
set_option maxRecDepth 100000 in
set_option maxHeartbeats 4000000 in
theorem m_X6_copied (Fu : Nat) (Λ : fx_L) (this_0 : Int) (person_0 : Int) (h : fx_H) (r : Int) (ho : fx_H) (hf : f_X6_copied Fu Λ this_0 person_0 h = some (r, ho)) : fx_Met yX6_copied cX6_copied 8 (some .int) rm_X6_copied Λ [(8, this_0), (0, person_0)] h (some (0, r)) ho := by
  unfold f_X6_copied at hf
  refine fx_enter (ls := [some (8, this_0), some (0, person_0), none, none, none, none, none, none]) (by decide) (Nat.le_of_ble_eq_true rfl) rfl (fun M G F K => ?_)
  refine fx_aload_n (pc := 0) (t := 6) F 0 rfl rfl dX6_copied_0 ?_
  refine fx_iload_n (pc := 1) F 1 rfl rfl dX6_copied_1 ?_
  obtain ⟨v1, e2, hf⟩ := fx_bnd hf
  refine fx_cV (pc := 2) F 6 kC_X6 [(0, person_0)] this_0 [] (m_X6_isOne Fu Λ this_0 person_0 h _ e2) kD_X6_isOne kI_X6_isOne rfl wM_X6_102 ⟨rfl, rfl⟩ ⟨by decide, by decide⟩ (Nat.le_of_ble_eq_true rfl) rfl dX6_copied_2 ?_
  refine fx_nzeq (pc := 5) F 15 (by decide) dX6_copied_5 (fun c3 => ?_) (fun c3 => ?_)
  · have hf := (if_pos c3).symm.trans hf
    refine fx_aload_n (pc := 8) (t := 6) F 0 rfl rfl dX6_copied_8 ?_
    refine fx_bipush (pc := 9) F ⟨by decide, by decide⟩ (by decide) dX6_copied_9 ?_
    obtain ⟨⟨v4, h5⟩, e6, hf⟩ := fx_bnd hf
    refine fx_cV (pc := 11) F 6 kC_X6 [(0, (-2))] this_0 [] (m_X6_bad Fu Λ this_0 (-2) h _ _ e6) kD_X6_bad kI_X6_bad rfl wM_X6_88 ⟨rfl, rfl⟩ ⟨by decide, by decide⟩ (Nat.le_of_ble_eq_true rfl) rfl dX6_copied_11 ?_
    cases hf
    exact fx_ireturn (pc := 14) F K dX6_copied_14
  · have hf := (if_neg c3).symm.trans hf
    refine fx_iconst (pc := 15) F ⟨by decide, by decide⟩ dX6_copied_15 ?_
    refine fx_istore_n (pc := 16) (ls' := [some (8, this_0), some (0, person_0), some (0, (-1)), none, none, none, none, none]) F 2 rfl (by decide) rfl rfl dX6_copied_16 ?_
    refine fx_iconst (pc := 17) F ⟨by decide, by decide⟩ dX6_copied_17 ?_
    refine fx_istore_n (pc := 18) (ls' := [some (8, this_0), some (0, person_0), some (0, (-1)), some (0, 0), none, none, none, none]) F 3 rfl (by decide) rfl rfl dX6_copied_18 ?_
    refine fx_iconst (pc := 19) F ⟨by decide, by decide⟩ dX6_copied_19 ?_
    refine fx_istore (pc := 20) (ls' := [some (8, this_0), some (0, person_0), some (0, (-1)), some (0, 0), some (0, 0), none, none, none]) F (by decide) rfl rfl dX6_copied_20 ?_
    obtain ⟨⟨whom_149, most_150, q_151⟩, e152, hf⟩ := fx_bnd hf
    have hE153 : fx_J M G Λ 8 146 [some (8, this_0), some (0, person_0), some (0, whom_149), some (0, most_150), some (0, q_151), none, none, none] [] h := by
      refine fx_iload_n (pc := 146) F 2 rfl rfl dX6_copied_146 ?_
      cases hf
      exact fx_ireturn (pc := 147) F K dX6_copied_147
    refine fx_loop_J (Hd := (fun z : Int × Int × Int => fx_J M G Λ 8 22 [some (8, this_0), some (0, person_0), some (0, z.1), some (0, z.2.1), some (0, z.2.2), none, none, none] [] h)) (Ex := (fun z : Int × Int × Int => fx_J M G Λ 8 146 [some (8, this_0), some (0, person_0), some (0, z.1), some (0, z.2.1), some (0, z.2.2), none, none, none] [] h)) ?_ Fu _ _ e152 hE153
    rintro ⟨whom_79, most_80, q_81⟩ o9 eq82 ih ex
    unfold s_X6_copied_1 at eq82
    show fx_J M G Λ 8 22 [some (8, this_0), some (0, person_0), some (0, whom_79), some (0, most_80), some (0, q_81), none, none, none] [] h
    refine fx_iload (pc := 22) F rfl dX6_copied_22 ?_
    refine fx_aload_n (pc := 24) (t := 6) F 0 rfl rfl dX6_copied_24 ?_
    obtain ⟨v83, e84, eq82⟩ := fx_bnd eq82
    refine fx_cV (pc := 25) F 6 kC_X6 [] this_0 [(0, q_81)] (m_X6_people Fu Λ this_0 h _ e84) kD_X6_people kI_X6_people rfl wM_X6_78 ⟨rfl, rfl⟩ ⟨by decide, by decide⟩ (Nat.le_of_ble_eq_true rfl) rfl dX6_copied_25 ?_
    refine fx_nlt (pc := 28) F 146 (by decide) dX6_copied_28 (fun c85 => ?_) (fun c85 => ?_)
    · have eq82 := (if_pos c85).symm.trans eq82
      refine fx_iconst (pc := 31) F ⟨by decide, by decide⟩ dX6_copied_31 ?_
      refine fx_istore (pc := 32) (ls' := [some (8, this_0), some (0, person_0), some (0, whom_79), some (0, most_80), some (0, q_81), some (0, 0), none, none]) F (by decide) rfl rfl dX6_copied_32 ?_
      refine fx_iconst (pc := 34) F ⟨by decide, by decide⟩ dX6_copied_34 ?_
      refine fx_istore (pc := 35) (ls' := [some (8, this_0), some (0, person_0), some (0, whom_79), some (0, most_80), some (0, q_81), some (0, 0), some (0, 0), none]) F (by decide) rfl rfl dX6_copied_35 ?_
      obtain ⟨⟨n_137, h_138⟩, e139, eq82⟩ := fx_bnd eq82
      have hE140 : fx_J M G Λ 8 114 [some (8, this_0), some (0, person_0), some (0, whom_79), some (0, most_80), some (0, q_81), some (0, n_137), some (0, h_138), none] [] h := by
        obtain ⟨v141, e142, eq82⟩ := fx_bnd eq82
        have hJ143 : fx_J M G Λ 8 126 [some (8, this_0), some (0, person_0), some (0, whom_79), some (0, most_80), some (0, q_81), some (0, n_137), some (0, h_138), none] [(0, v141)] h := by
          refine fx_istore_n (pc := 126) (ls' := [some (8, this_0), some (0, person_0), some (0, v141), some (0, most_80), some (0, q_81), some (0, n_137), some (0, h_138), none]) F 2 rfl (by decide) rfl rfl dX6_copied_126 ?_
          obtain ⟨v145, e146, eq82⟩ := fx_bnd eq82
          have hJ147 : fx_J M G Λ 8 139 [some (8, this_0), some (0, person_0), some (0, v141), some (0, most_80), some (0, q_81), some (0, n_137), some (0, h_138), none] [(0, v145)] h := by
            refine fx_istore_n (pc := 139) (ls' := [some (8, this_0), some (0, person_0), some (0, v141), some (0, v145), some (0, q_81), some (0, n_137), some (0, h_138), none]) F 3 rfl (by decide) rfl rfl dX6_copied_139 ?_
            refine fx_iinc (pc := 140) (ls' := [some (8, this_0), some (0, person_0), some (0, v141), some (0, v145), some (0, (fx_w (q_81 + 1))), some (0, n_137), some (0, h_138), none]) F (by decide) rfl rfl rfl dX6_copied_140 ?_
            refine fx_goto (pc := 143) F 22 (by decide) dX6_copied_143 ?_
            cases eq82
            refine fx_drop (ls' := [some (8, this_0), some (0, person_0), some (0, v141), some (0, v145), some (0, (fx_w (q_81 + 1))), none, none, none]) ⟨rfl, rfl, rfl, rfl, rfl, trivial⟩ ?_
            exact ih _ rfl
          refine fx_iload (pc := 127) F rfl dX6_copied_127 ?_
          refine fx_iload_n (pc := 129) F 3 rfl rfl dX6_copied_129 ?_
          refine fx_ngt (pc := 130) F 138 (by decide) dX6_copied_130 (fun c148 => ?_) (fun c148 => ?_)
          · have e146 := (if_pos c148).symm.trans e146
            refine fx_iload (pc := 133) F rfl dX6_copied_133 ?_
            cases e146
            refine fx_goto (pc := 135) F 139 (by decide) dX6_copied_135 ?_
            exact hJ147
          · have e146 := (if_neg c148).symm.trans e146
            refine fx_iload_n (pc := 138) F 3 rfl rfl dX6_copied_138 ?_
            cases e146
            exact hJ147
        refine fx_iload (pc := 114) F rfl dX6_copied_114 ?_
        refine fx_iload_n (pc := 116) F 3 rfl rfl dX6_copied_116 ?_
        refine fx_ngt (pc := 117) F 125 (by decide) dX6_copied_117 (fun c144 => ?_) (fun c144 => ?_)
        · have e142 := (if_pos c144).symm.trans e142
          refine fx_iload (pc := 120) F rfl dX6_copied_120 ?_
          cases e142
          refine fx_goto (pc := 122) F 126 (by decide) dX6_copied_122 ?_
          exact hJ143
        · have e142 := (if_neg c144).symm.trans e142
          refine fx_iload_n (pc := 125) F 2 rfl rfl dX6_copied_125 ?_
          cases e142
          exact hJ143
      refine fx_loop_J (Hd := (fun z : Int × Int => fx_J M G Λ 8 37 [some (8, this_0), some (0, person_0), some (0, whom_79), some (0, most_80), some (0, q_81), some (0, z.1), some (0, z.2), none] [] h)) (Ex := (fun z : Int × Int => fx_J M G Λ 8 114 [some (8, this_0), some (0, person_0), some (0, whom_79), some (0, most_80), some (0, q_81), some (0, z.1), some (0, z.2), none] [] h)) ?_ Fu _ _ e139 hE140
      rintro ⟨n_113, h_114⟩ o9 eq115 ih ex
      unfold s_X6_copied_2 at eq115
      show fx_J M G Λ 8 37 [some (8, this_0), some (0, person_0), some (0, whom_79), some (0, most_80), some (0, q_81), some (0, n_113), some (0, h_114), none] [] h
      refine fx_iload (pc := 37) F rfl dX6_copied_37 ?_
      refine fx_aload_n (pc := 39) (t := 6) F 0 rfl rfl dX6_copied_39 ?_
      obtain ⟨v118, e119, eq115⟩ := fx_bnd eq115
      refine fx_cV (pc := 40) F 6 kC_X6 [] this_0 [(0, h_114)] (m_X6_hours Fu Λ this_0 h _ e119) kD_X6_hours kI_X6_hours rfl wM_X6_81 ⟨rfl, rfl⟩ ⟨by decide, by decide⟩ (Nat.le_of_ble_eq_true rfl) rfl dX6_copied_40 ?_
      refine fx_iconst (pc := 43) F ⟨by decide, by decide⟩ dX6_copied_43 ?_
      refine fx_isub (pc := 44) F dX6_copied_44 ?_
      have hT116 : (((h_114 < (fx_w (v118 - 1))) ∧ (¬ q_81 = person_0))) → fx_J M G Λ 8 54 [some (8, this_0), some (0, person_0), some (0, whom_79), some (0, most_80), some (0, q_81), some (0, n_113), some (0, h_114), none] [] h := fun c122 => by
        have eq115 := (if_pos c122).symm.trans eq115
        refine fx_aload_n (pc := 54) (t := 6) F 0 rfl rfl dX6_copied_54 ?_
        refine fx_gR (pc := 55) F 6 0 0 8 rfl kC_X6 (by decide) rfl wF_X6_7 dX6_copied_55 ?_
        refine fx_bipush (pc := 58) F ⟨by decide, by decide⟩ (by decide) dX6_copied_58 ?_
        refine fx_iconst (pc := 60) F ⟨by decide, by decide⟩ dX6_copied_60 ?_
        refine fx_iload (pc := 61) F rfl dX6_copied_61 ?_
        refine fx_imul (pc := 63) F dX6_copied_63 ?_
        refine fx_iadd (pc := 64) F dX6_copied_64 ?_
        refine fx_iload (pc := 65) F rfl dX6_copied_65 ?_
        refine fx_iadd (pc := 67) F dX6_copied_67 ?_
        obtain ⟨v123, e124, eq115⟩ := fx_bnd eq115
        refine fx_raldI (pc := 68) F e124 dX6_copied_68 ?_
        refine fx_istore (pc := 69) (ls' := [some (8, this_0), some (0, person_0), some (0, whom_79), some (0, most_80), some (0, q_81), some (0, n_113), some (0, h_114), some (0, v123)]) F (by decide) rfl rfl dX6_copied_69 ?_
        refine fx_iload (pc := 71) F rfl dX6_copied_71 ?_
        obtain ⟨v125, e126, eq115⟩ := fx_bnd eq115
        have hJ127 : fx_J M G Λ 8 105 [some (8, this_0), some (0, person_0), some (0, whom_79), some (0, most_80), some (0, q_81), some (0, n_113), some (0, h_114), some (0, v123)] [(0, v125), (0, n_113)] h := by
          refine fx_iadd (pc := 105) F dX6_copied_105 ?_
          refine fx_istore (pc := 106) (ls' := [some (8, this_0), some (0, person_0), some (0, whom_79), some (0, most_80), some (0, q_81), some (0, (fx_w (n_113 + v125))), some (0, h_114), some (0, v123)]) F (by decide) rfl rfl dX6_copied_106 ?_
          refine fx_iinc (pc := 108) (ls' := [some (8, this_0), some (0, person_0), some (0, whom_79), some (0, most_80), some (0, q_81), some (0, (fx_w (n_113 + v125))), some (0, (fx_w (h_114 + 1))), some (0, v123)]) F (by decide) rfl rfl rfl dX6_copied_108 ?_
          refine fx_goto (pc := 111) F 37 (by decide) dX6_copied_111 ?_
          cases eq115
          refine fx_drop (ls' := [some (8, this_0), some (0, person_0), some (0, whom_79), some (0, most_80), some (0, q_81), some (0, (fx_w (n_113 + v125))), some (0, (fx_w (h_114 + 1))), none]) ⟨rfl, rfl, rfl, rfl, rfl, rfl, rfl, trivial⟩ ?_
          exact ih _ rfl
        obtain ⟨b128, e129, e126⟩ := fx_bnd e126
        have hT130 : b128 = true → fx_J M G Λ 8 100 [some (8, this_0), some (0, person_0), some (0, whom_79), some (0, most_80), some (0, q_81), some (0, n_113), some (0, h_114), some (0, v123)] [(0, n_113)] h := fun c136 => by
          have e126 := (if_pos c136).symm.trans e126
          refine fx_iconst (pc := 100) F ⟨by decide, by decide⟩ dX6_copied_100 ?_
          cases e126
          refine fx_goto (pc := 101) F 105 (by decide) dX6_copied_101 ?_
          exact hJ127
        have hF131 : ¬ b128 = true → fx_J M G Λ 8 104 [some (8, this_0), some (0, person_0), some (0, whom_79), some (0, most_80), some (0, q_81), some (0, n_113), some (0, h_114), some (0, v123)] [(0, n_113)] h := fun c136 => by
          have e126 := (if_neg c136).symm.trans e126
          refine fx_iconst (pc := 104) F ⟨by decide, by decide⟩ dX6_copied_104 ?_
          cases e126
          exact hJ127
        refine fx_iload (pc := 73) F rfl dX6_copied_73 ?_
        refine fx_iconst (pc := 75) F ⟨by decide, by decide⟩ dX6_copied_75 ?_
        refine fx_nne (pc := 76) F 104 (by decide) dX6_copied_76 (fun c132 => ?_) (fun c132 => ?_)
        · have e129 := (if_pos c132).symm.trans e129
          refine fx_aload_n (pc := 79) (t := 6) F 0 rfl rfl dX6_copied_79 ?_
          refine fx_gR (pc := 80) F 6 0 0 8 rfl kC_X6 (by decide) rfl wF_X6_7 dX6_copied_80 ?_
          refine fx_bipush (pc := 83) F ⟨by decide, by decide⟩ (by decide) dX6_copied_83 ?_
          refine fx_iconst (pc := 85) F ⟨by decide, by decide⟩ dX6_copied_85 ?_
          refine fx_iload_n (pc := 86) F 1 rfl rfl dX6_copied_86 ?_
          refine fx_imul (pc := 87) F dX6_copied_87 ?_
          refine fx_iadd (pc := 88) F dX6_copied_88 ?_
          refine fx_iload (pc := 89) F rfl dX6_copied_89 ?_
          refine fx_iadd (pc := 91) F dX6_copied_91 ?_
          refine fx_iconst (pc := 92) F ⟨by decide, by decide⟩ dX6_copied_92 ?_
          refine fx_iadd (pc := 93) F dX6_copied_93 ?_
          obtain ⟨v133, e134, e129⟩ := fx_bnd e129
          refine fx_raldI (pc := 94) F e134 dX6_copied_94 ?_
          refine fx_iload (pc := 95) F rfl dX6_copied_95 ?_
          refine fx_neq (pc := 97) F 104 (by decide) dX6_copied_97 (fun c135 => ?_) (fun c135 => ?_)
          · have e129 := (if_pos c135).symm.trans e129
            cases e129
            exact hT130 (by decide)
          · have e129 := (if_neg c135).symm.trans e129
            cases e129
            exact hF131 (by decide)
        · have e129 := (if_neg c132).symm.trans e129
          cases e129
          exact hF131 (by decide)
      have hF117 : ¬ (((h_114 < (fx_w (v118 - 1))) ∧ (¬ q_81 = person_0))) → fx_J M G Λ 8 114 [some (8, this_0), some (0, person_0), some (0, whom_79), some (0, most_80), some (0, q_81), some (0, n_113), some (0, h_114), none] [] h := fun c122 => by
        have eq115 := (if_neg c122).symm.trans eq115
        cases eq115
        exact ex _ rfl
      refine fx_nlt (pc := 45) F 114 (by decide) dX6_copied_45 (fun c120 => ?_) (fun c120 => ?_)
      · refine fx_iload (pc := 48) F rfl dX6_copied_48 ?_
        refine fx_iload_n (pc := 50) F 1 rfl rfl dX6_copied_50 ?_
        refine fx_nne (pc := 51) F 114 (by decide) dX6_copied_51 (fun c121 => ?_) (fun c121 => ?_)
        · exact hT116 ⟨c120, c121⟩
        · exact hF117 (fun q => c121 q.2)
      · exact hF117 (fun q => c120 q.1)
    · have eq82 := (if_neg c85).symm.trans eq82
      cases eq82
      exact ex _ rfl
def s_X6_crowd_2 (Fu : Nat) (Λ : fx_L) (n_33 : Int) (m_34 : Int) (h : fx_H) : Int × Int → Option ((Int × Int) ⊕ (Int × Int)) := fun (v_31, i_32) =>
  if i_32 < n_33 then
    some (.inl ((fx_wl (v_31 * (fx_w (m_34 - 1)))), (fx_w (i_32 + 1))))
  else
    some (.inr (v_31, i_32))
def s_X6_crowd_1 (Fu : Nat) (Λ : fx_L) (n_22 : Int) (m_23 : Int) (k_24 : Int) (h : fx_H) : Int × Int × Int × Int → Option ((Int × Int × Int × Int) ⊕ (Int × Int × Int × Int)) := fun (sum_18, all_19, ways_20, j_21) =>
  if j_21 ≤ n_22 then
    Option.bind (
      if j_21 < k_24 then
        some (0 : Int)
      else
        some ways_20
    ) fun v27 =>
    Option.bind (fx_loop (s_X6_crowd_2 Fu Λ n_22 m_23 h) Fu (v27, j_21)) fun (v_41, i_42) =>
    (fx_dvl (fx_wl (ways_20 * (fx_w (n_22 - j_21)))) (fx_w (j_21 + 1))).bind fun v45 =>
    Option.bind (
      if j_21 < n_22 then
        some m_23
      else
        some (1 : Int)
    ) fun v47 =>
    some (.inl ((fx_wl (sum_18 + v_41)), (fx_wl (all_19 * v47)), v45, (fx_w (j_21 + 1))))
  else
    some (.inr (sum_18, all_19, ways_20, j_21))
def s_X6_crowd_3 (Fu : Nat) (Λ : fx_L) (h : fx_H) : Int × Int → Option ((Int × Int) ⊕ (Int × Int)) := fun (a_87, b_88) =>
  if ¬ b_88 = 0 then
    (fx_rml a_87 b_88).bind fun v91 =>
    some (.inl (b_88, v91))
  else
    some (.inr (a_87, b_88))
def f_X6_crowd (Fu : Nat) (Λ : fx_L) (this_0 : Int) (n_0 : Int) (m_0 : Int) (k_0 : Int) (h : fx_H) : Option (Int × fx_H) :=
  Option.bind (
    (f_X6_in Fu Λ n_0 1 18 h).bind fun v5 =>
    if v5 = 0 then
      some true
    else
      (f_X6_in Fu Λ m_0 1 9 h).bind fun v8 =>
      if v8 = 0 then
        some true
      else
        (f_X6_in Fu Λ k_0 0 n_0 h).bind fun v11 =>
        if v11 = 0 then
          some true
        else
          some false
  ) fun b1 =>
  if b1 = true then
    (f_X6_bad Fu Λ this_0 (-2) h).bind fun (v15, h16) =>
    some (v15, h16)
  else
    Option.bind (fx_loop (s_X6_crowd_1 Fu Λ n_0 m_0 k_0 h) Fu (0, 1, 1, 0)) fun (sum_81, all_82, ways_83, j_84) =>
    Option.bind (fx_loop (s_X6_crowd_3 Fu Λ h) Fu (sum_81, all_82)) fun (a_99, b_100) =>
    (fx_dvl sum_81 a_99).bind fun v103 =>
    (fx_dvl all_82 a_99).bind fun v105 =>
    some (1, (fx_up (fx_up h this_0 1000004 v103) this_0 1000005 v105))
abbrev rm_X6_crowd : Room := { frames := 1, cells := 0, slots := 0, locals := 25 }
set_option maxRecDepth 100000 in
set_option maxHeartbeats 4000000 in
theorem m_X6_crowd (Fu : Nat) (Λ : fx_L) (this_0 : Int) (n_0 : Int) (m_0 : Int) (k_0 : Int) (h : fx_H) (r : Int) (ho : fx_H) (hf : f_X6_crowd Fu Λ this_0 n_0 m_0 k_0 h = some (r, ho)) : fx_Met yX6_crowd cX6_crowd 16 (some .int) rm_X6_crowd Λ [(8, this_0), (0, n_0), (0, m_0), (0, k_0)] h (some (0, r)) ho := by
  unfold f_X6_crowd at hf
  refine fx_enter (ls := [some (8, this_0), some (0, n_0), some (0, m_0), some (0, k_0), none, none, none, none, none, none, none, none, none, none, none, none]) (by decide) (Nat.le_of_ble_eq_true rfl) rfl (fun M G F K => ?_)
  obtain ⟨b1, e2, hf⟩ := fx_bnd hf
  have hT3 : b1 = true → fx_J M G Λ 16 35 [some (8, this_0), some (0, n_0), some (0, m_0), some (0, k_0), none, none, none, none, none, none, none, none, none, none, none, none] [] h := fun c14 => by
    have hf := (if_pos c14).symm.trans hf
    refine fx_aload_n (pc := 35) (t := 6) F 0 rfl rfl dX6_crowd_35 ?_
    refine fx_bipush (pc := 36) F ⟨by decide, by decide⟩ (by decide) dX6_crowd_36 ?_
    obtain ⟨⟨v15, h16⟩, e17, hf⟩ := fx_bnd hf
    refine fx_cV (pc := 38) F 6 kC_X6 [(0, (-2))] this_0 [] (m_X6_bad Fu Λ this_0 (-2) h _ _ e17) kD_X6_bad kI_X6_bad rfl wM_X6_88 ⟨rfl, rfl⟩ ⟨by decide, by decide⟩ (Nat.le_of_ble_eq_true rfl) rfl dX6_crowd_38 ?_
    cases hf
    exact fx_ireturn (pc := 41) F K dX6_crowd_41
  have hF4 : ¬ b1 = true → fx_J M G Λ 16 42 [some (8, this_0), some (0, n_0), some (0, m_0), some (0, k_0), none, none, none, none, none, none, none, none, none, none, none, none] [] h := fun c14 => by
    have hf := (if_neg c14).symm.trans hf
    refine fx_lconst (pc := 42) (z := 0) F rfl ⟨by decide, by decide⟩ (by decide) dX6_crowd_42 ?_
    refine fx_lstore (pc := 43) (ls' := [some (8, this_0), some (0, n_0), some (0, m_0), some (0, k_0), some (1, 0), none, none, none, none, none, none, none, none, none, none, none]) F (by decide) rfl rfl dX6_crowd_43 ?_
    refine fx_lconst (pc := 45) (z := 1) F rfl ⟨by decide, by decide⟩ (by decide) dX6_crowd_45 ?_
    refine fx_lstore (pc := 46) (ls' := [some (8, this_0), some (0, n_0), some (0, m_0), some (0, k_0), some (1, 0), none, some (1, 1), none, none, none, none, none, none, none, none, none]) F (by decide) rfl rfl dX6_crowd_46 ?_
    refine fx_lconst (pc := 48) (z := 1) F rfl ⟨by decide, by decide⟩ (by decide) dX6_crowd_48 ?_
    refine fx_lstore (pc := 49) (ls' := [some (8, this_0), some (0, n_0), some (0, m_0), some (0, k_0), some (1, 0), none, some (1, 1), none, some (1, 1), none, none, none, none, none, none, none]) F (by decide) rfl rfl dX6_crowd_49 ?_
    refine fx_iconst (pc := 51) F ⟨by decide, by decide⟩ dX6_crowd_51 ?_
    refine fx_istore (pc := 52) (ls' := [some (8, this_0), some (0, n_0), some (0, m_0), some (0, k_0), some (1, 0), none, some (1, 1), none, some (1, 1), none, some (0, 0), none, none, none, none, none]) F (by decide) rfl rfl dX6_crowd_52 ?_
    obtain ⟨⟨sum_81, all_82, ways_83, j_84⟩, e85, hf⟩ := fx_bnd hf
    have hE86 : fx_J M G Λ 16 145 [some (8, this_0), some (0, n_0), some (0, m_0), some (0, k_0), some (1, sum_81), none, some (1, all_82), none, some (1, ways_83), none, some (0, j_84), none, none, none, none, none] [] h := by
      refine fx_lload (pc := 145) F rfl dX6_crowd_145 ?_
      refine fx_lstore (pc := 147) (ls' := [some (8, this_0), some (0, n_0), some (0, m_0), some (0, k_0), some (1, sum_81), none, some (1, all_82), none, some (1, ways_83), none, some (1, sum_81), none, none, none, none, none]) F (by decide) rfl rfl dX6_crowd_147 ?_
      refine fx_lload (pc := 149) F rfl dX6_crowd_149 ?_
      refine fx_lstore (pc := 151) (ls' := [some (8, this_0), some (0, n_0), some (0, m_0), some (0, k_0), some (1, sum_81), none, some (1, all_82), none, some (1, ways_83), none, some (1, sum_81), none, some (1, all_82), none, none, none]) F (by decide) rfl rfl dX6_crowd_151 ?_
      obtain ⟨⟨a_99, b_100⟩, e101, hf⟩ := fx_bnd hf
      have hE102 : fx_J M G Λ 16 178 [some (8, this_0), some (0, n_0), some (0, m_0), some (0, k_0), some (1, sum_81), none, some (1, all_82), none, some (1, ways_83), none, some (1, a_99), none, some (1, b_100), none, none, none] [] h := by
        refine fx_aload_n (pc := 178) (t := 6) F 0 rfl rfl dX6_crowd_178 ?_
        refine fx_lload (pc := 179) F rfl dX6_crowd_179 ?_
        refine fx_lload (pc := 181) F rfl dX6_crowd_181 ?_
        obtain ⟨v103, e104, hf⟩ := fx_bnd hf
        refine fx_rldiv (pc := 183) F e104 dX6_crowd_183 ?_
        refine fx_pL (pc := 184) F 6 4 1000004 rfl kC_X6 rfl rfl (by decide +kernel) wF_X6_197 dX6_crowd_184 ?_
        refine fx_aload_n (pc := 187) (t := 6) F 0 rfl rfl dX6_crowd_187 ?_
        refine fx_lload (pc := 188) F rfl dX6_crowd_188 ?_
        refine fx_lload (pc := 190) F rfl dX6_crowd_190 ?_
        obtain ⟨v105, e106, hf⟩ := fx_bnd hf
        refine fx_rldiv (pc := 192) F e106 dX6_crowd_192 ?_
        refine fx_pL (pc := 193) F 6 5 1000005 rfl kC_X6 rfl rfl (by decide +kernel) wF_X6_23 dX6_crowd_193 ?_
        refine fx_iconst (pc := 196) F ⟨by decide, by decide⟩ dX6_crowd_196 ?_
        cases hf
        exact fx_ireturn (pc := 197) F K dX6_crowd_197
      refine fx_loop_J (Hd := (fun z : Int × Int => fx_J M G Λ 16 153 [some (8, this_0), some (0, n_0), some (0, m_0), some (0, k_0), some (1, sum_81), none, some (1, all_82), none, some (1, ways_83), none, some (1, z.1), none, some (1, z.2), none, none, none] [] h)) (Ex := (fun z : Int × Int => fx_J M G Λ 16 178 [some (8, this_0), some (0, n_0), some (0, m_0), some (0, k_0), some (1, sum_81), none, some (1, all_82), none, some (1, ways_83), none, some (1, z.1), none, some (1, z.2), none, none, none] [] h)) ?_ Fu _ _ e101 hE102
      rintro ⟨a_93, b_94⟩ o9 eq95 ih ex
      unfold s_X6_crowd_3 at eq95
      show fx_J M G Λ 16 153 [some (8, this_0), some (0, n_0), some (0, m_0), some (0, k_0), some (1, sum_81), none, some (1, all_82), none, some (1, ways_83), none, some (1, a_93), none, some (1, b_94), none, none, none] [] h
      refine fx_lload (pc := 153) F rfl dX6_crowd_153 ?_
      refine fx_lconst (pc := 155) (z := 0) F rfl ⟨by decide, by decide⟩ (by decide) dX6_crowd_155 ?_
      refine fx_nlne (pc := 156) F 178 (by decide) dX6_crowd_156 dX6_crowd_157 (fun c96 => ?_) (fun c96 => ?_)
      · have eq95 := (if_pos c96).symm.trans eq95
        refine fx_lload (pc := 160) F rfl dX6_crowd_160 ?_
        refine fx_lload (pc := 162) F rfl dX6_crowd_162 ?_
        obtain ⟨v97, e98, eq95⟩ := fx_bnd eq95
        refine fx_rlrem (pc := 164) F e98 dX6_crowd_164 ?_
        refine fx_lstore (pc := 165) (ls' := [some (8, this_0), some (0, n_0), some (0, m_0), some (0, k_0), some (1, sum_81), none, some (1, all_82), none, some (1, ways_83), none, some (1, a_93), none, some (1, b_94), none, some (1, v97), none]) F (by decide) rfl rfl dX6_crowd_165 ?_
        refine fx_lload (pc := 167) F rfl dX6_crowd_167 ?_
        refine fx_lstore (pc := 169) (ls' := [some (8, this_0), some (0, n_0), some (0, m_0), some (0, k_0), some (1, sum_81), none, some (1, all_82), none, some (1, ways_83), none, some (1, b_94), none, some (1, b_94), none, some (1, v97), none]) F (by decide) rfl rfl dX6_crowd_169 ?_
        refine fx_lload (pc := 171) F rfl dX6_crowd_171 ?_
        refine fx_lstore (pc := 173) (ls' := [some (8, this_0), some (0, n_0), some (0, m_0), some (0, k_0), some (1, sum_81), none, some (1, all_82), none, some (1, ways_83), none, some (1, b_94), none, some (1, v97), none, some (1, v97), none]) F (by decide) rfl rfl dX6_crowd_173 ?_
        refine fx_goto (pc := 175) F 153 (by decide) dX6_crowd_175 ?_
        cases eq95
        refine fx_drop (ls' := [some (8, this_0), some (0, n_0), some (0, m_0), some (0, k_0), some (1, sum_81), none, some (1, all_82), none, some (1, ways_83), none, some (1, b_94), none, some (1, v97), none, none, none]) ⟨rfl, rfl, rfl, rfl, rfl, rfl, rfl, rfl, rfl, trivial⟩ ?_
        exact ih _ rfl
      · have eq95 := (if_neg c96).symm.trans eq95
        cases eq95
        exact ex _ rfl
    refine fx_loop_J (Hd := (fun z : Int × Int × Int × Int => fx_J M G Λ 16 54 [some (8, this_0), some (0, n_0), some (0, m_0), some (0, k_0), some (1, z.1), none, some (1, z.2.1), none, some (1, z.2.2.1), none, some (0, z.2.2.2), none, none, none, none, none] [] h)) (Ex := (fun z : Int × Int × Int × Int => fx_J M G Λ 16 145 [some (8, this_0), some (0, n_0), some (0, m_0), some (0, k_0), some (1, z.1), none, some (1, z.2.1), none, some (1, z.2.2.1), none, some (0, z.2.2.2), none, none, none, none, none] [] h)) ?_ Fu _ _ e85 hE86
    rintro ⟨sum_51, all_52, ways_53, j_54⟩ o9 eq55 ih ex
    unfold s_X6_crowd_1 at eq55
    show fx_J M G Λ 16 54 [some (8, this_0), some (0, n_0), some (0, m_0), some (0, k_0), some (1, sum_51), none, some (1, all_52), none, some (1, ways_53), none, some (0, j_54), none, none, none, none, none] [] h
    refine fx_iload (pc := 54) F rfl dX6_crowd_54 ?_
    refine fx_iload_n (pc := 56) F 1 rfl rfl dX6_crowd_56 ?_
    refine fx_nle (pc := 57) F 145 (by decide) dX6_crowd_57 (fun c56 => ?_) (fun c56 => ?_)
    · have eq55 := (if_pos c56).symm.trans eq55
      obtain ⟨v57, e58, eq55⟩ := fx_bnd eq55
      have hJ59 : fx_J M G Λ 16 72 [some (8, this_0), some (0, n_0), some (0, m_0), some (0, k_0), some (1, sum_51), none, some (1, all_52), none, some (1, ways_53), none, some (0, j_54), none, none, none, none, none] [(1, v57)] h := by
        refine fx_lstore (pc := 72) (ls' := [some (8, this_0), some (0, n_0), some (0, m_0), some (0, k_0), some (1, sum_51), none, some (1, all_52), none, some (1, ways_53), none, some (0, j_54), some (1, v57), none, none, none, none]) F (by decide) rfl rfl dX6_crowd_72 ?_
        refine fx_iload (pc := 74) F rfl dX6_crowd_74 ?_
        refine fx_istore (pc := 76) (ls' := [some (8, this_0), some (0, n_0), some (0, m_0), some (0, k_0), some (1, sum_51), none, some (1, all_52), none, some (1, ways_53), none, some (0, j_54), some (1, v57), none, some (0, j_54), none, none]) F (by decide) rfl rfl dX6_crowd_76 ?_
        obtain ⟨⟨v_71, i_72⟩, e73, eq55⟩ := fx_bnd eq55
        have hE74 : fx_J M G Λ 16 99 [some (8, this_0), some (0, n_0), some (0, m_0), some (0, k_0), some (1, sum_51), none, some (1, all_52), none, some (1, ways_53), none, some (0, j_54), some (1, v_71), none, some (0, i_72), none, none] [] h := by
          refine fx_lload (pc := 99) F rfl dX6_crowd_99 ?_
          refine fx_lload (pc := 101) F rfl dX6_crowd_101 ?_
          refine fx_ladd (pc := 103) F dX6_crowd_103 ?_
          refine fx_lstore (pc := 104) (ls' := [some (8, this_0), some (0, n_0), some (0, m_0), some (0, k_0), some (1, (fx_wl (sum_51 + v_71))), none, some (1, all_52), none, some (1, ways_53), none, some (0, j_54), some (1, v_71), none, some (0, i_72), none, none]) F (by decide) rfl rfl dX6_crowd_104 ?_
          refine fx_lload (pc := 106) F rfl dX6_crowd_106 ?_
          refine fx_iload_n (pc := 108) F 1 rfl rfl dX6_crowd_108 ?_
          refine fx_iload (pc := 109) F rfl dX6_crowd_109 ?_
          refine fx_isub (pc := 111) F dX6_crowd_111 ?_
          refine fx_ri2l (pc := 112) F dX6_crowd_112 ?_
          refine fx_lmul (pc := 113) F dX6_crowd_113 ?_
          refine fx_iload (pc := 114) F rfl dX6_crowd_114 ?_
          refine fx_iconst (pc := 116) F ⟨by decide, by decide⟩ dX6_crowd_116 ?_
          refine fx_iadd (pc := 117) F dX6_crowd_117 ?_
          refine fx_ri2l (pc := 118) F dX6_crowd_118 ?_
          obtain ⟨v75, e76, eq55⟩ := fx_bnd eq55
          refine fx_rldiv (pc := 119) F e76 dX6_crowd_119 ?_
          refine fx_lstore (pc := 120) (ls' := [some (8, this_0), some (0, n_0), some (0, m_0), some (0, k_0), some (1, (fx_wl (sum_51 + v_71))), none, some (1, all_52), none, some (1, v75), none, some (0, j_54), some (1, v_71), none, some (0, i_72), none, none]) F (by decide) rfl rfl dX6_crowd_120 ?_
          refine fx_lload (pc := 122) F rfl dX6_crowd_122 ?_
          obtain ⟨v77, e78, eq55⟩ := fx_bnd eq55
          have hJ79 : fx_J M G Λ 16 136 [some (8, this_0), some (0, n_0), some (0, m_0), some (0, k_0), some (1, (fx_wl (sum_51 + v_71))), none, some (1, all_52), none, some (1, v75), none, some (0, j_54), some (1, v_71), none, some (0, i_72), none, none] [(1, v77), (1, all_52)] h := by
            refine fx_lmul (pc := 136) F dX6_crowd_136 ?_
            refine fx_lstore (pc := 137) (ls' := [some (8, this_0), some (0, n_0), some (0, m_0), some (0, k_0), some (1, (fx_wl (sum_51 + v_71))), none, some (1, (fx_wl (all_52 * v77))), none, some (1, v75), none, some (0, j_54), some (1, v_71), none, some (0, i_72), none, none]) F (by decide) rfl rfl dX6_crowd_137 ?_
            refine fx_iinc (pc := 139) (ls' := [some (8, this_0), some (0, n_0), some (0, m_0), some (0, k_0), some (1, (fx_wl (sum_51 + v_71))), none, some (1, (fx_wl (all_52 * v77))), none, some (1, v75), none, some (0, (fx_w (j_54 + 1))), some (1, v_71), none, some (0, i_72), none, none]) F (by decide) rfl rfl rfl dX6_crowd_139 ?_
            refine fx_goto (pc := 142) F 54 (by decide) dX6_crowd_142 ?_
            cases eq55
            refine fx_drop (ls' := [some (8, this_0), some (0, n_0), some (0, m_0), some (0, k_0), some (1, (fx_wl (sum_51 + v_71))), none, some (1, (fx_wl (all_52 * v77))), none, some (1, v75), none, some (0, (fx_w (j_54 + 1))), none, none, none, none, none]) ⟨rfl, rfl, rfl, rfl, rfl, rfl, rfl, rfl, trivial⟩ ?_
            exact ih _ rfl
          refine fx_iload (pc := 124) F rfl dX6_crowd_124 ?_
          refine fx_iload_n (pc := 126) F 1 rfl rfl dX6_crowd_126 ?_
          refine fx_nlt (pc := 127) F 135 (by decide) dX6_crowd_127 (fun c80 => ?_) (fun c80 => ?_)
          · have e78 := (if_pos c80).symm.trans e78
            refine fx_iload_n (pc := 130) F 2 rfl rfl dX6_crowd_130 ?_
            refine fx_ri2l (pc := 131) F dX6_crowd_131 ?_
            cases e78
            refine fx_goto (pc := 132) F 136 (by decide) dX6_crowd_132 ?_
            exact hJ79
          · have e78 := (if_neg c80).symm.trans e78
            refine fx_lconst (pc := 135) (z := 1) F rfl ⟨by decide, by decide⟩ (by decide) dX6_crowd_135 ?_
            cases e78
            exact hJ79
        refine fx_loop_J (Hd := (fun z : Int × Int => fx_J M G Λ 16 78 [some (8, this_0), some (0, n_0), some (0, m_0), some (0, k_0), some (1, sum_51), none, some (1, all_52), none, some (1, ways_53), none, some (0, j_54), some (1, z.1), none, some (0, z.2), none, none] [] h)) (Ex := (fun z : Int × Int => fx_J M G Λ 16 99 [some (8, this_0), some (0, n_0), some (0, m_0), some (0, k_0), some (1, sum_51), none, some (1, all_52), none, some (1, ways_53), none, some (0, j_54), some (1, z.1), none, some (0, z.2), none, none] [] h)) ?_ Fu _ _ e73 hE74
        rintro ⟨v_67, i_68⟩ o9 eq69 ih ex
        unfold s_X6_crowd_2 at eq69
        show fx_J M G Λ 16 78 [some (8, this_0), some (0, n_0), some (0, m_0), some (0, k_0), some (1, sum_51), none, some (1, all_52), none, some (1, ways_53), none, some (0, j_54), some (1, v_67), none, some (0, i_68), none, none] [] h
        refine fx_iload (pc := 78) F rfl dX6_crowd_78 ?_
        refine fx_iload_n (pc := 80) F 1 rfl rfl dX6_crowd_80 ?_
        refine fx_nlt (pc := 81) F 99 (by decide) dX6_crowd_81 (fun c70 => ?_) (fun c70 => ?_)
        · have eq69 := (if_pos c70).symm.trans eq69
          refine fx_lload (pc := 84) F rfl dX6_crowd_84 ?_
          refine fx_iload_n (pc := 86) F 2 rfl rfl dX6_crowd_86 ?_
          refine fx_iconst (pc := 87) F ⟨by decide, by decide⟩ dX6_crowd_87 ?_
          refine fx_isub (pc := 88) F dX6_crowd_88 ?_
          refine fx_ri2l (pc := 89) F dX6_crowd_89 ?_
          refine fx_lmul (pc := 90) F dX6_crowd_90 ?_
          refine fx_lstore (pc := 91) (ls' := [some (8, this_0), some (0, n_0), some (0, m_0), some (0, k_0), some (1, sum_51), none, some (1, all_52), none, some (1, ways_53), none, some (0, j_54), some (1, (fx_wl (v_67 * (fx_w (m_0 - 1))))), none, some (0, i_68), none, none]) F (by decide) rfl rfl dX6_crowd_91 ?_
          refine fx_iinc (pc := 93) (ls' := [some (8, this_0), some (0, n_0), some (0, m_0), some (0, k_0), some (1, sum_51), none, some (1, all_52), none, some (1, ways_53), none, some (0, j_54), some (1, (fx_wl (v_67 * (fx_w (m_0 - 1))))), none, some (0, (fx_w (i_68 + 1))), none, none]) F (by decide) rfl rfl rfl dX6_crowd_93 ?_
          refine fx_goto (pc := 96) F 78 (by decide) dX6_crowd_96 ?_
          cases eq69
          exact ih _ rfl
        · have eq69 := (if_neg c70).symm.trans eq69
          cases eq69
          exact ex _ rfl
      refine fx_iload (pc := 60) F rfl dX6_crowd_60 ?_
      refine fx_iload_n (pc := 62) F 3 rfl rfl dX6_crowd_62 ?_
      refine fx_nlt (pc := 63) F 70 (by decide) dX6_crowd_63 (fun c60 => ?_) (fun c60 => ?_)
      · have e58 := (if_pos c60).symm.trans e58
        refine fx_lconst (pc := 66) (z := 0) F rfl ⟨by decide, by decide⟩ (by decide) dX6_crowd_66 ?_
        cases e58
        refine fx_goto (pc := 67) F 72 (by decide) dX6_crowd_67 ?_
        exact hJ59
      · have e58 := (if_neg c60).symm.trans e58
        refine fx_lload (pc := 70) F rfl dX6_crowd_70 ?_
        cases e58
        exact hJ59
    · have eq55 := (if_neg c56).symm.trans eq55
      cases eq55
      exact ex _ rfl
  refine fx_iload_n (pc := 0) F 1 rfl rfl dX6_crowd_0 ?_
  refine fx_ri2l (pc := 1) F dX6_crowd_1 ?_
  refine fx_lconst (pc := 2) (z := 1) F rfl ⟨by decide, by decide⟩ (by decide) dX6_crowd_2 ?_
  refine fx_ldc2 (pc := 3) (z := 18) F (by decide) ⟨by decide, by decide⟩ wK_X6_193 dX6_crowd_3 ?_
  obtain ⟨v5, e6, e2⟩ := fx_bnd e2
  refine fx_cS (pc := 6) F [(1, n_0), (1, 1), (1, 18)] [] (m_X6_in Fu Λ n_0 1 18 h _ e6) kD_X6_in wSt_X6_in wM_X6_74 ⟨rfl, rfl⟩ ⟨by decide, by decide⟩ (Nat.le_of_ble_eq_true rfl) rfl dX6_crowd_6 ?_
  refine fx_jzeq (pc := 9) F 35 (by decide) dX6_crowd_9 (fun c7 => ?_) (fun c7 => ?_)
  · have e2 := (if_pos c7).symm.trans e2
    cases e2
    exact hT3 (by decide)
  · have e2 := (if_neg c7).symm.trans e2
    refine fx_iload_n (pc := 12) F 2 rfl rfl dX6_crowd_12 ?_
    refine fx_ri2l (pc := 13) F dX6_crowd_13 ?_
    refine fx_lconst (pc := 14) (z := 1) F rfl ⟨by decide, by decide⟩ (by decide) dX6_crowd_14 ?_
    refine fx_ldc2 (pc := 15) (z := 9) F (by decide) ⟨by decide, by decide⟩ wK_X6_195 dX6_crowd_15 ?_
    obtain ⟨v8, e9, e2⟩ := fx_bnd e2
    refine fx_cS (pc := 18) F [(1, m_0), (1, 1), (1, 9)] [] (m_X6_in Fu Λ m_0 1 9 h _ e9) kD_X6_in wSt_X6_in wM_X6_74 ⟨rfl, rfl⟩ ⟨by decide, by decide⟩ (Nat.le_of_ble_eq_true rfl) rfl dX6_crowd_18 ?_
    refine fx_jzeq (pc := 21) F 35 (by decide) dX6_crowd_21 (fun c10 => ?_) (fun c10 => ?_)
    · have e2 := (if_pos c10).symm.trans e2
      cases e2
      exact hT3 (by decide)
    · have e2 := (if_neg c10).symm.trans e2
      refine fx_iload_n (pc := 24) F 3 rfl rfl dX6_crowd_24 ?_
      refine fx_ri2l (pc := 25) F dX6_crowd_25 ?_
      refine fx_lconst (pc := 26) (z := 0) F rfl ⟨by decide, by decide⟩ (by decide) dX6_crowd_26 ?_
      refine fx_iload_n (pc := 27) F 1 rfl rfl dX6_crowd_27 ?_
      refine fx_ri2l (pc := 28) F dX6_crowd_28 ?_
      obtain ⟨v11, e12, e2⟩ := fx_bnd e2
      refine fx_cS (pc := 29) F [(1, k_0), (1, 0), (1, n_0)] [] (m_X6_in Fu Λ k_0 0 n_0 h _ e12) kD_X6_in wSt_X6_in wM_X6_74 ⟨rfl, rfl⟩ ⟨by decide, by decide⟩ (Nat.le_of_ble_eq_true rfl) rfl dX6_crowd_29 ?_
      refine fx_nzeq (pc := 32) F 42 (by decide) dX6_crowd_32 (fun c13 => ?_) (fun c13 => ?_)
      · have e2 := (if_pos c13).symm.trans e2
        cases e2
        exact hT3 (by decide)
      · have e2 := (if_neg c13).symm.trans e2
        cases e2
        exact hF4 (by decide)
def s_X6_type_1 (Fu : Nat) (Λ : fx_L) (this_13 : Int) (v_14 : Int) : Int × fx_H → Option ((Int × fx_H) ⊕ (Int × fx_H)) := fun (k_11, h12) =>
  if 0 ≤ k_11 then
    (fx_wr Λ h12 (fx_tg Λ this_13 16) (h12 this_13 17) (fx_w (fx_land (fx_lushr v_14 (fx_w (8 * k_11))) 255))).bind fun h17 =>
    some (.inl ((fx_w (k_11 + (-1))), (fx_up h17 this_13 17 (fx_w ((h17 this_13 17) + 1)))))
  else
    some (.inr (k_11, h12))
def f_X6_type (Fu : Nat) (Λ : fx_L) (this_0 : Int) (v_0 : Int) (n_0 : Int) (h : fx_H) : Option (Int × fx_H) :=
  (f_X6_in Fu Λ n_0 1 8 h).bind fun v1 =>
  if v1 = 0 then
    (f_X6_bad Fu Λ this_0 (-2) h).bind fun (v4, h5) =>
    some (v4, h5)
  else
    if 250 < (fx_w ((h this_0 17) + n_0)) then
      (f_X6_full Fu Λ this_0 h).bind fun (v8, h9) =>
      some (v8, h9)
    else
      Option.bind (fx_loop (s_X6_type_1 Fu Λ this_0 v_0) Fu ((fx_w (n_0 - 1)), h)) fun (k_25, h26) =>
      some ((h26 this_0 17), h26)
abbrev rm_X6_type : Room := { frames := 1, cells := 0, slots := 0, locals := 25 }
set_option maxRecDepth 100000 in
set_option maxHeartbeats 4000000 in
theorem m_X6_type (Fu : Nat) (Λ : fx_L) (this_0 : Int) (v_0 : Int) (n_0 : Int) (h : fx_H) (r : Int) (ho : fx_H) (hf : f_X6_type Fu Λ this_0 v_0 n_0 h = some (r, ho)) : fx_Met yX6_type cX6_type 5 (some .int) rm_X6_type Λ [(8, this_0), (1, v_0), (0, n_0)] h (some (0, r)) ho := by
  unfold f_X6_type at hf
  refine fx_enter (ls := [some (8, this_0), some (1, v_0), none, some (0, n_0), none]) (by decide) (Nat.le_of_ble_eq_true rfl) rfl (fun M G F K => ?_)
  refine fx_iload_n (pc := 0) F 3 rfl rfl dX6_type_0 ?_
  refine fx_ri2l (pc := 1) F dX6_type_1 ?_
  refine fx_lconst (pc := 2) (z := 1) F rfl ⟨by decide, by decide⟩ (by decide) dX6_type_2 ?_
  refine fx_ldc2 (pc := 3) (z := 8) F (by decide) ⟨by decide, by decide⟩ wK_X6_200 dX6_type_3 ?_
  obtain ⟨v1, e2, hf⟩ := fx_bnd hf
  refine fx_cS (pc := 6) F [(1, n_0), (1, 1), (1, 8)] [] (m_X6_in Fu Λ n_0 1 8 h _ e2) kD_X6_in wSt_X6_in wM_X6_74 ⟨rfl, rfl⟩ ⟨by decide, by decide⟩ (Nat.le_of_ble_eq_true rfl) rfl dX6_type_6 ?_
  refine fx_nzeq (pc := 9) F 19 (by decide) dX6_type_9 (fun c3 => ?_) (fun c3 => ?_)
  · have hf := (if_pos c3).symm.trans hf
    refine fx_aload_n (pc := 12) (t := 6) F 0 rfl rfl dX6_type_12 ?_
    refine fx_bipush (pc := 13) F ⟨by decide, by decide⟩ (by decide) dX6_type_13 ?_
    obtain ⟨⟨v4, h5⟩, e6, hf⟩ := fx_bnd hf
    refine fx_cV (pc := 15) F 6 kC_X6 [(0, (-2))] this_0 [] (m_X6_bad Fu Λ this_0 (-2) h _ _ e6) kD_X6_bad kI_X6_bad rfl wM_X6_88 ⟨rfl, rfl⟩ ⟨by decide, by decide⟩ (Nat.le_of_ble_eq_true rfl) rfl dX6_type_15 ?_
    cases hf
    exact fx_ireturn (pc := 18) F K dX6_type_18
  · have hf := (if_neg c3).symm.trans hf
    refine fx_aload_n (pc := 19) (t := 6) F 0 rfl rfl dX6_type_19 ?_
    refine fx_gI (pc := 20) F 6 17 17 rfl kC_X6 rfl wF_X6_202 dX6_type_20 ?_
    refine fx_iload_n (pc := 23) F 3 rfl rfl dX6_type_23 ?_
    refine fx_iadd (pc := 24) F dX6_type_24 ?_
    refine fx_sipush (pc := 25) F ⟨by decide, by decide⟩ (by decide) dX6_type_25 ?_
    refine fx_ngt (pc := 28) F 36 (by decide) dX6_type_28 (fun c7 => ?_) (fun c7 => ?_)
    · have hf := (if_pos c7).symm.trans hf
      refine fx_aload_n (pc := 31) (t := 6) F 0 rfl rfl dX6_type_31 ?_
      obtain ⟨⟨v8, h9⟩, e10, hf⟩ := fx_bnd hf
      refine fx_cV (pc := 32) F 6 kC_X6 [] this_0 [] (m_X6_full Fu Λ this_0 h _ _ e10) kD_X6_full kI_X6_full rfl wM_X6_92 ⟨rfl, rfl⟩ ⟨by decide, by decide⟩ (Nat.le_of_ble_eq_true rfl) rfl dX6_type_32 ?_
      cases hf
      exact fx_ireturn (pc := 35) F K dX6_type_35
    · have hf := (if_neg c7).symm.trans hf
      refine fx_iload_n (pc := 36) F 3 rfl rfl dX6_type_36 ?_
      refine fx_iconst (pc := 37) F ⟨by decide, by decide⟩ dX6_type_37 ?_
      refine fx_isub (pc := 38) F dX6_type_38 ?_
      refine fx_istore (pc := 39) (ls' := [some (8, this_0), some (1, v_0), none, some (0, n_0), some (0, (fx_w (n_0 - 1)))]) F (by decide) rfl rfl dX6_type_39 ?_
      obtain ⟨⟨k_25, h26⟩, e27, hf⟩ := fx_bnd hf
      have hE28 : fx_J M G Λ 5 83 [some (8, this_0), some (1, v_0), none, some (0, n_0), some (0, k_25)] [] h26 := by
        refine fx_aload_n (pc := 83) (t := 6) F 0 rfl rfl dX6_type_83 ?_
        refine fx_gI (pc := 84) F 6 17 17 rfl kC_X6 rfl wF_X6_202 dX6_type_84 ?_
        cases hf
        exact fx_ireturn (pc := 87) F K dX6_type_87
      refine fx_loop_J (Hd := (fun z : Int × fx_H => fx_J M G Λ 5 41 [some (8, this_0), some (1, v_0), none, some (0, n_0), some (0, z.1)] [] z.2)) (Ex := (fun z : Int × fx_H => fx_J M G Λ 5 83 [some (8, this_0), some (1, v_0), none, some (0, n_0), some (0, z.1)] [] z.2)) ?_ Fu _ _ e27 hE28
      rintro ⟨k_19, h20⟩ o9 eq21 ih ex
      unfold s_X6_type_1 at eq21
      show fx_J M G Λ 5 41 [some (8, this_0), some (1, v_0), none, some (0, n_0), some (0, k_19)] [] h20
      refine fx_iload (pc := 41) F rfl dX6_type_41 ?_
      refine fx_nzge (pc := 43) F 83 (by decide) dX6_type_43 (fun c22 => ?_) (fun c22 => ?_)
      · have eq21 := (if_pos c22).symm.trans eq21
        refine fx_aload_n (pc := 46) (t := 6) F 0 rfl rfl dX6_type_46 ?_
        refine fx_gR (pc := 47) F 6 16 16 8 rfl kC_X6 (by decide) rfl wF_X6_57 dX6_type_47 ?_
        refine fx_aload_n (pc := 50) (t := 6) F 0 rfl rfl dX6_type_50 ?_
        refine fx_gI (pc := 51) F 6 17 17 rfl kC_X6 rfl wF_X6_202 dX6_type_51 ?_
        refine fx_lload_n (pc := 54) F 1 rfl rfl dX6_type_54 ?_
        refine fx_bipush (pc := 55) F ⟨by decide, by decide⟩ (by decide) dX6_type_55 ?_
        refine fx_iload (pc := 57) F rfl dX6_type_57 ?_
        refine fx_imul (pc := 59) F dX6_type_59 ?_
        refine fx_rlushr (pc := 60) F dX6_type_60 ?_
        refine fx_ldc2 (pc := 61) (z := 255) F (by decide) ⟨by decide, by decide⟩ wK_X6_206 dX6_type_61 ?_
        refine fx_rland (pc := 64) F dX6_type_64 ?_
        refine fx_rl2i (pc := 65) F dX6_type_65 ?_
        obtain ⟨h23, e24, eq21⟩ := fx_bnd eq21
        refine fx_rastI (pc := 66) F e24 dX6_type_66 ?_
        refine fx_aload_n (pc := 67) (t := 6) F 0 rfl rfl dX6_type_67 ?_
        refine fx_dup (pc := 68) F (show (8 : Nat) ≠ 1 by decide) dX6_type_68 ?_
        refine fx_gI (pc := 69) F 6 17 17 rfl kC_X6 rfl wF_X6_202 dX6_type_69 ?_
        refine fx_iconst (pc := 72) F ⟨by decide, by decide⟩ dX6_type_72 ?_
        refine fx_iadd (pc := 73) F dX6_type_73 ?_
        refine fx_pI (pc := 74) F 6 17 17 rfl kC_X6 rfl rfl (by decide +kernel) wF_X6_202 dX6_type_74 ?_
        refine fx_iinc (pc := 77) (ls' := [some (8, this_0), some (1, v_0), none, some (0, n_0), some (0, (fx_w (k_19 + (-1))))]) F (by decide) rfl rfl rfl dX6_type_77 ?_
        refine fx_goto (pc := 80) F 41 (by decide) dX6_type_80 ?_
        cases eq21
        exact ih _ rfl
      · have eq21 := (if_neg c22).symm.trans eq21
        cases eq21
        exact ex _ rfl
def f_X6_clear (Fu : Nat) (Λ : fx_L) (this_0 : Int) (h : fx_H) : Option (Int × fx_H) :=
  some ((h this_0 17), (fx_up h this_0 17 0))
abbrev rm_X6_clear : Room := { frames := 0, cells := 0, slots := 0, locals := 0 }
set_option maxRecDepth 100000 in
set_option maxHeartbeats 4000000 in
theorem m_X6_clear (Fu : Nat) (Λ : fx_L) (this_0 : Int) (h : fx_H) (r : Int) (ho : fx_H) (hf : f_X6_clear Fu Λ this_0 h = some (r, ho)) : fx_Met yX6_clear cX6_clear 2 (some .int) rm_X6_clear Λ [(8, this_0)] h (some (0, r)) ho := by
  unfold f_X6_clear at hf
  refine fx_enter (ls := [some (8, this_0), none]) (by decide) (Nat.le_of_ble_eq_true rfl) rfl (fun M G F K => ?_)
  refine fx_aload_n (pc := 0) (t := 6) F 0 rfl rfl dX6_clear_0 ?_
  refine fx_gI (pc := 1) F 6 17 17 rfl kC_X6 rfl wF_X6_202 dX6_clear_1 ?_
  refine fx_istore_n (pc := 4) (ls' := [some (8, this_0), some (0, (h this_0 17))]) F 1 rfl (by decide) rfl rfl dX6_clear_4 ?_
  refine fx_aload_n (pc := 5) (t := 6) F 0 rfl rfl dX6_clear_5 ?_
  refine fx_iconst (pc := 6) F ⟨by decide, by decide⟩ dX6_clear_6 ?_
  refine fx_pI (pc := 7) F 6 17 17 rfl kC_X6 rfl rfl (by decide +kernel) wF_X6_202 dX6_clear_7 ?_
  refine fx_iload_n (pc := 10) F 1 rfl rfl dX6_clear_10 ?_
  cases hf
  exact fx_ireturn (pc := 11) F K dX6_clear_11
def f_X6_isSmall (Fu : Nat) (Λ : fx_L) (c_0 : Int) (h : fx_H) : Option (Int) :=
  (f_X6_in Fu Λ c_0 97 122 h).bind fun v1 =>
  (fx_zb v1).bind fun z3 =>
  some z3
abbrev rm_X6_isSmall : Room := { frames := 1, cells := 0, slots := 0, locals := 25 }
set_option maxRecDepth 100000 in
set_option maxHeartbeats 4000000 in
theorem m_X6_isSmall (Fu : Nat) (Λ : fx_L) (c_0 : Int) (h : fx_H) (r : Int) (hf : f_X6_isSmall Fu Λ c_0 h = some r) : fx_Met yX6_isSmall cX6_isSmall 1 (some .boolean) rm_X6_isSmall Λ [(0, c_0)] h (some (0, r)) h := by
  unfold f_X6_isSmall at hf
  refine fx_enter (ls := [some (0, c_0)]) (by decide) (Nat.le_of_ble_eq_true rfl) rfl (fun M G F K => ?_)
  refine fx_iload_n (pc := 0) F 0 rfl rfl dX6_isSmall_0 ?_
  refine fx_ri2l (pc := 1) F dX6_isSmall_1 ?_
  refine fx_ldc2 (pc := 2) (z := 97) F (by decide) ⟨by decide, by decide⟩ wK_X6_208 dX6_isSmall_2 ?_
  refine fx_ldc2 (pc := 5) (z := 122) F (by decide) ⟨by decide, by decide⟩ wK_X6_210 dX6_isSmall_5 ?_
  obtain ⟨v1, e2, hf⟩ := fx_bnd hf
  refine fx_cS (pc := 8) F [(1, c_0), (1, 97), (1, 122)] [] (m_X6_in Fu Λ c_0 97 122 h _ e2) kD_X6_in wSt_X6_in wM_X6_74 ⟨rfl, rfl⟩ ⟨by decide, by decide⟩ (Nat.le_of_ble_eq_true rfl) rfl dX6_isSmall_8 ?_
  obtain ⟨z3, e4, hf⟩ := fx_bnd hf
  obtain ⟨e4, hzz3⟩ := fx_zb_use e4
  refine fx_top (X := fx_X) e4 ?_
  cases hf
  exact fx_zreturn (pc := 11) F hzz3 K dX6_isSmall_11
def f_X6_isFigure (Fu : Nat) (Λ : fx_L) (c_0 : Int) (h : fx_H) : Option (Int) :=
  (f_X6_in Fu Λ c_0 48 57 h).bind fun v1 =>
  (fx_zb v1).bind fun z3 =>
  some z3
abbrev rm_X6_isFigure : Room := { frames := 1, cells := 0, slots := 0, locals := 25 }
set_option maxRecDepth 100000 in
set_option maxHeartbeats 4000000 in
theorem m_X6_isFigure (Fu : Nat) (Λ : fx_L) (c_0 : Int) (h : fx_H) (r : Int) (hf : f_X6_isFigure Fu Λ c_0 h = some r) : fx_Met yX6_isFigure cX6_isFigure 1 (some .boolean) rm_X6_isFigure Λ [(0, c_0)] h (some (0, r)) h := by
  unfold f_X6_isFigure at hf
  refine fx_enter (ls := [some (0, c_0)]) (by decide) (Nat.le_of_ble_eq_true rfl) rfl (fun M G F K => ?_)
  refine fx_iload_n (pc := 0) F 0 rfl rfl dX6_isFigure_0 ?_
  refine fx_ri2l (pc := 1) F dX6_isFigure_1 ?_
  refine fx_ldc2 (pc := 2) (z := 48) F (by decide) ⟨by decide, by decide⟩ wK_X6_212 dX6_isFigure_2 ?_
  refine fx_ldc2 (pc := 5) (z := 57) F (by decide) ⟨by decide, by decide⟩ wK_X6_214 dX6_isFigure_5 ?_
  obtain ⟨v1, e2, hf⟩ := fx_bnd hf
  refine fx_cS (pc := 8) F [(1, c_0), (1, 48), (1, 57)] [] (m_X6_in Fu Λ c_0 48 57 h _ e2) kD_X6_in wSt_X6_in wM_X6_74 ⟨rfl, rfl⟩ ⟨by decide, by decide⟩ (Nat.le_of_ble_eq_true rfl) rfl dX6_isFigure_8 ?_
  obtain ⟨z3, e4, hf⟩ := fx_bnd hf
  obtain ⟨e4, hzz3⟩ := fx_zb_use e4
  refine fx_top (X := fx_X) e4 ?_
  cases hf
  exact fx_zreturn (pc := 11) F hzz3 K dX6_isFigure_11
def s_X6_look_1 (Fu : Nat) (Λ : fx_L) (this_2 : Int) : fx_H → Option ((fx_H) ⊕ (fx_H)) := fun h1 =>
  Option.bind (
    if (h1 this_2 18) < (h1 this_2 17) then
      (fx_rd Λ h1 (fx_tg Λ this_2 16) (h1 this_2 18)).bind fun v9 =>
      if v9 = 32 then
        some true
      else
        some false
    else
      some false
  ) fun b4 =>
  if b4 = true then
    some (.inl (fx_up h1 this_2 18 (fx_w ((h1 this_2 18) + 1))))
  else
    some (.inr h1)
def s_X6_look_2 (Fu : Nat) (Λ : fx_L) (this_52 : Int) : Int × fx_H → Option ((Int × fx_H) ⊕ (Int × fx_H)) := fun (more_50, h51) =>
  if ((¬ more_50 = 0) ∧ ((fx_w ((h51 this_52 18) + (h51 this_52 19))) < (h51 this_52 17))) then
    (fx_rd Λ h51 (fx_tg Λ this_52 16) (fx_w ((h51 this_52 18) + (h51 this_52 19)))).bind fun v59 =>
    Option.bind (
      if (h51 this_52 20) = 1 then
        (f_X6_isSmall Fu Λ v59 h51).bind fun v65 =>
        some v65
      else
        (f_X6_isFigure Fu Λ v59 h51).bind fun v67 =>
        some v67
    ) fun v61 =>
    Option.bind (
      if ¬ v61 = 0 then
        some (1 : Int)
      else
        some (0 : Int)
    ) fun v69 =>
    some (.inl (v61, (fx_up h51 this_52 19 (fx_w ((h51 this_52 19) + v69)))))
  else
    some (.inr (more_50, h51))
def f_X6_look (Fu : Nat) (Λ : fx_L) (this_0 : Int) (from_0 : Int) (h : fx_H) : Option (fx_H) :=
  Option.bind (fx_loop (s_X6_look_1 Fu Λ this_0) Fu (fx_up h this_0 18 from_0)) fun h24 =>
  if ((fx_up (fx_up (fx_up h24 this_0 19 0) this_0 20 0) this_0 21 0) this_0 18) = ((fx_up (fx_up (fx_up h24 this_0 19 0) this_0 20 0) this_0 21 0) this_0 17) then
    some (fx_up (fx_up (fx_up h24 this_0 19 0) this_0 20 0) this_0 21 0)
  else
    (fx_rd Λ (fx_up (fx_up (fx_up h24 this_0 19 0) this_0 20 0) this_0 21 0) (fx_tg Λ this_0 16) ((fx_up (fx_up (fx_up h24 this_0 19 0) this_0 20 0) this_0 21 0) this_0 18)).bind fun v28 =>
    Option.bind (
      (f_X6_isSmall Fu Λ v28 (fx_up (fx_up (fx_up h24 this_0 19 0) this_0 20 0) this_0 21 0)).bind fun v33 =>
      if ¬ v33 = 0 then
        some (1 : Int)
      else
        Option.bind (
          (f_X6_isFigure Fu Λ v28 (fx_up (fx_up (fx_up h24 this_0 19 0) this_0 20 0) this_0 21 0)).bind fun v39 =>
          if ¬ v39 = 0 then
            some (2 : Int)
          else
            Option.bind (
              if v28 = 59 then
                some (3 : Int)
              else
                some (4 : Int)
            ) fun v42 =>
            some v42
        ) fun v36 =>
        some v36
    ) fun v30 =>
    Option.bind (
      if ((fx_up (fx_up (fx_up (fx_up (fx_up h24 this_0 19 0) this_0 20 0) this_0 21 0) this_0 20 v30) this_0 19 1) this_0 20) < 3 then
        some (1 : Int)
      else
        some (0 : Int)
    ) fun v46 =>
    Option.bind (fx_loop (s_X6_look_2 Fu Λ this_0) Fu (v46, (fx_up (fx_up (fx_up (fx_up (fx_up h24 this_0 19 0) this_0 20 0) this_0 21 0) this_0 20 v30) this_0 19 1))) fun (more_95, h96) =>
    Option.bind (
      if ((((fx_up h96 this_0 21 (fx_w (v28 - 48))) this_0 20) = 2) ∧ (1 < ((fx_up h96 this_0 21 (fx_w (v28 - 48))) this_0 19))) then
        some (4 : Int)
      else
        some ((fx_up h96 this_0 21 (fx_w (v28 - 48))) this_0 20)
    ) fun v99 =>
    some (fx_up (fx_up h96 this_0 21 (fx_w (v28 - 48))) this_0 20 v99)
abbrev rm_X6_look : Room := { frames := 2, cells := 0, slots := 0, locals := 45 }
set_option maxRecDepth 100000 in
set_option maxHeartbeats 4000000 in
theorem m_X6_look (Fu : Nat) (Λ : fx_L) (this_0 : Int) (from_0 : Int) (h : fx_H) (ho : fx_H) (hf : f_X6_look Fu Λ this_0 from_0 h = some ho) : fx_Met yX6_look cX6_look 5 none rm_X6_look Λ [(8, this_0), (0, from_0)] h none ho := by
  unfold f_X6_look at hf
  refine fx_enter (ls := [some (8, this_0), some (0, from_0), none, none, none]) (by decide) (Nat.le_of_ble_eq_true rfl) rfl (fun M G F K => ?_)
  refine fx_aload_n (pc := 0) (t := 6) F 0 rfl rfl dX6_look_0 ?_
  refine fx_iload_n (pc := 1) F 1 rfl rfl dX6_look_1 ?_
  refine fx_pI (pc := 2) F 6 18 18 rfl kC_X6 rfl rfl (by decide +kernel) wF_X6_216 dX6_look_2 ?_
  obtain ⟨h24, e25, hf⟩ := fx_bnd hf
  have hE26 : fx_J M G Λ 5 43 [some (8, this_0), some (0, from_0), none, none, none] [] h24 := by
    refine fx_aload_n (pc := 43) (t := 6) F 0 rfl rfl dX6_look_43 ?_
    refine fx_iconst (pc := 44) F ⟨by decide, by decide⟩ dX6_look_44 ?_
    refine fx_pI (pc := 45) F 6 19 19 rfl kC_X6 rfl rfl (by decide +kernel) wF_X6_219 dX6_look_45 ?_
    refine fx_aload_n (pc := 48) (t := 6) F 0 rfl rfl dX6_look_48 ?_
    refine fx_iconst (pc := 49) F ⟨by decide, by decide⟩ dX6_look_49 ?_
    refine fx_pI (pc := 50) F 6 20 20 rfl kC_X6 rfl rfl (by decide +kernel) wF_X6_222 dX6_look_50 ?_
    refine fx_aload_n (pc := 53) (t := 6) F 0 rfl rfl dX6_look_53 ?_
    refine fx_iconst (pc := 54) F ⟨by decide, by decide⟩ dX6_look_54 ?_
    refine fx_pI (pc := 55) F 6 21 21 rfl kC_X6 rfl rfl (by decide +kernel) wF_X6_225 dX6_look_55 ?_
    refine fx_aload_n (pc := 58) (t := 6) F 0 rfl rfl dX6_look_58 ?_
    refine fx_gI (pc := 59) F 6 18 18 rfl kC_X6 rfl wF_X6_216 dX6_look_59 ?_
    refine fx_aload_n (pc := 62) (t := 6) F 0 rfl rfl dX6_look_62 ?_
    refine fx_gI (pc := 63) F 6 17 17 rfl kC_X6 rfl wF_X6_202 dX6_look_63 ?_
    refine fx_neq (pc := 66) F 70 (by decide) dX6_look_66 (fun c27 => ?_) (fun c27 => ?_)
    · have hf := (if_pos c27).symm.trans hf
      cases hf
      exact fx_vreturn (pc := 69) F K dX6_look_69
    · have hf := (if_neg c27).symm.trans hf
      refine fx_aload_n (pc := 70) (t := 6) F 0 rfl rfl dX6_look_70 ?_
      refine fx_gR (pc := 71) F 6 16 16 8 rfl kC_X6 (by decide) rfl wF_X6_57 dX6_look_71 ?_
      refine fx_aload_n (pc := 74) (t := 6) F 0 rfl rfl dX6_look_74 ?_
      refine fx_gI (pc := 75) F 6 18 18 rfl kC_X6 rfl wF_X6_216 dX6_look_75 ?_
      obtain ⟨v28, e29, hf⟩ := fx_bnd hf
      refine fx_raldI (pc := 78) F e29 dX6_look_78 ?_
      refine fx_istore_n (pc := 79) (ls' := [some (8, this_0), some (0, from_0), some (0, v28), none, none]) F 2 rfl (by decide) rfl rfl dX6_look_79 ?_
      refine fx_aload_n (pc := 80) (t := 6) F 0 rfl rfl dX6_look_80 ?_
      obtain ⟨v30, e31, hf⟩ := fx_bnd hf
      have hJ32 : fx_J M G Λ 5 114 [some (8, this_0), some (0, from_0), some (0, v28), none, none] [(0, v30), (8, this_0)] (fx_up (fx_up (fx_up h24 this_0 19 0) this_0 20 0) this_0 21 0) := by
        refine fx_pI (pc := 114) F 6 20 20 rfl kC_X6 rfl rfl (by decide +kernel) wF_X6_222 dX6_look_114 ?_
        refine fx_aload_n (pc := 117) (t := 6) F 0 rfl rfl dX6_look_117 ?_
        refine fx_iconst (pc := 118) F ⟨by decide, by decide⟩ dX6_look_118 ?_
        refine fx_pI (pc := 119) F 6 19 19 rfl kC_X6 rfl rfl (by decide +kernel) wF_X6_219 dX6_look_119 ?_
        obtain ⟨v46, e47, hf⟩ := fx_bnd hf
        have hJ48 : fx_J M G Λ 5 135 [some (8, this_0), some (0, from_0), some (0, v28), none, none] [(0, v46)] (fx_up (fx_up (fx_up (fx_up (fx_up h24 this_0 19 0) this_0 20 0) this_0 21 0) this_0 20 v30) this_0 19 1) := by
          refine fx_istore_n (pc := 135) (ls' := [some (8, this_0), some (0, from_0), some (0, v28), some (0, v46), none]) F 3 rfl (by decide) rfl rfl dX6_look_135 ?_
          obtain ⟨⟨more_95, h96⟩, e97, hf⟩ := fx_bnd hf
          have hE98 : fx_J M G Λ 5 215 [some (8, this_0), some (0, from_0), some (0, v28), some (0, more_95), none] [] h96 := by
            refine fx_aload_n (pc := 215) (t := 6) F 0 rfl rfl dX6_look_215 ?_
            refine fx_iload_n (pc := 216) F 2 rfl rfl dX6_look_216 ?_
            refine fx_bipush (pc := 217) F ⟨by decide, by decide⟩ (by decide) dX6_look_217 ?_
            refine fx_isub (pc := 219) F dX6_look_219 ?_
            refine fx_pI (pc := 220) F 6 21 21 rfl kC_X6 rfl rfl (by decide +kernel) wF_X6_225 dX6_look_220 ?_
            refine fx_aload_n (pc := 223) (t := 6) F 0 rfl rfl dX6_look_223 ?_
            obtain ⟨v99, e100, hf⟩ := fx_bnd hf
            have hJ101 : fx_J M G Λ 5 248 [some (8, this_0), some (0, from_0), some (0, v28), some (0, more_95), none] [(0, v99), (8, this_0)] (fx_up h96 this_0 21 (fx_w (v28 - 48))) := by
              refine fx_pI (pc := 248) F 6 20 20 rfl kC_X6 rfl rfl (by decide +kernel) wF_X6_222 dX6_look_248 ?_
              cases hf
              exact fx_vreturn (pc := 251) F K dX6_look_251
            refine fx_aload_n (pc := 224) (t := 6) F 0 rfl rfl dX6_look_224 ?_
            refine fx_gI (pc := 225) F 6 20 20 rfl kC_X6 rfl wF_X6_222 dX6_look_225 ?_
            refine fx_iconst (pc := 228) F ⟨by decide, by decide⟩ dX6_look_228 ?_
            have hT102 : (((((fx_up h96 this_0 21 (fx_w (v28 - 48))) this_0 20) = 2) ∧ (1 < ((fx_up h96 this_0 21 (fx_w (v28 - 48))) this_0 19)))) → fx_J M G Λ 5 240 [some (8, this_0), some (0, from_0), some (0, v28), some (0, more_95), none] [(8, this_0)] (fx_up h96 this_0 21 (fx_w (v28 - 48))) := fun c106 => by
              have e100 := (if_pos c106).symm.trans e100
              refine fx_iconst (pc := 240) F ⟨by decide, by decide⟩ dX6_look_240 ?_
              cases e100
              refine fx_goto (pc := 241) F 248 (by decide) dX6_look_241 ?_
              exact hJ101
            have hF103 : ¬ (((((fx_up h96 this_0 21 (fx_w (v28 - 48))) this_0 20) = 2) ∧ (1 < ((fx_up h96 this_0 21 (fx_w (v28 - 48))) this_0 19)))) → fx_J M G Λ 5 244 [some (8, this_0), some (0, from_0), some (0, v28), some (0, more_95), none] [(8, this_0)] (fx_up h96 this_0 21 (fx_w (v28 - 48))) := fun c106 => by
              have e100 := (if_neg c106).symm.trans e100
              refine fx_aload_n (pc := 244) (t := 6) F 0 rfl rfl dX6_look_244 ?_
              refine fx_gI (pc := 245) F 6 20 20 rfl kC_X6 rfl wF_X6_222 dX6_look_245 ?_
              cases e100
              exact hJ101
            refine fx_neq (pc := 229) F 244 (by decide) dX6_look_229 (fun c104 => ?_) (fun c104 => ?_)
            · refine fx_aload_n (pc := 232) (t := 6) F 0 rfl rfl dX6_look_232 ?_
              refine fx_gI (pc := 233) F 6 19 19 rfl kC_X6 rfl wF_X6_219 dX6_look_233 ?_
              refine fx_iconst (pc := 236) F ⟨by decide, by decide⟩ dX6_look_236 ?_
              refine fx_ngt (pc := 237) F 244 (by decide) dX6_look_237 (fun c105 => ?_) (fun c105 => ?_)
              · exact hT102 ⟨c104, c105⟩
              · exact hF103 (fun q => c105 q.2)
            · exact hF103 (fun q => c104 q.1)
          refine fx_loop_J (Hd := (fun z : Int × fx_H => fx_J M G Λ 5 136 [some (8, this_0), some (0, from_0), some (0, v28), some (0, z.1), none] [] z.2)) (Ex := (fun z : Int × fx_H => fx_J M G Λ 5 215 [some (8, this_0), some (0, from_0), some (0, v28), some (0, z.1), none] [] z.2)) ?_ Fu _ _ e97 hE98
          rintro ⟨more_73, h74⟩ o9 eq75 ih ex
          unfold s_X6_look_2 at eq75
          show fx_J M G Λ 5 136 [some (8, this_0), some (0, from_0), some (0, v28), some (0, more_73), none] [] h74
          refine fx_iload_n (pc := 136) F 3 rfl rfl dX6_look_136 ?_
          have hT76 : (((¬ more_73 = 0) ∧ ((fx_w ((h74 this_0 18) + (h74 this_0 19))) < (h74 this_0 17)))) → fx_J M G Λ 5 156 [some (8, this_0), some (0, from_0), some (0, v28), some (0, more_73), none] [] h74 := fun c80 => by
            have eq75 := (if_pos c80).symm.trans eq75
            refine fx_aload_n (pc := 156) (t := 6) F 0 rfl rfl dX6_look_156 ?_
            refine fx_gR (pc := 157) F 6 16 16 8 rfl kC_X6 (by decide) rfl wF_X6_57 dX6_look_157 ?_
            refine fx_aload_n (pc := 160) (t := 6) F 0 rfl rfl dX6_look_160 ?_
            refine fx_gI (pc := 161) F 6 18 18 rfl kC_X6 rfl wF_X6_216 dX6_look_161 ?_
            refine fx_aload_n (pc := 164) (t := 6) F 0 rfl rfl dX6_look_164 ?_
            refine fx_gI (pc := 165) F 6 19 19 rfl kC_X6 rfl wF_X6_219 dX6_look_165 ?_
            refine fx_iadd (pc := 168) F dX6_look_168 ?_
            obtain ⟨v81, e82, eq75⟩ := fx_bnd eq75
            refine fx_raldI (pc := 169) F e82 dX6_look_169 ?_
            refine fx_istore (pc := 170) (ls' := [some (8, this_0), some (0, from_0), some (0, v28), some (0, more_73), some (0, v81)]) F (by decide) rfl rfl dX6_look_170 ?_
            obtain ⟨v83, e84, eq75⟩ := fx_bnd eq75
            have hJ85 : fx_J M G Λ 5 193 [some (8, this_0), some (0, from_0), some (0, v28), some (0, more_73), some (0, v81)] [(0, v83)] h74 := by
              refine fx_istore_n (pc := 193) (ls' := [some (8, this_0), some (0, from_0), some (0, v28), some (0, v83), some (0, v81)]) F 3 rfl (by decide) rfl rfl dX6_look_193 ?_
              refine fx_aload_n (pc := 194) (t := 6) F 0 rfl rfl dX6_look_194 ?_
              refine fx_dup (pc := 195) F (show (8 : Nat) ≠ 1 by decide) dX6_look_195 ?_
              refine fx_gI (pc := 196) F 6 19 19 rfl kC_X6 rfl wF_X6_219 dX6_look_196 ?_
              obtain ⟨v91, e92, eq75⟩ := fx_bnd eq75
              have hJ93 : fx_J M G Λ 5 208 [some (8, this_0), some (0, from_0), some (0, v28), some (0, v83), some (0, v81)] [(0, v91), (0, (h74 this_0 19)), (8, this_0)] h74 := by
                refine fx_iadd (pc := 208) F dX6_look_208 ?_
                refine fx_pI (pc := 209) F 6 19 19 rfl kC_X6 rfl rfl (by decide +kernel) wF_X6_219 dX6_look_209 ?_
                refine fx_goto (pc := 212) F 136 (by decide) dX6_look_212 ?_
                cases eq75
                refine fx_drop (ls' := [some (8, this_0), some (0, from_0), some (0, v28), some (0, v83), none]) ⟨rfl, rfl, rfl, rfl, trivial⟩ ?_
                exact ih _ rfl
              refine fx_iload_n (pc := 199) F 3 rfl rfl dX6_look_199 ?_
              refine fx_nzne (pc := 200) F 207 (by decide) dX6_look_200 (fun c94 => ?_) (fun c94 => ?_)
              · have e92 := (if_pos c94).symm.trans e92
                refine fx_iconst (pc := 203) F ⟨by decide, by decide⟩ dX6_look_203 ?_
                cases e92
                refine fx_goto (pc := 204) F 208 (by decide) dX6_look_204 ?_
                exact hJ93
              · have e92 := (if_neg c94).symm.trans e92
                refine fx_iconst (pc := 207) F ⟨by decide, by decide⟩ dX6_look_207 ?_
                cases e92
                exact hJ93
            refine fx_aload_n (pc := 172) (t := 6) F 0 rfl rfl dX6_look_172 ?_
            refine fx_gI (pc := 173) F 6 20 20 rfl kC_X6 rfl wF_X6_222 dX6_look_173 ?_
            refine fx_iconst (pc := 176) F ⟨by decide, by decide⟩ dX6_look_176 ?_
            refine fx_neq (pc := 177) F 188 (by decide) dX6_look_177 (fun c86 => ?_) (fun c86 => ?_)
            · have e84 := (if_pos c86).symm.trans e84
              refine fx_iload (pc := 180) F rfl dX6_look_180 ?_
              obtain ⟨v87, e88, e84⟩ := fx_bnd e84
              refine fx_cS (pc := 182) F [(0, v81)] [] (m_X6_isSmall Fu Λ v81 h74 _ e88) kD_X6_isSmall wSt_X6_isSmall wM_X6_228 ⟨rfl, rfl⟩ ⟨by decide, by decide⟩ (Nat.le_of_ble_eq_true rfl) rfl dX6_look_182 ?_
              cases e84
              refine fx_goto (pc := 185) F 193 (by decide) dX6_look_185 ?_
              exact hJ85
            · have e84 := (if_neg c86).symm.trans e84
              refine fx_iload (pc := 188) F rfl dX6_look_188 ?_
              obtain ⟨v89, e90, e84⟩ := fx_bnd e84
              refine fx_cS (pc := 190) F [(0, v81)] [] (m_X6_isFigure Fu Λ v81 h74 _ e90) kD_X6_isFigure wSt_X6_isFigure wM_X6_231 ⟨rfl, rfl⟩ ⟨by decide, by decide⟩ (Nat.le_of_ble_eq_true rfl) rfl dX6_look_190 ?_
              cases e84
              exact hJ85
          have hF77 : ¬ (((¬ more_73 = 0) ∧ ((fx_w ((h74 this_0 18) + (h74 this_0 19))) < (h74 this_0 17)))) → fx_J M G Λ 5 215 [some (8, this_0), some (0, from_0), some (0, v28), some (0, more_73), none] [] h74 := fun c80 => by
            have eq75 := (if_neg c80).symm.trans eq75
            cases eq75
            exact ex _ rfl
          refine fx_nzne (pc := 137) F 215 (by decide) dX6_look_137 (fun c78 => ?_) (fun c78 => ?_)
          · refine fx_aload_n (pc := 140) (t := 6) F 0 rfl rfl dX6_look_140 ?_
            refine fx_gI (pc := 141) F 6 18 18 rfl kC_X6 rfl wF_X6_216 dX6_look_141 ?_
            refine fx_aload_n (pc := 144) (t := 6) F 0 rfl rfl dX6_look_144 ?_
            refine fx_gI (pc := 145) F 6 19 19 rfl kC_X6 rfl wF_X6_219 dX6_look_145 ?_
            refine fx_iadd (pc := 148) F dX6_look_148 ?_
            refine fx_aload_n (pc := 149) (t := 6) F 0 rfl rfl dX6_look_149 ?_
            refine fx_gI (pc := 150) F 6 17 17 rfl kC_X6 rfl wF_X6_202 dX6_look_150 ?_
            refine fx_nlt (pc := 153) F 215 (by decide) dX6_look_153 (fun c79 => ?_) (fun c79 => ?_)
            · exact hT76 ⟨c78, c79⟩
            · exact hF77 (fun q => c79 q.2)
          · exact hF77 (fun q => c78 q.1)
        refine fx_aload_n (pc := 122) (t := 6) F 0 rfl rfl dX6_look_122 ?_
        refine fx_gI (pc := 123) F 6 20 20 rfl kC_X6 rfl wF_X6_222 dX6_look_123 ?_
        refine fx_iconst (pc := 126) F ⟨by decide, by decide⟩ dX6_look_126 ?_
        refine fx_nlt (pc := 127) F 134 (by decide) dX6_look_127 (fun c49 => ?_) (fun c49 => ?_)
        · have e47 := (if_pos c49).symm.trans e47
          refine fx_iconst (pc := 130) F ⟨by decide, by decide⟩ dX6_look_130 ?_
          cases e47
          refine fx_goto (pc := 131) F 135 (by decide) dX6_look_131 ?_
          exact hJ48
        · have e47 := (if_neg c49).symm.trans e47
          refine fx_iconst (pc := 134) F ⟨by decide, by decide⟩ dX6_look_134 ?_
          cases e47
          exact hJ48
      refine fx_iload_n (pc := 81) F 2 rfl rfl dX6_look_81 ?_
      obtain ⟨v33, e34, e31⟩ := fx_bnd e31
      refine fx_cS (pc := 82) F [(0, v28)] [(8, this_0)] (m_X6_isSmall Fu Λ v28 (fx_up (fx_up (fx_up h24 this_0 19 0) this_0 20 0) this_0 21 0) _ e34) kD_X6_isSmall wSt_X6_isSmall wM_X6_228 ⟨rfl, rfl⟩ ⟨by decide, by decide⟩ (Nat.le_of_ble_eq_true rfl) rfl dX6_look_82 ?_
      refine fx_nzne (pc := 85) F 92 (by decide) dX6_look_85 (fun c35 => ?_) (fun c35 => ?_)
      · have e31 := (if_pos c35).symm.trans e31
        refine fx_iconst (pc := 88) F ⟨by decide, by decide⟩ dX6_look_88 ?_
        cases e31
        refine fx_goto (pc := 89) F 114 (by decide) dX6_look_89 ?_
        exact hJ32
      · have e31 := (if_neg c35).symm.trans e31
        obtain ⟨v36, e37, e31⟩ := fx_bnd e31
        have hJ38 : fx_J M G Λ 5 114 [some (8, this_0), some (0, from_0), some (0, v28), none, none] [(0, v36), (8, this_0)] (fx_up (fx_up (fx_up h24 this_0 19 0) this_0 20 0) this_0 21 0) := by
          cases e31
          exact hJ32
        refine fx_iload_n (pc := 92) F 2 rfl rfl dX6_look_92 ?_
        obtain ⟨v39, e40, e37⟩ := fx_bnd e37
        refine fx_cS (pc := 93) F [(0, v28)] [(8, this_0)] (m_X6_isFigure Fu Λ v28 (fx_up (fx_up (fx_up h24 this_0 19 0) this_0 20 0) this_0 21 0) _ e40) kD_X6_isFigure wSt_X6_isFigure wM_X6_231 ⟨rfl, rfl⟩ ⟨by decide, by decide⟩ (Nat.le_of_ble_eq_true rfl) rfl dX6_look_93 ?_
        refine fx_nzne (pc := 96) F 103 (by decide) dX6_look_96 (fun c41 => ?_) (fun c41 => ?_)
        · have e37 := (if_pos c41).symm.trans e37
          refine fx_iconst (pc := 99) F ⟨by decide, by decide⟩ dX6_look_99 ?_
          cases e37
          refine fx_goto (pc := 100) F 114 (by decide) dX6_look_100 ?_
          exact hJ38
        · have e37 := (if_neg c41).symm.trans e37
          obtain ⟨v42, e43, e37⟩ := fx_bnd e37
          have hJ44 : fx_J M G Λ 5 114 [some (8, this_0), some (0, from_0), some (0, v28), none, none] [(0, v42), (8, this_0)] (fx_up (fx_up (fx_up h24 this_0 19 0) this_0 20 0) this_0 21 0) := by
            cases e37
            exact hJ38
          refine fx_iload_n (pc := 103) F 2 rfl rfl dX6_look_103 ?_
          refine fx_bipush (pc := 104) F ⟨by decide, by decide⟩ (by decide) dX6_look_104 ?_
          refine fx_neq (pc := 106) F 113 (by decide) dX6_look_106 (fun c45 => ?_) (fun c45 => ?_)
          · have e43 := (if_pos c45).symm.trans e43
            refine fx_iconst (pc := 109) F ⟨by decide, by decide⟩ dX6_look_109 ?_
            cases e43
            refine fx_goto (pc := 110) F 114 (by decide) dX6_look_110 ?_
            exact hJ44
          · have e43 := (if_neg c45).symm.trans e43
            refine fx_iconst (pc := 113) F ⟨by decide, by decide⟩ dX6_look_113 ?_
            cases e43
            exact hJ44
  refine fx_loop_J (Hd := (fun z : fx_H => fx_J M G Λ 5 5 [some (8, this_0), some (0, from_0), none, none, none] [] z)) (Ex := (fun z : fx_H => fx_J M G Λ 5 43 [some (8, this_0), some (0, from_0), none, none, none] [] z)) ?_ Fu _ _ e25 hE26
  rintro h13 o9 eq14 ih ex
  unfold s_X6_look_1 at eq14
  show fx_J M G Λ 5 5 [some (8, this_0), some (0, from_0), none, none, none] [] h13
  obtain ⟨b15, e16, eq14⟩ := fx_bnd eq14
  have hT17 : b15 = true → fx_J M G Λ 5 30 [some (8, this_0), some (0, from_0), none, none, none] [] h13 := fun c23 => by
    have eq14 := (if_pos c23).symm.trans eq14
    refine fx_aload_n (pc := 30) (t := 6) F 0 rfl rfl dX6_look_30 ?_
    refine fx_dup (pc := 31) F (show (8 : Nat) ≠ 1 by decide) dX6_look_31 ?_
    refine fx_gI (pc := 32) F 6 18 18 rfl kC_X6 rfl wF_X6_216 dX6_look_32 ?_
    refine fx_iconst (pc := 35) F ⟨by decide, by decide⟩ dX6_look_35 ?_
    refine fx_iadd (pc := 36) F dX6_look_36 ?_
    refine fx_pI (pc := 37) F 6 18 18 rfl kC_X6 rfl rfl (by decide +kernel) wF_X6_216 dX6_look_37 ?_
    refine fx_goto (pc := 40) F 5 (by decide) dX6_look_40 ?_
    cases eq14
    exact ih _ rfl
  have hF18 : ¬ b15 = true → fx_J M G Λ 5 43 [some (8, this_0), some (0, from_0), none, none, none] [] h13 := fun c23 => by
    have eq14 := (if_neg c23).symm.trans eq14
    cases eq14
    exact ex _ rfl
  refine fx_aload_n (pc := 5) (t := 6) F 0 rfl rfl dX6_look_5 ?_
  refine fx_gI (pc := 6) F 6 18 18 rfl kC_X6 rfl wF_X6_216 dX6_look_6 ?_
  refine fx_aload_n (pc := 9) (t := 6) F 0 rfl rfl dX6_look_9 ?_
  refine fx_gI (pc := 10) F 6 17 17 rfl kC_X6 rfl wF_X6_202 dX6_look_10 ?_
  refine fx_nlt (pc := 13) F 43 (by decide) dX6_look_13 (fun c19 => ?_) (fun c19 => ?_)
  · have e16 := (if_pos c19).symm.trans e16
    refine fx_aload_n (pc := 16) (t := 6) F 0 rfl rfl dX6_look_16 ?_
    refine fx_gR (pc := 17) F 6 16 16 8 rfl kC_X6 (by decide) rfl wF_X6_57 dX6_look_17 ?_
    refine fx_aload_n (pc := 20) (t := 6) F 0 rfl rfl dX6_look_20 ?_
    refine fx_gI (pc := 21) F 6 18 18 rfl kC_X6 rfl wF_X6_216 dX6_look_21 ?_
    obtain ⟨v20, e21, e16⟩ := fx_bnd e16
    refine fx_raldI (pc := 24) F e21 dX6_look_24 ?_
    refine fx_bipush (pc := 25) F ⟨by decide, by decide⟩ (by decide) dX6_look_25 ?_
    refine fx_neq (pc := 27) F 43 (by decide) dX6_look_27 (fun c22 => ?_) (fun c22 => ?_)
    · have e16 := (if_pos c22).symm.trans e16
      cases e16
      exact hT17 (by decide)
    · have e16 := (if_neg c22).symm.trans e16
      cases e16
      exact hF18 (by decide)
  · have e16 := (if_neg c19).symm.trans e16
    cases e16
    exact hF18 (by decide)
def f_X6_goOn (Fu : Nat) (Λ : fx_L) (this_0 : Int) (h : fx_H) : Option (fx_H) :=
  (f_X6_look Fu Λ this_0 (fx_w ((h this_0 18) + (h this_0 19))) h).bind fun h1 =>
  some h1
abbrev rm_X6_goOn : Room := { frames := 3, cells := 0, slots := 0, locals := 69 }
set_option maxRecDepth 100000 in
set_option maxHeartbeats 4000000 in
theorem m_X6_goOn (Fu : Nat) (Λ : fx_L) (this_0 : Int) (h : fx_H) (ho : fx_H) (hf : f_X6_goOn Fu Λ this_0 h = some ho) : fx_Met yX6_goOn cX6_goOn 1 none rm_X6_goOn Λ [(8, this_0)] h none ho := by
  unfold f_X6_goOn at hf
  refine fx_enter (ls := [some (8, this_0)]) (by decide) (Nat.le_of_ble_eq_true rfl) rfl (fun M G F K => ?_)
  refine fx_aload_n (pc := 0) (t := 6) F 0 rfl rfl dX6_goOn_0 ?_
  refine fx_aload_n (pc := 1) (t := 6) F 0 rfl rfl dX6_goOn_1 ?_
  refine fx_gI (pc := 2) F 6 18 18 rfl kC_X6 rfl wF_X6_216 dX6_goOn_2 ?_
  refine fx_aload_n (pc := 5) (t := 6) F 0 rfl rfl dX6_goOn_5 ?_
  refine fx_gI (pc := 6) F 6 19 19 rfl kC_X6 rfl wF_X6_219 dX6_goOn_6 ?_
  refine fx_iadd (pc := 9) F dX6_goOn_9 ?_
  obtain ⟨h1, e2, hf⟩ := fx_bnd hf
  refine fx_cVv (pc := 10) F 6 kC_X6 [(0, (fx_w ((h this_0 18) + (h this_0 19))))] this_0 [] (m_X6_look Fu Λ this_0 (fx_w ((h this_0 18) + (h this_0 19))) h _ e2) kD_X6_look kI_X6_look rfl wM_X6_234 ⟨rfl, rfl⟩ ⟨by decide, by decide⟩ (Nat.le_of_ble_eq_true rfl) rfl dX6_goOn_10 ?_
  cases hf
  exact fx_vreturn (pc := 13) F K dX6_goOn_13
def s_X6_isWord_1 (Fu : Nat) (Λ : fx_L) (this_19 : Int) (a_20 : Int) (b_21 : Int) (c_22 : Int) (d_23 : Int) (e_24 : Int) (f_25 : Int) (size_26 : Int) (h : fx_H) : Int × Int → Option ((Int × Int) ⊕ (Int × Int)) := fun (is_17, k_18) =>
  if ((k_18 < size_26) ∧ (¬ is_17 = 0)) then
    Option.bind (
      (fx_rd Λ h (fx_tg Λ this_19 16) (fx_w ((h this_19 18) + k_18))).bind fun v36 =>
      Option.bind (
        if k_18 = 0 then
          some a_20
        else
          Option.bind (
            if k_18 = 1 then
              some b_21
            else
              Option.bind (
                if k_18 = 2 then
                  some c_22
                else
                  Option.bind (
                    if k_18 = 3 then
                      some d_23
                    else
                      Option.bind (
                        if k_18 = 4 then
                          some e_24
                        else
                          some f_25
                      ) fun v54 =>
                      some v54
                  ) fun v50 =>
                  some v50
              ) fun v46 =>
              some v46
          ) fun v42 =>
          some v42
      ) fun v38 =>
      if v36 = v38 then
        some (1 : Int)
      else
        some (0 : Int)
    ) fun v33 =>
    some (.inl (v33, (fx_w (k_18 + 1))))
  else
    some (.inr (is_17, k_18))
def f_X6_isWord (Fu : Nat) (Λ : fx_L) (this_0 : Int) (a_0 : Int) (b_0 : Int) (c_0 : Int) (d_0 : Int) (e_0 : Int) (f_0 : Int) (h : fx_H) : Option (Int) :=
  Option.bind (
    if e_0 = 0 then
      some (4 : Int)
    else
      Option.bind (
        if f_0 = 0 then
          some (5 : Int)
        else
          some (6 : Int)
      ) fun v5 =>
      some v5
  ) fun v1 =>
  Option.bind (
    if (((h this_0 20) = 1) ∧ ((h this_0 19) = v1)) then
      some (1 : Int)
    else
      some (0 : Int)
  ) fun v9 =>
  Option.bind (fx_loop (s_X6_isWord_1 Fu Λ this_0 a_0 b_0 c_0 d_0 e_0 f_0 v1 h) Fu (v9, 0)) fun (is_93, k_94) =>
  (fx_zb is_93).bind fun z97 =>
  some z97
abbrev rm_X6_isWord : Room := { frames := 0, cells := 0, slots := 0, locals := 0 }
set_option maxRecDepth 100000 in
set_option maxHeartbeats 4000000 in
theorem m_X6_isWord (Fu : Nat) (Λ : fx_L) (this_0 : Int) (a_0 : Int) (b_0 : Int) (c_0 : Int) (d_0 : Int) (e_0 : Int) (f_0 : Int) (h : fx_H) (r : Int) (hf : f_X6_isWord Fu Λ this_0 a_0 b_0 c_0 d_0 e_0 f_0 h = some r) : fx_Met yX6_isWord cX6_isWord 10 (some .boolean) rm_X6_isWord Λ [(8, this_0), (0, a_0), (0, b_0), (0, c_0), (0, d_0), (0, e_0), (0, f_0)] h (some (0, r)) h := by
  unfold f_X6_isWord at hf
  refine fx_enter (ls := [some (8, this_0), some (0, a_0), some (0, b_0), some (0, c_0), some (0, d_0), some (0, e_0), some (0, f_0), none, none, none]) (by decide) (Nat.le_of_ble_eq_true rfl) rfl (fun M G F K => ?_)
  obtain ⟨v1, e2, hf⟩ := fx_bnd hf
  have hJ3 : fx_J M G Λ 10 20 [some (8, this_0), some (0, a_0), some (0, b_0), some (0, c_0), some (0, d_0), some (0, e_0), some (0, f_0), none, none, none] [(0, v1)] h := by
    refine fx_istore (pc := 20) (ls' := [some (8, this_0), some (0, a_0), some (0, b_0), some (0, c_0), some (0, d_0), some (0, e_0), some (0, f_0), some (0, v1), none, none]) F (by decide) rfl rfl dX6_isWord_20 ?_
    obtain ⟨v9, e10, hf⟩ := fx_bnd hf
    have hJ11 : fx_J M G Λ 10 44 [some (8, this_0), some (0, a_0), some (0, b_0), some (0, c_0), some (0, d_0), some (0, e_0), some (0, f_0), some (0, v1), none, none] [(0, v9)] h := by
      refine fx_istore (pc := 44) (ls' := [some (8, this_0), some (0, a_0), some (0, b_0), some (0, c_0), some (0, d_0), some (0, e_0), some (0, f_0), some (0, v1), some (0, v9), none]) F (by decide) rfl rfl dX6_isWord_44 ?_
      refine fx_iconst (pc := 46) F ⟨by decide, by decide⟩ dX6_isWord_46 ?_
      refine fx_istore (pc := 47) (ls' := [some (8, this_0), some (0, a_0), some (0, b_0), some (0, c_0), some (0, d_0), some (0, e_0), some (0, f_0), some (0, v1), some (0, v9), some (0, 0)]) F (by decide) rfl rfl dX6_isWord_47 ?_
      obtain ⟨⟨is_93, k_94⟩, e95, hf⟩ := fx_bnd hf
      have hE96 : fx_J M G Λ 10 142 [some (8, this_0), some (0, a_0), some (0, b_0), some (0, c_0), some (0, d_0), some (0, e_0), some (0, f_0), some (0, v1), some (0, is_93), some (0, k_94)] [] h := by
        refine fx_iload (pc := 142) F rfl dX6_isWord_142 ?_
        obtain ⟨z97, e98, hf⟩ := fx_bnd hf
        obtain ⟨e98, hzz97⟩ := fx_zb_use e98
        refine fx_top (X := fx_X) e98 ?_
        cases hf
        exact fx_zreturn (pc := 144) F hzz97 K dX6_isWord_144
      refine fx_loop_J (Hd := (fun z : Int × Int => fx_J M G Λ 10 49 [some (8, this_0), some (0, a_0), some (0, b_0), some (0, c_0), some (0, d_0), some (0, e_0), some (0, f_0), some (0, v1), some (0, z.1), some (0, z.2)] [] h)) (Ex := (fun z : Int × Int => fx_J M G Λ 10 142 [some (8, this_0), some (0, a_0), some (0, b_0), some (0, c_0), some (0, d_0), some (0, e_0), some (0, f_0), some (0, v1), some (0, z.1), some (0, z.2)] [] h)) ?_ Fu _ _ e95 hE96
      rintro ⟨is_59, k_60⟩ o9 eq61 ih ex
      unfold s_X6_isWord_1 at eq61
      show fx_J M G Λ 10 49 [some (8, this_0), some (0, a_0), some (0, b_0), some (0, c_0), some (0, d_0), some (0, e_0), some (0, f_0), some (0, v1), some (0, is_59), some (0, k_60)] [] h
      refine fx_iload (pc := 49) F rfl dX6_isWord_49 ?_
      refine fx_iload (pc := 51) F rfl dX6_isWord_51 ?_
      have hT62 : (((k_60 < v1) ∧ (¬ is_59 = 0))) → fx_J M G Λ 10 61 [some (8, this_0), some (0, a_0), some (0, b_0), some (0, c_0), some (0, d_0), some (0, e_0), some (0, f_0), some (0, v1), some (0, is_59), some (0, k_60)] [] h := fun c66 => by
        have eq61 := (if_pos c66).symm.trans eq61
        obtain ⟨v67, e68, eq61⟩ := fx_bnd eq61
        have hJ69 : fx_J M G Λ 10 134 [some (8, this_0), some (0, a_0), some (0, b_0), some (0, c_0), some (0, d_0), some (0, e_0), some (0, f_0), some (0, v1), some (0, is_59), some (0, k_60)] [(0, v67)] h := by
          refine fx_istore (pc := 134) (ls' := [some (8, this_0), some (0, a_0), some (0, b_0), some (0, c_0), some (0, d_0), some (0, e_0), some (0, f_0), some (0, v1), some (0, v67), some (0, k_60)]) F (by decide) rfl rfl dX6_isWord_134 ?_
          refine fx_iinc (pc := 136) (ls' := [some (8, this_0), some (0, a_0), some (0, b_0), some (0, c_0), some (0, d_0), some (0, e_0), some (0, f_0), some (0, v1), some (0, v67), some (0, (fx_w (k_60 + 1)))]) F (by decide) rfl rfl rfl dX6_isWord_136 ?_
          refine fx_goto (pc := 139) F 49 (by decide) dX6_isWord_139 ?_
          cases eq61
          exact ih _ rfl
        refine fx_aload_n (pc := 61) (t := 6) F 0 rfl rfl dX6_isWord_61 ?_
        refine fx_gR (pc := 62) F 6 16 16 8 rfl kC_X6 (by decide) rfl wF_X6_57 dX6_isWord_62 ?_
        refine fx_aload_n (pc := 65) (t := 6) F 0 rfl rfl dX6_isWord_65 ?_
        refine fx_gI (pc := 66) F 6 18 18 rfl kC_X6 rfl wF_X6_216 dX6_isWord_66 ?_
        refine fx_iload (pc := 69) F rfl dX6_isWord_69 ?_
        refine fx_iadd (pc := 71) F dX6_isWord_71 ?_
        obtain ⟨v70, e71, e68⟩ := fx_bnd e68
        refine fx_raldI (pc := 72) F e71 dX6_isWord_72 ?_
        obtain ⟨v72, e73, e68⟩ := fx_bnd e68
        have hJ74 : fx_J M G Λ 10 126 [some (8, this_0), some (0, a_0), some (0, b_0), some (0, c_0), some (0, d_0), some (0, e_0), some (0, f_0), some (0, v1), some (0, is_59), some (0, k_60)] [(0, v72), (0, v70)] h := by
          refine fx_neq (pc := 126) F 133 (by decide) dX6_isWord_126 (fun c92 => ?_) (fun c92 => ?_)
          · have e68 := (if_pos c92).symm.trans e68
            refine fx_iconst (pc := 129) F ⟨by decide, by decide⟩ dX6_isWord_129 ?_
            cases e68
            refine fx_goto (pc := 130) F 134 (by decide) dX6_isWord_130 ?_
            exact hJ69
          · have e68 := (if_neg c92).symm.trans e68
            refine fx_iconst (pc := 133) F ⟨by decide, by decide⟩ dX6_isWord_133 ?_
            cases e68
            exact hJ69
        refine fx_iload (pc := 73) F rfl dX6_isWord_73 ?_
        refine fx_nzeq (pc := 75) F 82 (by decide) dX6_isWord_75 (fun c75 => ?_) (fun c75 => ?_)
        · have e73 := (if_pos c75).symm.trans e73
          refine fx_iload_n (pc := 78) F 1 rfl rfl dX6_isWord_78 ?_
          cases e73
          refine fx_goto (pc := 79) F 126 (by decide) dX6_isWord_79 ?_
          exact hJ74
        · have e73 := (if_neg c75).symm.trans e73
          obtain ⟨v76, e77, e73⟩ := fx_bnd e73
          have hJ78 : fx_J M G Λ 10 126 [some (8, this_0), some (0, a_0), some (0, b_0), some (0, c_0), some (0, d_0), some (0, e_0), some (0, f_0), some (0, v1), some (0, is_59), some (0, k_60)] [(0, v76), (0, v70)] h := by
            cases e73
            exact hJ74
          refine fx_iload (pc := 82) F rfl dX6_isWord_82 ?_
          refine fx_iconst (pc := 84) F ⟨by decide, by decide⟩ dX6_isWord_84 ?_
          refine fx_neq (pc := 85) F 92 (by decide) dX6_isWord_85 (fun c79 => ?_) (fun c79 => ?_)
          · have e77 := (if_pos c79).symm.trans e77
            refine fx_iload_n (pc := 88) F 2 rfl rfl dX6_isWord_88 ?_
            cases e77
            refine fx_goto (pc := 89) F 126 (by decide) dX6_isWord_89 ?_
            exact hJ78
          · have e77 := (if_neg c79).symm.trans e77
            obtain ⟨v80, e81, e77⟩ := fx_bnd e77
            have hJ82 : fx_J M G Λ 10 126 [some (8, this_0), some (0, a_0), some (0, b_0), some (0, c_0), some (0, d_0), some (0, e_0), some (0, f_0), some (0, v1), some (0, is_59), some (0, k_60)] [(0, v80), (0, v70)] h := by
              cases e77
              exact hJ78
            refine fx_iload (pc := 92) F rfl dX6_isWord_92 ?_
            refine fx_iconst (pc := 94) F ⟨by decide, by decide⟩ dX6_isWord_94 ?_
            refine fx_neq (pc := 95) F 102 (by decide) dX6_isWord_95 (fun c83 => ?_) (fun c83 => ?_)
            · have e81 := (if_pos c83).symm.trans e81
              refine fx_iload_n (pc := 98) F 3 rfl rfl dX6_isWord_98 ?_
              cases e81
              refine fx_goto (pc := 99) F 126 (by decide) dX6_isWord_99 ?_
              exact hJ82
            · have e81 := (if_neg c83).symm.trans e81
              obtain ⟨v84, e85, e81⟩ := fx_bnd e81
              have hJ86 : fx_J M G Λ 10 126 [some (8, this_0), some (0, a_0), some (0, b_0), some (0, c_0), some (0, d_0), some (0, e_0), some (0, f_0), some (0, v1), some (0, is_59), some (0, k_60)] [(0, v84), (0, v70)] h := by
                cases e81
                exact hJ82
              refine fx_iload (pc := 102) F rfl dX6_isWord_102 ?_
              refine fx_iconst (pc := 104) F ⟨by decide, by decide⟩ dX6_isWord_104 ?_
              refine fx_neq (pc := 105) F 113 (by decide) dX6_isWord_105 (fun c87 => ?_) (fun c87 => ?_)
              · have e85 := (if_pos c87).symm.trans e85
                refine fx_iload (pc := 108) F rfl dX6_isWord_108 ?_
                cases e85
                refine fx_goto (pc := 110) F 126 (by decide) dX6_isWord_110 ?_
                exact hJ86
              · have e85 := (if_neg c87).symm.trans e85
                obtain ⟨v88, e89, e85⟩ := fx_bnd e85
                have hJ90 : fx_J M G Λ 10 126 [some (8, this_0), some (0, a_0), some (0, b_0), some (0, c_0), some (0, d_0), some (0, e_0), some (0, f_0), some (0, v1), some (0, is_59), some (0, k_60)] [(0, v88), (0, v70)] h := by
                  cases e85
                  exact hJ86
                refine fx_iload (pc := 113) F rfl dX6_isWord_113 ?_
                refine fx_iconst (pc := 115) F ⟨by decide, by decide⟩ dX6_isWord_115 ?_
                refine fx_neq (pc := 116) F 124 (by decide) dX6_isWord_116 (fun c91 => ?_) (fun c91 => ?_)
                · have e89 := (if_pos c91).symm.trans e89
                  refine fx_iload (pc := 119) F rfl dX6_isWord_119 ?_
                  cases e89
                  refine fx_goto (pc := 121) F 126 (by decide) dX6_isWord_121 ?_
                  exact hJ90
                · have e89 := (if_neg c91).symm.trans e89
                  refine fx_iload (pc := 124) F rfl dX6_isWord_124 ?_
                  cases e89
                  exact hJ90
      have hF63 : ¬ (((k_60 < v1) ∧ (¬ is_59 = 0))) → fx_J M G Λ 10 142 [some (8, this_0), some (0, a_0), some (0, b_0), some (0, c_0), some (0, d_0), some (0, e_0), some (0, f_0), some (0, v1), some (0, is_59), some (0, k_60)] [] h := fun c66 => by
        have eq61 := (if_neg c66).symm.trans eq61
        cases eq61
        exact ex _ rfl
      refine fx_nlt (pc := 53) F 142 (by decide) dX6_isWord_53 (fun c64 => ?_) (fun c64 => ?_)
      · refine fx_iload (pc := 56) F rfl dX6_isWord_56 ?_
        refine fx_nzne (pc := 58) F 142 (by decide) dX6_isWord_58 (fun c65 => ?_) (fun c65 => ?_)
        · exact hT62 ⟨c64, c65⟩
        · exact hF63 (fun q => c65 q.2)
      · exact hF63 (fun q => c64 q.1)
    refine fx_aload_n (pc := 22) (t := 6) F 0 rfl rfl dX6_isWord_22 ?_
    refine fx_gI (pc := 23) F 6 20 20 rfl kC_X6 rfl wF_X6_222 dX6_isWord_23 ?_
    refine fx_iconst (pc := 26) F ⟨by decide, by decide⟩ dX6_isWord_26 ?_
    have hT12 : ((((h this_0 20) = 1) ∧ ((h this_0 19) = v1))) → fx_J M G Λ 10 39 [some (8, this_0), some (0, a_0), some (0, b_0), some (0, c_0), some (0, d_0), some (0, e_0), some (0, f_0), some (0, v1), none, none] [] h := fun c16 => by
      have e10 := (if_pos c16).symm.trans e10
      refine fx_iconst (pc := 39) F ⟨by decide, by decide⟩ dX6_isWord_39 ?_
      cases e10
      refine fx_goto (pc := 40) F 44 (by decide) dX6_isWord_40 ?_
      exact hJ11
    have hF13 : ¬ ((((h this_0 20) = 1) ∧ ((h this_0 19) = v1))) → fx_J M G Λ 10 43 [some (8, this_0), some (0, a_0), some (0, b_0), some (0, c_0), some (0, d_0), some (0, e_0), some (0, f_0), some (0, v1), none, none] [] h := fun c16 => by
      have e10 := (if_neg c16).symm.trans e10
      refine fx_iconst (pc := 43) F ⟨by decide, by decide⟩ dX6_isWord_43 ?_
      cases e10
      exact hJ11
    refine fx_neq (pc := 27) F 43 (by decide) dX6_isWord_27 (fun c14 => ?_) (fun c14 => ?_)
    · refine fx_aload_n (pc := 30) (t := 6) F 0 rfl rfl dX6_isWord_30 ?_
      refine fx_gI (pc := 31) F 6 19 19 rfl kC_X6 rfl wF_X6_219 dX6_isWord_31 ?_
      refine fx_iload (pc := 34) F rfl dX6_isWord_34 ?_
      refine fx_neq (pc := 36) F 43 (by decide) dX6_isWord_36 (fun c15 => ?_) (fun c15 => ?_)
      · exact hT12 ⟨c14, c15⟩
      · exact hF13 (fun q => c15 q.2)
    · exact hF13 (fun q => c14 q.1)
  refine fx_iload (pc := 0) F rfl dX6_isWord_0 ?_
  refine fx_nzeq (pc := 2) F 9 (by decide) dX6_isWord_2 (fun c4 => ?_) (fun c4 => ?_)
  · have e2 := (if_pos c4).symm.trans e2
    refine fx_iconst (pc := 5) F ⟨by decide, by decide⟩ dX6_isWord_5 ?_
    cases e2
    refine fx_goto (pc := 6) F 20 (by decide) dX6_isWord_6 ?_
    exact hJ3
  · have e2 := (if_neg c4).symm.trans e2
    obtain ⟨v5, e6, e2⟩ := fx_bnd e2
    have hJ7 : fx_J M G Λ 10 20 [some (8, this_0), some (0, a_0), some (0, b_0), some (0, c_0), some (0, d_0), some (0, e_0), some (0, f_0), none, none, none] [(0, v5)] h := by
      cases e2
      exact hJ3
    refine fx_iload (pc := 9) F rfl dX6_isWord_9 ?_
    refine fx_nzeq (pc := 11) F 18 (by decide) dX6_isWord_11 (fun c8 => ?_) (fun c8 => ?_)
    · have e6 := (if_pos c8).symm.trans e6
      refine fx_iconst (pc := 14) F ⟨by decide, by decide⟩ dX6_isWord_14 ?_
      cases e6
      refine fx_goto (pc := 15) F 20 (by decide) dX6_isWord_15 ?_
      exact hJ7
    · have e6 := (if_neg c8).symm.trans e6
      refine fx_bipush (pc := 18) F ⟨by decide, by decide⟩ (by decide) dX6_isWord_18 ?_
      cases e6
      exact hJ7
def f_X6_takes (Fu : Nat) (Λ : fx_L) (this_0 : Int) (k_0 : Int) (low_0 : Int) (high_0 : Int) (h : fx_H) : Option (Int × fx_H) :=
  Option.bind (
    if ¬ (h this_0 20) = 2 then
      some true
    else
      (f_X6_in Fu Λ (h this_0 21) low_0 high_0 h).bind fun v6 =>
      if v6 = 0 then
        some true
      else
        some false
  ) fun b1 =>
  if b1 = true then
    some (0, h)
  else
    (fx_wr Λ h (fx_tg Λ this_0 24) k_0 (h this_0 21)).bind fun h10 =>
    (f_X6_goOn Fu Λ this_0 h10).bind fun h12 =>
    some (1, h12)
abbrev rm_X6_takes : Room := { frames := 4, cells := 0, slots := 0, locals := 89 }
set_option maxRecDepth 100000 in
set_option maxHeartbeats 4000000 in
theorem m_X6_takes (Fu : Nat) (Λ : fx_L) (this_0 : Int) (k_0 : Int) (low_0 : Int) (high_0 : Int) (h : fx_H) (r : Int) (ho : fx_H) (hf : f_X6_takes Fu Λ this_0 k_0 low_0 high_0 h = some (r, ho)) : fx_Met yX6_takes cX6_takes 4 (some .boolean) rm_X6_takes Λ [(8, this_0), (0, k_0), (0, low_0), (0, high_0)] h (some (0, r)) ho := by
  unfold f_X6_takes at hf
  refine fx_enter (ls := [some (8, this_0), some (0, k_0), some (0, low_0), some (0, high_0)]) (by decide) (Nat.le_of_ble_eq_true rfl) rfl (fun M G F K => ?_)
  obtain ⟨b1, e2, hf⟩ := fx_bnd hf
  have hT3 : b1 = true → fx_J M G Λ 4 23 [some (8, this_0), some (0, k_0), some (0, low_0), some (0, high_0)] [] h := fun c9 => by
    have hf := (if_pos c9).symm.trans hf
    refine fx_iconst (pc := 23) F ⟨by decide, by decide⟩ dX6_takes_23 ?_
    cases hf
    exact fx_zreturn (pc := 24) F (Or.inl rfl) K dX6_takes_24
  have hF4 : ¬ b1 = true → fx_J M G Λ 4 25 [some (8, this_0), some (0, k_0), some (0, low_0), some (0, high_0)] [] h := fun c9 => by
    have hf := (if_neg c9).symm.trans hf
    refine fx_aload_n (pc := 25) (t := 6) F 0 rfl rfl dX6_takes_25 ?_
    refine fx_gR (pc := 26) F 6 24 24 8 rfl kC_X6 (by decide) rfl wF_X6_63 dX6_takes_26 ?_
    refine fx_iload_n (pc := 29) F 1 rfl rfl dX6_takes_29 ?_
    refine fx_aload_n (pc := 30) (t := 6) F 0 rfl rfl dX6_takes_30 ?_
    refine fx_gI (pc := 31) F 6 21 21 rfl kC_X6 rfl wF_X6_225 dX6_takes_31 ?_
    obtain ⟨h10, e11, hf⟩ := fx_bnd hf
    refine fx_rastI (pc := 34) F e11 dX6_takes_34 ?_
    refine fx_aload_n (pc := 35) (t := 6) F 0 rfl rfl dX6_takes_35 ?_
    obtain ⟨h12, e13, hf⟩ := fx_bnd hf
    refine fx_cVv (pc := 36) F 6 kC_X6 [] this_0 [] (m_X6_goOn Fu Λ this_0 h10 _ e13) kD_X6_goOn kI_X6_goOn rfl wM_X6_237 ⟨rfl, rfl⟩ ⟨by decide, by decide⟩ (Nat.le_of_ble_eq_true rfl) rfl dX6_takes_36 ?_
    refine fx_iconst (pc := 39) F ⟨by decide, by decide⟩ dX6_takes_39 ?_
    cases hf
    exact fx_zreturn (pc := 40) F (Or.inr rfl) K dX6_takes_40
  refine fx_aload_n (pc := 0) (t := 6) F 0 rfl rfl dX6_takes_0 ?_
  refine fx_gI (pc := 1) F 6 20 20 rfl kC_X6 rfl wF_X6_222 dX6_takes_1 ?_
  refine fx_iconst (pc := 4) F ⟨by decide, by decide⟩ dX6_takes_4 ?_
  refine fx_jne (pc := 5) F 23 (by decide) dX6_takes_5 (fun c5 => ?_) (fun c5 => ?_)
  · have e2 := (if_pos c5).symm.trans e2
    cases e2
    exact hT3 (by decide)
  · have e2 := (if_neg c5).symm.trans e2
    refine fx_aload_n (pc := 8) (t := 6) F 0 rfl rfl dX6_takes_8 ?_
    refine fx_gI (pc := 9) F 6 21 21 rfl kC_X6 rfl wF_X6_225 dX6_takes_9 ?_
    refine fx_ri2l (pc := 12) F dX6_takes_12 ?_
    refine fx_iload_n (pc := 13) F 2 rfl rfl dX6_takes_13 ?_
    refine fx_ri2l (pc := 14) F dX6_takes_14 ?_
    refine fx_iload_n (pc := 15) F 3 rfl rfl dX6_takes_15 ?_
    refine fx_ri2l (pc := 16) F dX6_takes_16 ?_
    obtain ⟨v6, e7, e2⟩ := fx_bnd e2
    refine fx_cS (pc := 17) F [(1, (h this_0 21)), (1, low_0), (1, high_0)] [] (m_X6_in Fu Λ (h this_0 21) low_0 high_0 h _ e7) kD_X6_in wSt_X6_in wM_X6_74 ⟨rfl, rfl⟩ ⟨by decide, by decide⟩ (Nat.le_of_ble_eq_true rfl) rfl dX6_takes_17 ?_
    refine fx_nzeq (pc := 20) F 25 (by decide) dX6_takes_20 (fun c8 => ?_) (fun c8 => ?_)
    · have e2 := (if_pos c8).symm.trans e2
      cases e2
      exact hT3 (by decide)
    · have e2 := (if_neg c8).symm.trans e2
      cases e2
      exact hF4 (by decide)
def f_X6_readsThing (Fu : Nat) (Λ : fx_L) (this_0 : Int) (h : fx_H) : Option (Int × fx_H) :=
  (fx_rd Λ h (fx_tg Λ this_0 22) 0).bind fun v1 =>
  if v1 = 9 then
    some (0, h)
  else
    (f_X6_goOn Fu Λ this_0 h).bind fun h4 =>
    (fx_wr Λ h4 (fx_tg Λ this_0 24) 0 (-1)).bind fun h6 =>
    Option.bind (
      if (h6 this_0 20) = 2 then
        (f_X6_takes Fu Λ this_0 0 0 (fx_w (v1 - 1)) h6).bind fun (v14, h15) =>
        if v14 = 0 then
          some (true, h15)
        else
          some (false, h15)
      else
        some (false, h6)
    ) fun (b8, h12) =>
    if b8 = true then
      some (0, h12)
    else
      (fx_rd Λ h12 (fx_tg Λ this_0 24) 0).bind fun v19 =>
      (fx_wr Λ h12 (fx_tg Λ this_0 22) (fx_w (1 + v1)) v19).bind fun h21 =>
      (fx_rd Λ h21 (fx_tg Λ this_0 22) 0).bind fun v23 =>
      (fx_wr Λ h21 (fx_tg Λ this_0 22) 0 (fx_w (v23 + 1))).bind fun h25 =>
      some (1, h25)
abbrev rm_X6_readsThing : Room := { frames := 5, cells := 0, slots := 0, locals := 112 }
set_option maxRecDepth 100000 in
set_option maxHeartbeats 4000000 in
theorem m_X6_readsThing (Fu : Nat) (Λ : fx_L) (this_0 : Int) (h : fx_H) (r : Int) (ho : fx_H) (hf : f_X6_readsThing Fu Λ this_0 h = some (r, ho)) : fx_Met yX6_readsThing cX6_readsThing 2 (some .boolean) rm_X6_readsThing Λ [(8, this_0)] h (some (0, r)) ho := by
  unfold f_X6_readsThing at hf
  refine fx_enter (ls := [some (8, this_0), none]) (by decide) (Nat.le_of_ble_eq_true rfl) rfl (fun M G F K => ?_)
  refine fx_aload_n (pc := 0) (t := 6) F 0 rfl rfl dX6_readsThing_0 ?_
  refine fx_gR (pc := 1) F 6 22 22 8 rfl kC_X6 (by decide) rfl wF_X6_60 dX6_readsThing_1 ?_
  refine fx_iconst (pc := 4) F ⟨by decide, by decide⟩ dX6_readsThing_4 ?_
  obtain ⟨v1, e2, hf⟩ := fx_bnd hf
  refine fx_raldI (pc := 5) F e2 dX6_readsThing_5 ?_
  refine fx_istore_n (pc := 6) (ls' := [some (8, this_0), some (0, v1)]) F 1 rfl (by decide) rfl rfl dX6_readsThing_6 ?_
  refine fx_iload_n (pc := 7) F 1 rfl rfl dX6_readsThing_7 ?_
  refine fx_bipush (pc := 8) F ⟨by decide, by decide⟩ (by decide) dX6_readsThing_8 ?_
  refine fx_neq (pc := 10) F 15 (by decide) dX6_readsThing_10 (fun c3 => ?_) (fun c3 => ?_)
  · have hf := (if_pos c3).symm.trans hf
    refine fx_iconst (pc := 13) F ⟨by decide, by decide⟩ dX6_readsThing_13 ?_
    cases hf
    exact fx_zreturn (pc := 14) F (Or.inl rfl) K dX6_readsThing_14
  · have hf := (if_neg c3).symm.trans hf
    refine fx_aload_n (pc := 15) (t := 6) F 0 rfl rfl dX6_readsThing_15 ?_
    obtain ⟨h4, e5, hf⟩ := fx_bnd hf
    refine fx_cVv (pc := 16) F 6 kC_X6 [] this_0 [] (m_X6_goOn Fu Λ this_0 h _ e5) kD_X6_goOn kI_X6_goOn rfl wM_X6_237 ⟨rfl, rfl⟩ ⟨by decide, by decide⟩ (Nat.le_of_ble_eq_true rfl) rfl dX6_readsThing_16 ?_
    refine fx_aload_n (pc := 19) (t := 6) F 0 rfl rfl dX6_readsThing_19 ?_
    refine fx_gR (pc := 20) F 6 24 24 8 rfl kC_X6 (by decide) rfl wF_X6_63 dX6_readsThing_20 ?_
    refine fx_iconst (pc := 23) F ⟨by decide, by decide⟩ dX6_readsThing_23 ?_
    refine fx_iconst (pc := 24) F ⟨by decide, by decide⟩ dX6_readsThing_24 ?_
    obtain ⟨h6, e7, hf⟩ := fx_bnd hf
    refine fx_rastI (pc := 25) F e7 dX6_readsThing_25 ?_
    obtain ⟨⟨b8, h12⟩, e9, hf⟩ := fx_bnd hf
    have hT10 : b8 = true → fx_J M G Λ 2 46 [some (8, this_0), some (0, v1)] [] h12 := fun c18 => by
      have hf := (if_pos c18).symm.trans hf
      refine fx_iconst (pc := 46) F ⟨by decide, by decide⟩ dX6_readsThing_46 ?_
      cases hf
      exact fx_zreturn (pc := 47) F (Or.inl rfl) K dX6_readsThing_47
    have hF11 : ¬ b8 = true → fx_J M G Λ 2 48 [some (8, this_0), some (0, v1)] [] h12 := fun c18 => by
      have hf := (if_neg c18).symm.trans hf
      refine fx_aload_n (pc := 48) (t := 6) F 0 rfl rfl dX6_readsThing_48 ?_
      refine fx_gR (pc := 49) F 6 22 22 8 rfl kC_X6 (by decide) rfl wF_X6_60 dX6_readsThing_49 ?_
      refine fx_iconst (pc := 52) F ⟨by decide, by decide⟩ dX6_readsThing_52 ?_
      refine fx_iload_n (pc := 53) F 1 rfl rfl dX6_readsThing_53 ?_
      refine fx_iadd (pc := 54) F dX6_readsThing_54 ?_
      refine fx_aload_n (pc := 55) (t := 6) F 0 rfl rfl dX6_readsThing_55 ?_
      refine fx_gR (pc := 56) F 6 24 24 8 rfl kC_X6 (by decide) rfl wF_X6_63 dX6_readsThing_56 ?_
      refine fx_iconst (pc := 59) F ⟨by decide, by decide⟩ dX6_readsThing_59 ?_
      obtain ⟨v19, e20, hf⟩ := fx_bnd hf
      refine fx_raldI (pc := 60) F e20 dX6_readsThing_60 ?_
      obtain ⟨h21, e22, hf⟩ := fx_bnd hf
      refine fx_rastI (pc := 61) F e22 dX6_readsThing_61 ?_
      refine fx_aload_n (pc := 62) (t := 6) F 0 rfl rfl dX6_readsThing_62 ?_
      refine fx_gR (pc := 63) F 6 22 22 8 rfl kC_X6 (by decide) rfl wF_X6_60 dX6_readsThing_63 ?_
      refine fx_iconst (pc := 66) F ⟨by decide, by decide⟩ dX6_readsThing_66 ?_
      refine fx_dup2 (pc := 67) F (show (0 : Nat) ≠ 1 by decide) (show (10 : Nat) ≠ 1 by decide) dX6_readsThing_67 ?_
      obtain ⟨v23, e24, hf⟩ := fx_bnd hf
      refine fx_raldI (pc := 68) F e24 dX6_readsThing_68 ?_
      refine fx_iconst (pc := 69) F ⟨by decide, by decide⟩ dX6_readsThing_69 ?_
      refine fx_iadd (pc := 70) F dX6_readsThing_70 ?_
      obtain ⟨h25, e26, hf⟩ := fx_bnd hf
      refine fx_rastI (pc := 71) F e26 dX6_readsThing_71 ?_
      refine fx_iconst (pc := 72) F ⟨by decide, by decide⟩ dX6_readsThing_72 ?_
      cases hf
      exact fx_zreturn (pc := 73) F (Or.inr rfl) K dX6_readsThing_73
    refine fx_aload_n (pc := 26) (t := 6) F 0 rfl rfl dX6_readsThing_26 ?_
    refine fx_gI (pc := 27) F 6 20 20 rfl kC_X6 rfl wF_X6_222 dX6_readsThing_27 ?_
    refine fx_iconst (pc := 30) F ⟨by decide, by decide⟩ dX6_readsThing_30 ?_
    refine fx_neq (pc := 31) F 48 (by decide) dX6_readsThing_31 (fun c13 => ?_) (fun c13 => ?_)
    · have e9 := (if_pos c13).symm.trans e9
      refine fx_aload_n (pc := 34) (t := 6) F 0 rfl rfl dX6_readsThing_34 ?_
      refine fx_iconst (pc := 35) F ⟨by decide, by decide⟩ dX6_readsThing_35 ?_
      refine fx_iconst (pc := 36) F ⟨by decide, by decide⟩ dX6_readsThing_36 ?_
      refine fx_iload_n (pc := 37) F 1 rfl rfl dX6_readsThing_37 ?_
      refine fx_iconst (pc := 38) F ⟨by decide, by decide⟩ dX6_readsThing_38 ?_
      refine fx_isub (pc := 39) F dX6_readsThing_39 ?_
      obtain ⟨⟨v14, h15⟩, e16, e9⟩ := fx_bnd e9
      refine fx_cV (pc := 40) F 6 kC_X6 [(0, 0), (0, 0), (0, (fx_w (v1 - 1)))] this_0 [] (m_X6_takes Fu Λ this_0 0 0 (fx_w (v1 - 1)) h6 _ _ e16) kD_X6_takes kI_X6_takes rfl wM_X6_240 ⟨rfl, rfl⟩ ⟨by decide, by decide⟩ (Nat.le_of_ble_eq_true rfl) rfl dX6_readsThing_40 ?_
      refine fx_nzeq (pc := 43) F 48 (by decide) dX6_readsThing_43 (fun c17 => ?_) (fun c17 => ?_)
      · have e9 := (if_pos c17).symm.trans e9
        cases e9
        exact hT10 (by decide)
      · have e9 := (if_neg c17).symm.trans e9
        cases e9
        exact hF11 (by decide)
    · have e9 := (if_neg c13).symm.trans e9
      cases e9
      exact hF11 (by decide)
def f_X6_readsSize (Fu : Nat) (Λ : fx_L) (this_0 : Int) (to_0 : Int) (h : fx_H) : Option (Int × fx_H) :=
  if ¬ (h this_0 23) = 0 then
    some (0, h)
  else
    (f_X6_goOn Fu Λ this_0 h).bind fun h2 =>
    (f_X6_takes Fu Λ this_0 0 1 5 h2).bind fun (v4, h5) =>
    (fx_rd Λ h5 (fx_tg Λ this_0 24) 0).bind fun v7 =>
    (fx_wr Λ h5 (fx_tg Λ this_0 22) to_0 v7).bind fun h9 =>
    (fx_zb v4).bind fun z11 =>
    some (z11, h9)
abbrev rm_X6_readsSize : Room := { frames := 5, cells := 0, slots := 0, locals := 112 }
set_option maxRecDepth 100000 in
set_option maxHeartbeats 4000000 in
theorem m_X6_readsSize (Fu : Nat) (Λ : fx_L) (this_0 : Int) (to_0 : Int) (h : fx_H) (r : Int) (ho : fx_H) (hf : f_X6_readsSize Fu Λ this_0 to_0 h = some (r, ho)) : fx_Met yX6_readsSize cX6_readsSize 3 (some .boolean) rm_X6_readsSize Λ [(8, this_0), (0, to_0)] h (some (0, r)) ho := by
  unfold f_X6_readsSize at hf
  refine fx_enter (ls := [some (8, this_0), some (0, to_0), none]) (by decide) (Nat.le_of_ble_eq_true rfl) rfl (fun M G F K => ?_)
  refine fx_aload_n (pc := 0) (t := 6) F 0 rfl rfl dX6_readsSize_0 ?_
  refine fx_gI (pc := 1) F 6 23 23 rfl kC_X6 rfl wF_X6_244 dX6_readsSize_1 ?_
  refine fx_nzne (pc := 4) F 9 (by decide) dX6_readsSize_4 (fun c1 => ?_) (fun c1 => ?_)
  · have hf := (if_pos c1).symm.trans hf
    refine fx_iconst (pc := 7) F ⟨by decide, by decide⟩ dX6_readsSize_7 ?_
    cases hf
    exact fx_zreturn (pc := 8) F (Or.inl rfl) K dX6_readsSize_8
  · have hf := (if_neg c1).symm.trans hf
    refine fx_aload_n (pc := 9) (t := 6) F 0 rfl rfl dX6_readsSize_9 ?_
    obtain ⟨h2, e3, hf⟩ := fx_bnd hf
    refine fx_cVv (pc := 10) F 6 kC_X6 [] this_0 [] (m_X6_goOn Fu Λ this_0 h _ e3) kD_X6_goOn kI_X6_goOn rfl wM_X6_237 ⟨rfl, rfl⟩ ⟨by decide, by decide⟩ (Nat.le_of_ble_eq_true rfl) rfl dX6_readsSize_10 ?_
    refine fx_aload_n (pc := 13) (t := 6) F 0 rfl rfl dX6_readsSize_13 ?_
    refine fx_iconst (pc := 14) F ⟨by decide, by decide⟩ dX6_readsSize_14 ?_
    refine fx_iconst (pc := 15) F ⟨by decide, by decide⟩ dX6_readsSize_15 ?_
    refine fx_iconst (pc := 16) F ⟨by decide, by decide⟩ dX6_readsSize_16 ?_
    obtain ⟨⟨v4, h5⟩, e6, hf⟩ := fx_bnd hf
    refine fx_cV (pc := 17) F 6 kC_X6 [(0, 0), (0, 1), (0, 5)] this_0 [] (m_X6_takes Fu Λ this_0 0 1 5 h2 _ _ e6) kD_X6_takes kI_X6_takes rfl wM_X6_240 ⟨rfl, rfl⟩ ⟨by decide, by decide⟩ (Nat.le_of_ble_eq_true rfl) rfl dX6_readsSize_17 ?_
    refine fx_istore_n (pc := 20) (ls' := [some (8, this_0), some (0, to_0), some (0, v4)]) F 2 rfl (by decide) rfl rfl dX6_readsSize_20 ?_
    refine fx_aload_n (pc := 21) (t := 6) F 0 rfl rfl dX6_readsSize_21 ?_
    refine fx_gR (pc := 22) F 6 22 22 8 rfl kC_X6 (by decide) rfl wF_X6_60 dX6_readsSize_22 ?_
    refine fx_iload_n (pc := 25) F 1 rfl rfl dX6_readsSize_25 ?_
    refine fx_aload_n (pc := 26) (t := 6) F 0 rfl rfl dX6_readsSize_26 ?_
    refine fx_gR (pc := 27) F 6 24 24 8 rfl kC_X6 (by decide) rfl wF_X6_63 dX6_readsSize_27 ?_
    refine fx_iconst (pc := 30) F ⟨by decide, by decide⟩ dX6_readsSize_30 ?_
    obtain ⟨v7, e8, hf⟩ := fx_bnd hf
    refine fx_raldI (pc := 31) F e8 dX6_readsSize_31 ?_
    obtain ⟨h9, e10, hf⟩ := fx_bnd hf
    refine fx_rastI (pc := 32) F e10 dX6_readsSize_32 ?_
    refine fx_iload_n (pc := 33) F 2 rfl rfl dX6_readsSize_33 ?_
    obtain ⟨z11, e12, hf⟩ := fx_bnd hf
    obtain ⟨e12, hzz11⟩ := fx_zb_use e12
    refine fx_top (X := fx_X) e12 ?_
    cases hf
    exact fx_zreturn (pc := 34) F hzz11 K dX6_readsSize_34
def f_X6_readsHour (Fu : Nat) (Λ : fx_L) (this_0 : Int) (h : fx_H) : Option (Int × fx_H) :=
  (f_X6_goOn Fu Λ this_0 (fx_up h this_0 23 1)).bind fun h1 =>
  Option.bind (
    (fx_rd Λ h1 (fx_tg Λ this_0 22) 11).bind fun v8 =>
    (f_X6_takes Fu Λ this_0 0 0 (fx_w (v8 - 1)) h1).bind fun (v10, h11) =>
    if v10 = 0 then
      some (true, h11)
    else
      (f_X6_takes Fu Λ this_0 1 0 5 h11).bind fun (v14, h15) =>
      if v14 = 0 then
        some (true, h15)
      else
        some (false, h15)
  ) fun (b3, h7) =>
  if b3 = true then
    some (0, h7)
  else
    (fx_rd Λ h7 (fx_tg Λ this_0 24) 0).bind fun v19 =>
    (fx_rd Λ h7 (fx_tg Λ this_0 24) 1).bind fun v21 =>
    (fx_wr Λ h7 (fx_tg Λ this_0 22) (fx_w (14 + v19)) v21).bind fun h23 =>
    some (1, h23)
abbrev rm_X6_readsHour : Room := { frames := 5, cells := 0, slots := 0, locals := 112 }
set_option maxRecDepth 100000 in
set_option maxHeartbeats 4000000 in
theorem m_X6_readsHour (Fu : Nat) (Λ : fx_L) (this_0 : Int) (h : fx_H) (r : Int) (ho : fx_H) (hf : f_X6_readsHour Fu Λ this_0 h = some (r, ho)) : fx_Met yX6_readsHour cX6_readsHour 1 (some .boolean) rm_X6_readsHour Λ [(8, this_0)] h (some (0, r)) ho := by
  unfold f_X6_readsHour at hf
  refine fx_enter (ls := [some (8, this_0)]) (by decide) (Nat.le_of_ble_eq_true rfl) rfl (fun M G F K => ?_)
  refine fx_aload_n (pc := 0) (t := 6) F 0 rfl rfl dX6_readsHour_0 ?_
  refine fx_iconst (pc := 1) F ⟨by decide, by decide⟩ dX6_readsHour_1 ?_
  refine fx_pZ (pc := 2) F 6 23 23 rfl kC_X6 rfl rfl (by decide +kernel) wF_X6_244 (Or.inr rfl) dX6_readsHour_2 ?_
  refine fx_aload_n (pc := 5) (t := 6) F 0 rfl rfl dX6_readsHour_5 ?_
  obtain ⟨h1, e2, hf⟩ := fx_bnd hf
  refine fx_cVv (pc := 6) F 6 kC_X6 [] this_0 [] (m_X6_goOn Fu Λ this_0 (fx_up h this_0 23 1) _ e2) kD_X6_goOn kI_X6_goOn rfl wM_X6_237 ⟨rfl, rfl⟩ ⟨by decide, by decide⟩ (Nat.le_of_ble_eq_true rfl) rfl dX6_readsHour_6 ?_
  obtain ⟨⟨b3, h7⟩, e4, hf⟩ := fx_bnd hf
  have hT5 : b3 = true → fx_J M G Λ 1 37 [some (8, this_0)] [] h7 := fun c18 => by
    have hf := (if_pos c18).symm.trans hf
    refine fx_iconst (pc := 37) F ⟨by decide, by decide⟩ dX6_readsHour_37 ?_
    cases hf
    exact fx_zreturn (pc := 38) F (Or.inl rfl) K dX6_readsHour_38
  have hF6 : ¬ b3 = true → fx_J M G Λ 1 39 [some (8, this_0)] [] h7 := fun c18 => by
    have hf := (if_neg c18).symm.trans hf
    refine fx_aload_n (pc := 39) (t := 6) F 0 rfl rfl dX6_readsHour_39 ?_
    refine fx_gR (pc := 40) F 6 22 22 8 rfl kC_X6 (by decide) rfl wF_X6_60 dX6_readsHour_40 ?_
    refine fx_bipush (pc := 43) F ⟨by decide, by decide⟩ (by decide) dX6_readsHour_43 ?_
    refine fx_aload_n (pc := 45) (t := 6) F 0 rfl rfl dX6_readsHour_45 ?_
    refine fx_gR (pc := 46) F 6 24 24 8 rfl kC_X6 (by decide) rfl wF_X6_63 dX6_readsHour_46 ?_
    refine fx_iconst (pc := 49) F ⟨by decide, by decide⟩ dX6_readsHour_49 ?_
    obtain ⟨v19, e20, hf⟩ := fx_bnd hf
    refine fx_raldI (pc := 50) F e20 dX6_readsHour_50 ?_
    refine fx_iadd (pc := 51) F dX6_readsHour_51 ?_
    refine fx_aload_n (pc := 52) (t := 6) F 0 rfl rfl dX6_readsHour_52 ?_
    refine fx_gR (pc := 53) F 6 24 24 8 rfl kC_X6 (by decide) rfl wF_X6_63 dX6_readsHour_53 ?_
    refine fx_iconst (pc := 56) F ⟨by decide, by decide⟩ dX6_readsHour_56 ?_
    obtain ⟨v21, e22, hf⟩ := fx_bnd hf
    refine fx_raldI (pc := 57) F e22 dX6_readsHour_57 ?_
    obtain ⟨h23, e24, hf⟩ := fx_bnd hf
    refine fx_rastI (pc := 58) F e24 dX6_readsHour_58 ?_
    refine fx_iconst (pc := 59) F ⟨by decide, by decide⟩ dX6_readsHour_59 ?_
    cases hf
    exact fx_zreturn (pc := 60) F (Or.inr rfl) K dX6_readsHour_60
  refine fx_aload_n (pc := 9) (t := 6) F 0 rfl rfl dX6_readsHour_9 ?_
  refine fx_iconst (pc := 10) F ⟨by decide, by decide⟩ dX6_readsHour_10 ?_
  refine fx_iconst (pc := 11) F ⟨by decide, by decide⟩ dX6_readsHour_11 ?_
  refine fx_aload_n (pc := 12) (t := 6) F 0 rfl rfl dX6_readsHour_12 ?_
  refine fx_gR (pc := 13) F 6 22 22 8 rfl kC_X6 (by decide) rfl wF_X6_60 dX6_readsHour_13 ?_
  refine fx_bipush (pc := 16) F ⟨by decide, by decide⟩ (by decide) dX6_readsHour_16 ?_
  obtain ⟨v8, e9, e4⟩ := fx_bnd e4
  refine fx_raldI (pc := 18) F e9 dX6_readsHour_18 ?_
  refine fx_iconst (pc := 19) F ⟨by decide, by decide⟩ dX6_readsHour_19 ?_
  refine fx_isub (pc := 20) F dX6_readsHour_20 ?_
  obtain ⟨⟨v10, h11⟩, e12, e4⟩ := fx_bnd e4
  refine fx_cV (pc := 21) F 6 kC_X6 [(0, 0), (0, 0), (0, (fx_w (v8 - 1)))] this_0 [] (m_X6_takes Fu Λ this_0 0 0 (fx_w (v8 - 1)) h1 _ _ e12) kD_X6_takes kI_X6_takes rfl wM_X6_240 ⟨rfl, rfl⟩ ⟨by decide, by decide⟩ (Nat.le_of_ble_eq_true rfl) rfl dX6_readsHour_21 ?_
  refine fx_jzeq (pc := 24) F 37 (by decide) dX6_readsHour_24 (fun c13 => ?_) (fun c13 => ?_)
  · have e4 := (if_pos c13).symm.trans e4
    cases e4
    exact hT5 (by decide)
  · have e4 := (if_neg c13).symm.trans e4
    refine fx_aload_n (pc := 27) (t := 6) F 0 rfl rfl dX6_readsHour_27 ?_
    refine fx_iconst (pc := 28) F ⟨by decide, by decide⟩ dX6_readsHour_28 ?_
    refine fx_iconst (pc := 29) F ⟨by decide, by decide⟩ dX6_readsHour_29 ?_
    refine fx_iconst (pc := 30) F ⟨by decide, by decide⟩ dX6_readsHour_30 ?_
    obtain ⟨⟨v14, h15⟩, e16, e4⟩ := fx_bnd e4
    refine fx_cV (pc := 31) F 6 kC_X6 [(0, 1), (0, 0), (0, 5)] this_0 [] (m_X6_takes Fu Λ this_0 1 0 5 h11 _ _ e16) kD_X6_takes kI_X6_takes rfl wM_X6_240 ⟨rfl, rfl⟩ ⟨by decide, by decide⟩ (Nat.le_of_ble_eq_true rfl) rfl dX6_readsHour_31 ?_
    refine fx_nzeq (pc := 34) F 39 (by decide) dX6_readsHour_34 (fun c17 => ?_) (fun c17 => ?_)
    · have e4 := (if_pos c17).symm.trans e4
      cases e4
      exact hT5 (by decide)
    · have e4 := (if_neg c17).symm.trans e4
      cases e4
      exact hF6 (by decide)
def f_X6_readsDoes (Fu : Nat) (Λ : fx_L) (this_0 : Int) (h : fx_H) : Option (Int × fx_H) :=
  (f_X6_goOn Fu Λ this_0 (fx_up h this_0 23 1)).bind fun h1 =>
  Option.bind (
    (fx_rd Λ h1 (fx_tg Λ this_0 22) 10).bind fun v8 =>
    (f_X6_takes Fu Λ this_0 0 0 (fx_w (v8 - 1)) h1).bind fun (v10, h11) =>
    if v10 = 0 then
      some (true, h11)
    else
      (fx_rd Λ h11 (fx_tg Λ this_0 22) 11).bind fun v14 =>
      (f_X6_takes Fu Λ this_0 1 0 (fx_w (v14 - 1)) h11).bind fun (v16, h17) =>
      if v16 = 0 then
        some (true, h17)
      else
        (fx_rd Λ h17 (fx_tg Λ this_0 22) 0).bind fun v20 =>
        (f_X6_takes Fu Λ this_0 2 0 (fx_w (v20 - 1)) h17).bind fun (v22, h23) =>
        if v22 = 0 then
          some (true, h23)
        else
          some (false, h23)
  ) fun (b3, h7) =>
  if b3 = true then
    some (0, h7)
  else
    (fx_rd Λ h7 (fx_tg Λ this_0 24) 0).bind fun v27 =>
    (fx_rd Λ h7 (fx_tg Λ this_0 24) 1).bind fun v29 =>
    (fx_rd Λ h7 (fx_tg Λ this_0 24) 2).bind fun v31 =>
    (fx_wr Λ h7 (fx_tg Λ this_0 22) (fx_w ((fx_w (19 + (fx_w (5 * v27)))) + v29)) v31).bind fun h33 =>
    some (1, h33)
abbrev rm_X6_readsDoes : Room := { frames := 5, cells := 0, slots := 0, locals := 112 }
set_option maxRecDepth 100000 in
set_option maxHeartbeats 4000000 in
theorem m_X6_readsDoes (Fu : Nat) (Λ : fx_L) (this_0 : Int) (h : fx_H) (r : Int) (ho : fx_H) (hf : f_X6_readsDoes Fu Λ this_0 h = some (r, ho)) : fx_Met yX6_readsDoes cX6_readsDoes 1 (some .boolean) rm_X6_readsDoes Λ [(8, this_0)] h (some (0, r)) ho := by
  unfold f_X6_readsDoes at hf
  refine fx_enter (ls := [some (8, this_0)]) (by decide) (Nat.le_of_ble_eq_true rfl) rfl (fun M G F K => ?_)
  refine fx_aload_n (pc := 0) (t := 6) F 0 rfl rfl dX6_readsDoes_0 ?_
  refine fx_iconst (pc := 1) F ⟨by decide, by decide⟩ dX6_readsDoes_1 ?_
  refine fx_pZ (pc := 2) F 6 23 23 rfl kC_X6 rfl rfl (by decide +kernel) wF_X6_244 (Or.inr rfl) dX6_readsDoes_2 ?_
  refine fx_aload_n (pc := 5) (t := 6) F 0 rfl rfl dX6_readsDoes_5 ?_
  obtain ⟨h1, e2, hf⟩ := fx_bnd hf
  refine fx_cVv (pc := 6) F 6 kC_X6 [] this_0 [] (m_X6_goOn Fu Λ this_0 (fx_up h this_0 23 1) _ e2) kD_X6_goOn kI_X6_goOn rfl wM_X6_237 ⟨rfl, rfl⟩ ⟨by decide, by decide⟩ (Nat.le_of_ble_eq_true rfl) rfl dX6_readsDoes_6 ?_
  obtain ⟨⟨b3, h7⟩, e4, hf⟩ := fx_bnd hf
  have hT5 : b3 = true → fx_J M G Λ 1 62 [some (8, this_0)] [] h7 := fun c26 => by
    have hf := (if_pos c26).symm.trans hf
    refine fx_iconst (pc := 62) F ⟨by decide, by decide⟩ dX6_readsDoes_62 ?_
    cases hf
    exact fx_zreturn (pc := 63) F (Or.inl rfl) K dX6_readsDoes_63
  have hF6 : ¬ b3 = true → fx_J M G Λ 1 64 [some (8, this_0)] [] h7 := fun c26 => by
    have hf := (if_neg c26).symm.trans hf
    refine fx_aload_n (pc := 64) (t := 6) F 0 rfl rfl dX6_readsDoes_64 ?_
    refine fx_gR (pc := 65) F 6 22 22 8 rfl kC_X6 (by decide) rfl wF_X6_60 dX6_readsDoes_65 ?_
    refine fx_bipush (pc := 68) F ⟨by decide, by decide⟩ (by decide) dX6_readsDoes_68 ?_
    refine fx_iconst (pc := 70) F ⟨by decide, by decide⟩ dX6_readsDoes_70 ?_
    refine fx_aload_n (pc := 71) (t := 6) F 0 rfl rfl dX6_readsDoes_71 ?_
    refine fx_gR (pc := 72) F 6 24 24 8 rfl kC_X6 (by decide) rfl wF_X6_63 dX6_readsDoes_72 ?_
    refine fx_iconst (pc := 75) F ⟨by decide, by decide⟩ dX6_readsDoes_75 ?_
    obtain ⟨v27, e28, hf⟩ := fx_bnd hf
    refine fx_raldI (pc := 76) F e28 dX6_readsDoes_76 ?_
    refine fx_imul (pc := 77) F dX6_readsDoes_77 ?_
    refine fx_iadd (pc := 78) F dX6_readsDoes_78 ?_
    refine fx_aload_n (pc := 79) (t := 6) F 0 rfl rfl dX6_readsDoes_79 ?_
    refine fx_gR (pc := 80) F 6 24 24 8 rfl kC_X6 (by decide) rfl wF_X6_63 dX6_readsDoes_80 ?_
    refine fx_iconst (pc := 83) F ⟨by decide, by decide⟩ dX6_readsDoes_83 ?_
    obtain ⟨v29, e30, hf⟩ := fx_bnd hf
    refine fx_raldI (pc := 84) F e30 dX6_readsDoes_84 ?_
    refine fx_iadd (pc := 85) F dX6_readsDoes_85 ?_
    refine fx_aload_n (pc := 86) (t := 6) F 0 rfl rfl dX6_readsDoes_86 ?_
    refine fx_gR (pc := 87) F 6 24 24 8 rfl kC_X6 (by decide) rfl wF_X6_63 dX6_readsDoes_87 ?_
    refine fx_iconst (pc := 90) F ⟨by decide, by decide⟩ dX6_readsDoes_90 ?_
    obtain ⟨v31, e32, hf⟩ := fx_bnd hf
    refine fx_raldI (pc := 91) F e32 dX6_readsDoes_91 ?_
    obtain ⟨h33, e34, hf⟩ := fx_bnd hf
    refine fx_rastI (pc := 92) F e34 dX6_readsDoes_92 ?_
    refine fx_iconst (pc := 93) F ⟨by decide, by decide⟩ dX6_readsDoes_93 ?_
    cases hf
    exact fx_zreturn (pc := 94) F (Or.inr rfl) K dX6_readsDoes_94
  refine fx_aload_n (pc := 9) (t := 6) F 0 rfl rfl dX6_readsDoes_9 ?_
  refine fx_iconst (pc := 10) F ⟨by decide, by decide⟩ dX6_readsDoes_10 ?_
  refine fx_iconst (pc := 11) F ⟨by decide, by decide⟩ dX6_readsDoes_11 ?_
  refine fx_aload_n (pc := 12) (t := 6) F 0 rfl rfl dX6_readsDoes_12 ?_
  refine fx_gR (pc := 13) F 6 22 22 8 rfl kC_X6 (by decide) rfl wF_X6_60 dX6_readsDoes_13 ?_
  refine fx_bipush (pc := 16) F ⟨by decide, by decide⟩ (by decide) dX6_readsDoes_16 ?_
  obtain ⟨v8, e9, e4⟩ := fx_bnd e4
  refine fx_raldI (pc := 18) F e9 dX6_readsDoes_18 ?_
  refine fx_iconst (pc := 19) F ⟨by decide, by decide⟩ dX6_readsDoes_19 ?_
  refine fx_isub (pc := 20) F dX6_readsDoes_20 ?_
  obtain ⟨⟨v10, h11⟩, e12, e4⟩ := fx_bnd e4
  refine fx_cV (pc := 21) F 6 kC_X6 [(0, 0), (0, 0), (0, (fx_w (v8 - 1)))] this_0 [] (m_X6_takes Fu Λ this_0 0 0 (fx_w (v8 - 1)) h1 _ _ e12) kD_X6_takes kI_X6_takes rfl wM_X6_240 ⟨rfl, rfl⟩ ⟨by decide, by decide⟩ (Nat.le_of_ble_eq_true rfl) rfl dX6_readsDoes_21 ?_
  refine fx_jzeq (pc := 24) F 62 (by decide) dX6_readsDoes_24 (fun c13 => ?_) (fun c13 => ?_)
  · have e4 := (if_pos c13).symm.trans e4
    cases e4
    exact hT5 (by decide)
  · have e4 := (if_neg c13).symm.trans e4
    refine fx_aload_n (pc := 27) (t := 6) F 0 rfl rfl dX6_readsDoes_27 ?_
    refine fx_iconst (pc := 28) F ⟨by decide, by decide⟩ dX6_readsDoes_28 ?_
    refine fx_iconst (pc := 29) F ⟨by decide, by decide⟩ dX6_readsDoes_29 ?_
    refine fx_aload_n (pc := 30) (t := 6) F 0 rfl rfl dX6_readsDoes_30 ?_
    refine fx_gR (pc := 31) F 6 22 22 8 rfl kC_X6 (by decide) rfl wF_X6_60 dX6_readsDoes_31 ?_
    refine fx_bipush (pc := 34) F ⟨by decide, by decide⟩ (by decide) dX6_readsDoes_34 ?_
    obtain ⟨v14, e15, e4⟩ := fx_bnd e4
    refine fx_raldI (pc := 36) F e15 dX6_readsDoes_36 ?_
    refine fx_iconst (pc := 37) F ⟨by decide, by decide⟩ dX6_readsDoes_37 ?_
    refine fx_isub (pc := 38) F dX6_readsDoes_38 ?_
    obtain ⟨⟨v16, h17⟩, e18, e4⟩ := fx_bnd e4
    refine fx_cV (pc := 39) F 6 kC_X6 [(0, 1), (0, 0), (0, (fx_w (v14 - 1)))] this_0 [] (m_X6_takes Fu Λ this_0 1 0 (fx_w (v14 - 1)) h11 _ _ e18) kD_X6_takes kI_X6_takes rfl wM_X6_240 ⟨rfl, rfl⟩ ⟨by decide, by decide⟩ (Nat.le_of_ble_eq_true rfl) rfl dX6_readsDoes_39 ?_
    refine fx_jzeq (pc := 42) F 62 (by decide) dX6_readsDoes_42 (fun c19 => ?_) (fun c19 => ?_)
    · have e4 := (if_pos c19).symm.trans e4
      cases e4
      exact hT5 (by decide)
    · have e4 := (if_neg c19).symm.trans e4
      refine fx_aload_n (pc := 45) (t := 6) F 0 rfl rfl dX6_readsDoes_45 ?_
      refine fx_iconst (pc := 46) F ⟨by decide, by decide⟩ dX6_readsDoes_46 ?_
      refine fx_iconst (pc := 47) F ⟨by decide, by decide⟩ dX6_readsDoes_47 ?_
      refine fx_aload_n (pc := 48) (t := 6) F 0 rfl rfl dX6_readsDoes_48 ?_
      refine fx_gR (pc := 49) F 6 22 22 8 rfl kC_X6 (by decide) rfl wF_X6_60 dX6_readsDoes_49 ?_
      refine fx_iconst (pc := 52) F ⟨by decide, by decide⟩ dX6_readsDoes_52 ?_
      obtain ⟨v20, e21, e4⟩ := fx_bnd e4
      refine fx_raldI (pc := 53) F e21 dX6_readsDoes_53 ?_
      refine fx_iconst (pc := 54) F ⟨by decide, by decide⟩ dX6_readsDoes_54 ?_
      refine fx_isub (pc := 55) F dX6_readsDoes_55 ?_
      obtain ⟨⟨v22, h23⟩, e24, e4⟩ := fx_bnd e4
      refine fx_cV (pc := 56) F 6 kC_X6 [(0, 2), (0, 0), (0, (fx_w (v20 - 1)))] this_0 [] (m_X6_takes Fu Λ this_0 2 0 (fx_w (v20 - 1)) h17 _ _ e24) kD_X6_takes kI_X6_takes rfl wM_X6_240 ⟨rfl, rfl⟩ ⟨by decide, by decide⟩ (Nat.le_of_ble_eq_true rfl) rfl dX6_readsDoes_56 ?_
      refine fx_nzeq (pc := 59) F 64 (by decide) dX6_readsDoes_59 (fun c25 => ?_) (fun c25 => ?_)
      · have e4 := (if_pos c25).symm.trans e4
        cases e4
        exact hT5 (by decide)
      · have e4 := (if_neg c25).symm.trans e4
        cases e4
        exact hF6 (by decide)
