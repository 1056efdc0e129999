def s_X6_choir_2 (Fu : Nat) (Λ : fx_L) (this_33 : Int) (thing_34 : Int) (m_35 : Int) (h_36 : Int) : Int × fx_H → Option ((Int × fx_H) ⊕ (Int × fx_H)) := fun (p_31, h32) =>
  if p_31 < m_35 then
    (fx_wr Λ h32 (fx_tg Λ this_33 8) (fx_w ((fx_w (5 * p_31)) + h_36)) thing_34).bind fun h39 =>
    some (.inl ((fx_w (p_31 + 1)), h39))
  else
    some (.inr (p_31, h32))
def s_X6_choir_3 (Fu : Nat) (Λ : fx_L) (this_53 : Int) (m_54 : Int) (h_55 : Int) (h : fx_H) : Int × Int → Option ((Int × Int) ⊕ (Int × Int)) := fun (sum_51, p_52) =>
  if p_52 < m_54 then
    (f_X6_paysOf Fu Λ this_53 p_52 h_55 h).bind fun v58 =>
    some (.inl ((fx_w (sum_51 + v58)), (fx_w (p_52 + 1))))
  else
    some (.inr (sum_51, p_52))
def s_X6_choir_1 (Fu : Nat) (Λ : fx_L) (this_22 : Int) (thing_23 : Int) (m_24 : Int) : Int × Int × fx_H → Option ((Int × Int × fx_H) ⊕ (Int × Int × fx_H)) := fun (least_19, h_20, h21) =>
  (f_X6_hours Fu Λ this_22 h21).bind fun v26 =>
  if h_20 < v26 then
    (f_X6_takeNothing Fu Λ this_22 h21).bind fun h29 =>
    Option.bind (fx_loop (s_X6_choir_2 Fu Λ this_22 thing_23 m_24 h_20) Fu (0, h29)) fun (p_47, h48) =>
    Option.bind (fx_loop (s_X6_choir_3 Fu Λ this_22 m_24 h_20 h48) Fu (0, 0)) fun (sum_66, p_67) =>
    Option.bind (
      if sum_66 < least_19 then
        some sum_66
      else
        some least_19
    ) fun v70 =>
    some (.inl (v70, (fx_w (h_20 + 1)), h48))
  else
    some (.inr (least_19, h_20, h21))
def f_X6_choir (Fu : Nat) (Λ : fx_L) (this_0 : Int) (thing_0 : Int) (m_0 : Int) (h : fx_H) : Option (Int × fx_H) :=
  Option.bind (
    (f_X6_isThing Fu Λ this_0 thing_0 h).bind fun v5 =>
    if v5 = 0 then
      some true
    else
      (f_X6_people Fu Λ this_0 h).bind fun v8 =>
      (f_X6_in Fu Λ m_0 1 v8 h).bind fun v10 =>
      if v10 = 0 then
        some true
      else
        some false
  ) fun b1 =>
  if b1 = true then
    (f_X6_bad Fu Λ this_0 (-2) h).bind fun (v14, h15) =>
    some (v14, h15)
  else
    (f_X6_layNow Fu Λ this_0 h).bind fun h17 =>
    Option.bind (fx_loop (s_X6_choir_1 Fu Λ this_0 thing_0 m_0) Fu (1000000, 0, h17)) fun (least_126, h_127, h128) =>
    some (least_126, h128)
abbrev rm_X6_choir : Room := { frames := 3, cells := 0, slots := 0, locals := 77 }
set_option maxRecDepth 100000 in
set_option maxHeartbeats 4000000 in
theorem m_X6_choir (Fu : Nat) (Λ : fx_L) (this_0 : Int) (thing_0 : Int) (m_0 : Int) (h : fx_H) (r : Int) (ho : fx_H) (hf : f_X6_choir Fu Λ this_0 thing_0 m_0 h = some (r, ho)) : fx_Met yX6_choir cX6_choir 7 (some .int) rm_X6_choir Λ [(8, this_0), (0, thing_0), (0, m_0)] h (some (0, r)) ho := by
  unfold f_X6_choir at hf
  refine fx_enter (ls := [some (8, this_0), some (0, thing_0), some (0, m_0), none, none, none, none]) (by decide) (Nat.le_of_ble_eq_true rfl) rfl (fun M G F K => ?_)
  obtain ⟨b1, e2, hf⟩ := fx_bnd hf
  have hT3 : b1 = true → fx_J M G Λ 7 22 [some (8, this_0), some (0, thing_0), some (0, m_0), none, none, none, none] [] h := fun c13 => by
    have hf := (if_pos c13).symm.trans hf
    refine fx_aload_n (pc := 22) (t := 6) F 0 rfl rfl dX6_choir_22 ?_
    refine fx_bipush (pc := 23) F ⟨by decide, by decide⟩ (by decide) dX6_choir_23 ?_
    obtain ⟨⟨v14, h15⟩, e16, hf⟩ := fx_bnd hf
    refine fx_cV (pc := 25) F 6 kC_X6 [(0, (-2))] this_0 [] (m_X6_bad Fu Λ this_0 (-2) h _ _ e16) kD_X6_bad kI_X6_bad rfl wM_X6_88 ⟨rfl, rfl⟩ ⟨by decide, by decide⟩ (Nat.le_of_ble_eq_true rfl) rfl dX6_choir_25 ?_
    cases hf
    exact fx_ireturn (pc := 28) F K dX6_choir_28
  have hF4 : ¬ b1 = true → fx_J M G Λ 7 29 [some (8, this_0), some (0, thing_0), some (0, m_0), none, none, none, none] [] h := fun c13 => by
    have hf := (if_neg c13).symm.trans hf
    refine fx_aload_n (pc := 29) (t := 6) F 0 rfl rfl dX6_choir_29 ?_
    obtain ⟨h17, e18, hf⟩ := fx_bnd hf
    refine fx_cVv (pc := 30) F 6 kC_X6 [] this_0 [] (m_X6_layNow Fu Λ this_0 h _ e18) kD_X6_layNow kI_X6_layNow rfl wM_X6_119 ⟨rfl, rfl⟩ ⟨by decide, by decide⟩ (Nat.le_of_ble_eq_true rfl) rfl dX6_choir_30 ?_
    refine fx_ldc (pc := 33) (z := 1000000) F (by decide) ⟨by decide, by decide⟩ wK_X6_158 dX6_choir_33 ?_
    refine fx_istore_n (pc := 35) (ls' := [some (8, this_0), some (0, thing_0), some (0, m_0), some (0, 1000000), none, none, none]) F 3 rfl (by decide) rfl rfl dX6_choir_35 ?_
    refine fx_iconst (pc := 36) F ⟨by decide, by decide⟩ dX6_choir_36 ?_
    refine fx_istore (pc := 37) (ls' := [some (8, this_0), some (0, thing_0), some (0, m_0), some (0, 1000000), some (0, 0), none, none]) F (by decide) rfl rfl dX6_choir_37 ?_
    obtain ⟨⟨least_126, h_127, h128⟩, e129, hf⟩ := fx_bnd hf
    have hE130 : fx_J M G Λ 7 130 [some (8, this_0), some (0, thing_0), some (0, m_0), some (0, least_126), some (0, h_127), none, none] [] h128 := by
      refine fx_iload_n (pc := 130) F 3 rfl rfl dX6_choir_130 ?_
      cases hf
      exact fx_ireturn (pc := 131) F K dX6_choir_131
    refine fx_loop_J (Hd := (fun z : Int × Int × fx_H => fx_J M G Λ 7 39 [some (8, this_0), some (0, thing_0), some (0, m_0), some (0, z.1), some (0, z.2.1), none, none] [] z.2.2)) (Ex := (fun z : Int × Int × fx_H => fx_J M G Λ 7 130 [some (8, this_0), some (0, thing_0), some (0, m_0), some (0, z.1), some (0, z.2.1), none, none] [] z.2.2)) ?_ Fu _ _ e129 hE130
    rintro ⟨least_74, h_75, h76⟩ o9 eq77 ih ex
    unfold s_X6_choir_1 at eq77
    show fx_J M G Λ 7 39 [some (8, this_0), some (0, thing_0), some (0, m_0), some (0, least_74), some (0, h_75), none, none] [] h76
    refine fx_iload (pc := 39) F rfl dX6_choir_39 ?_
    refine fx_aload_n (pc := 41) (t := 6) F 0 rfl rfl dX6_choir_41 ?_
    obtain ⟨v78, e79, eq77⟩ := fx_bnd eq77
    refine fx_cV (pc := 42) F 6 kC_X6 [] this_0 [(0, h_75)] (m_X6_hours Fu Λ this_0 h76 _ e79) kD_X6_hours kI_X6_hours rfl wM_X6_81 ⟨rfl, rfl⟩ ⟨by decide, by decide⟩ (Nat.le_of_ble_eq_true rfl) rfl dX6_choir_42 ?_
    refine fx_nlt (pc := 45) F 130 (by decide) dX6_choir_45 (fun c80 => ?_) (fun c80 => ?_)
    · have eq77 := (if_pos c80).symm.trans eq77
      refine fx_aload_n (pc := 48) (t := 6) F 0 rfl rfl dX6_choir_48 ?_
      obtain ⟨h81, e82, eq77⟩ := fx_bnd eq77
      refine fx_cVv (pc := 49) F 6 kC_X6 [] this_0 [] (m_X6_takeNothing Fu Λ this_0 h76 _ e82) kD_X6_takeNothing kI_X6_takeNothing rfl wM_X6_155 ⟨rfl, rfl⟩ ⟨by decide, by decide⟩ (Nat.le_of_ble_eq_true rfl) rfl dX6_choir_49 ?_
      refine fx_iconst (pc := 52) F ⟨by decide, by decide⟩ dX6_choir_52 ?_
      refine fx_istore (pc := 53) (ls' := [some (8, this_0), some (0, thing_0), some (0, m_0), some (0, least_74), some (0, h_75), some (0, 0), none]) F (by decide) rfl rfl dX6_choir_53 ?_
      obtain ⟨⟨p_99, h100⟩, e101, eq77⟩ := fx_bnd eq77
      have hE102 : fx_J M G Λ 7 80 [some (8, this_0), some (0, thing_0), some (0, m_0), some (0, least_74), some (0, h_75), some (0, p_99), none] [] h100 := by
        refine fx_iconst (pc := 80) F ⟨by decide, by decide⟩ dX6_choir_80 ?_
        refine fx_istore (pc := 81) (ls' := [some (8, this_0), some (0, thing_0), some (0, m_0), some (0, least_74), some (0, h_75), some (0, 0), none]) F (by decide) rfl rfl dX6_choir_81 ?_
        refine fx_iconst (pc := 83) F ⟨by decide, by decide⟩ dX6_choir_83 ?_
        refine fx_istore (pc := 84) (ls' := [some (8, this_0), some (0, thing_0), some (0, m_0), some (0, least_74), some (0, h_75), some (0, 0), some (0, 0)]) F (by decide) rfl rfl dX6_choir_84 ?_
        obtain ⟨⟨sum_118, p_119⟩, e120, eq77⟩ := fx_bnd eq77
        have hE121 : fx_J M G Λ 7 111 [some (8, this_0), some (0, thing_0), some (0, m_0), some (0, least_74), some (0, h_75), some (0, sum_118), some (0, p_119)] [] h100 := by
          obtain ⟨v122, e123, eq77⟩ := fx_bnd eq77
          have hJ124 : fx_J M G Λ 7 123 [some (8, this_0), some (0, thing_0), some (0, m_0), some (0, least_74), some (0, h_75), some (0, sum_118), some (0, p_119)] [(0, v122)] h100 := by
            refine fx_istore_n (pc := 123) (ls' := [some (8, this_0), some (0, thing_0), some (0, m_0), some (0, v122), some (0, h_75), some (0, sum_118), some (0, p_119)]) F 3 rfl (by decide) rfl rfl dX6_choir_123 ?_
            refine fx_iinc (pc := 124) (ls' := [some (8, this_0), some (0, thing_0), some (0, m_0), some (0, v122), some (0, (fx_w (h_75 + 1))), some (0, sum_118), some (0, p_119)]) F (by decide) rfl rfl rfl dX6_choir_124 ?_
            refine fx_goto (pc := 127) F 39 (by decide) dX6_choir_127 ?_
            cases eq77
            refine fx_drop (ls' := [some (8, this_0), some (0, thing_0), some (0, m_0), some (0, v122), some (0, (fx_w (h_75 + 1))), none, none]) ⟨rfl, rfl, rfl, rfl, rfl, trivial⟩ ?_
            exact ih _ rfl
          refine fx_iload (pc := 111) F rfl dX6_choir_111 ?_
          refine fx_iload_n (pc := 113) F 3 rfl rfl dX6_choir_113 ?_
          refine fx_nlt (pc := 114) F 122 (by decide) dX6_choir_114 (fun c125 => ?_) (fun c125 => ?_)
          · have e123 := (if_pos c125).symm.trans e123
            refine fx_iload (pc := 117) F rfl dX6_choir_117 ?_
            cases e123
            refine fx_goto (pc := 119) F 123 (by decide) dX6_choir_119 ?_
            exact hJ124
          · have e123 := (if_neg c125).symm.trans e123
            refine fx_iload_n (pc := 122) F 3 rfl rfl dX6_choir_122 ?_
            cases e123
            exact hJ124
        refine fx_loop_J (Hd := (fun z : Int × Int => fx_J M G Λ 7 86 [some (8, this_0), some (0, thing_0), some (0, m_0), some (0, least_74), some (0, h_75), some (0, z.1), some (0, z.2)] [] h100)) (Ex := (fun z : Int × Int => fx_J M G Λ 7 111 [some (8, this_0), some (0, thing_0), some (0, m_0), some (0, least_74), some (0, h_75), some (0, z.1), some (0, z.2)] [] h100)) ?_ Fu _ _ e120 hE121
        rintro ⟨sum_112, p_113⟩ o9 eq114 ih ex
        unfold s_X6_choir_3 at eq114
        show fx_J M G Λ 7 86 [some (8, this_0), some (0, thing_0), some (0, m_0), some (0, least_74), some (0, h_75), some (0, sum_112), some (0, p_113)] [] h100
        refine fx_iload (pc := 86) F rfl dX6_choir_86 ?_
        refine fx_iload_n (pc := 88) F 2 rfl rfl dX6_choir_88 ?_
        refine fx_nlt (pc := 89) F 111 (by decide) dX6_choir_89 (fun c115 => ?_) (fun c115 => ?_)
        · have eq114 := (if_pos c115).symm.trans eq114
          refine fx_iload (pc := 92) F rfl dX6_choir_92 ?_
          refine fx_aload_n (pc := 94) (t := 6) F 0 rfl rfl dX6_choir_94 ?_
          refine fx_iload (pc := 95) F rfl dX6_choir_95 ?_
          refine fx_iload (pc := 97) F rfl dX6_choir_97 ?_
          obtain ⟨v116, e117, eq114⟩ := fx_bnd eq114
          refine fx_cV (pc := 99) F 6 kC_X6 [(0, p_113), (0, h_75)] this_0 [(0, sum_112)] (m_X6_paysOf Fu Λ this_0 p_113 h_75 h100 _ e117) kD_X6_paysOf kI_X6_paysOf rfl wM_X6_134 ⟨rfl, rfl⟩ ⟨by decide, by decide⟩ (Nat.le_of_ble_eq_true rfl) rfl dX6_choir_99 ?_
          refine fx_iadd (pc := 102) F dX6_choir_102 ?_
          refine fx_istore (pc := 103) (ls' := [some (8, this_0), some (0, thing_0), some (0, m_0), some (0, least_74), some (0, h_75), some (0, (fx_w (sum_112 + v116))), some (0, p_113)]) F (by decide) rfl rfl dX6_choir_103 ?_
          refine fx_iinc (pc := 105) (ls' := [some (8, this_0), some (0, thing_0), some (0, m_0), some (0, least_74), some (0, h_75), some (0, (fx_w (sum_112 + v116))), some (0, (fx_w (p_113 + 1)))]) F (by decide) rfl rfl rfl dX6_choir_105 ?_
          refine fx_goto (pc := 108) F 86 (by decide) dX6_choir_108 ?_
          cases eq114
          exact ih _ rfl
        · have eq114 := (if_neg c115).symm.trans eq114
          cases eq114
          exact ex _ rfl
      refine fx_loop_J (Hd := (fun z : Int × fx_H => fx_J M G Λ 7 55 [some (8, this_0), some (0, thing_0), some (0, m_0), some (0, least_74), some (0, h_75), some (0, z.1), none] [] z.2)) (Ex := (fun z : Int × fx_H => fx_J M G Λ 7 80 [some (8, this_0), some (0, thing_0), some (0, m_0), some (0, least_74), some (0, h_75), some (0, z.1), none] [] z.2)) ?_ Fu _ _ e101 hE102
      rintro ⟨p_93, h94⟩ o9 eq95 ih ex
      unfold s_X6_choir_2 at eq95
      show fx_J M G Λ 7 55 [some (8, this_0), some (0, thing_0), some (0, m_0), some (0, least_74), some (0, h_75), some (0, p_93), none] [] h94
      refine fx_iload (pc := 55) F rfl dX6_choir_55 ?_
      refine fx_iload_n (pc := 57) F 2 rfl rfl dX6_choir_57 ?_
      refine fx_nlt (pc := 58) F 80 (by decide) dX6_choir_58 (fun c96 => ?_) (fun c96 => ?_)
      · have eq95 := (if_pos c96).symm.trans eq95
        refine fx_aload_n (pc := 61) (t := 6) F 0 rfl rfl dX6_choir_61 ?_
        refine fx_gR (pc := 62) F 6 8 8 8 rfl kC_X6 (by decide) rfl wF_X6_33 dX6_choir_62 ?_
        refine fx_iconst (pc := 65) F ⟨by decide, by decide⟩ dX6_choir_65 ?_
        refine fx_iload (pc := 66) F rfl dX6_choir_66 ?_
        refine fx_imul (pc := 68) F dX6_choir_68 ?_
        refine fx_iload (pc := 69) F rfl dX6_choir_69 ?_
        refine fx_iadd (pc := 71) F dX6_choir_71 ?_
        refine fx_iload_n (pc := 72) F 1 rfl rfl dX6_choir_72 ?_
        obtain ⟨h97, e98, eq95⟩ := fx_bnd eq95
        refine fx_rastI (pc := 73) F e98 dX6_choir_73 ?_
        refine fx_iinc (pc := 74) (ls' := [some (8, this_0), some (0, thing_0), some (0, m_0), some (0, least_74), some (0, h_75), some (0, (fx_w (p_93 + 1))), none]) F (by decide) rfl rfl rfl dX6_choir_74 ?_
        refine fx_goto (pc := 77) F 55 (by decide) dX6_choir_77 ?_
        cases eq95
        exact ih _ rfl
      · have eq95 := (if_neg c96).symm.trans eq95
        cases eq95
        exact ex _ rfl
    · have eq77 := (if_neg c80).symm.trans eq77
      cases eq77
      exact ex _ rfl
  refine fx_aload_n (pc := 0) (t := 6) F 0 rfl rfl dX6_choir_0 ?_
  refine fx_iload_n (pc := 1) F 1 rfl rfl dX6_choir_1 ?_
  obtain ⟨v5, e6, e2⟩ := fx_bnd e2
  refine fx_cV (pc := 2) F 6 kC_X6 [(0, thing_0)] this_0 [] (m_X6_isThing Fu Λ this_0 thing_0 h _ e6) kD_X6_isThing kI_X6_isThing rfl wM_X6_84 ⟨rfl, rfl⟩ ⟨by decide, by decide⟩ (Nat.le_of_ble_eq_true rfl) rfl dX6_choir_2 ?_
  refine fx_jzeq (pc := 5) F 22 (by decide) dX6_choir_5 (fun c7 => ?_) (fun c7 => ?_)
  · have e2 := (if_pos c7).symm.trans e2
    cases e2
    exact hT3 (by decide)
  · have e2 := (if_neg c7).symm.trans e2
    refine fx_iload_n (pc := 8) F 2 rfl rfl dX6_choir_8 ?_
    refine fx_ri2l (pc := 9) F dX6_choir_9 ?_
    refine fx_lconst (pc := 10) (z := 1) F rfl ⟨by decide, by decide⟩ (by decide) dX6_choir_10 ?_
    refine fx_aload_n (pc := 11) (t := 6) F 0 rfl rfl dX6_choir_11 ?_
    obtain ⟨v8, e9, e2⟩ := fx_bnd e2
    refine fx_cV (pc := 12) F 6 kC_X6 [] this_0 [(1, 1), (1, m_0)] (m_X6_people Fu Λ this_0 h _ e9) kD_X6_people kI_X6_people rfl wM_X6_78 ⟨rfl, rfl⟩ ⟨by decide, by decide⟩ (Nat.le_of_ble_eq_true rfl) rfl dX6_choir_12 ?_
    refine fx_ri2l (pc := 15) F dX6_choir_15 ?_
    obtain ⟨v10, e11, e2⟩ := fx_bnd e2
    refine fx_cS (pc := 16) F [(1, m_0), (1, 1), (1, v8)] [] (m_X6_in Fu Λ m_0 1 v8 h _ e11) kD_X6_in wSt_X6_in wM_X6_74 ⟨rfl, rfl⟩ ⟨by decide, by decide⟩ (Nat.le_of_ble_eq_true rfl) rfl dX6_choir_16 ?_
    refine fx_nzeq (pc := 19) F 29 (by decide) dX6_choir_19 (fun c12 => ?_) (fun c12 => ?_)
    · have e2 := (if_pos c12).symm.trans e2
      cases e2
      exact hT3 (by decide)
    · have e2 := (if_neg c12).symm.trans e2
      cases e2
      exact hF4 (by decide)
def f_X6_told (Fu : Nat) (Λ : fx_L) (this_0 : Int) (person_0 : Int) (pennies_0 : Int) (h : fx_H) : Option (Int × fx_H) :=
  Option.bind (
    (f_X6_isOne Fu Λ this_0 person_0 h).bind fun v5 =>
    if v5 = 0 then
      some true
    else
      (f_X6_in Fu Λ pennies_0 0 40 h).bind fun v8 =>
      if v8 = 0 then
        some true
      else
        some false
  ) fun b1 =>
  if b1 = true then
    (f_X6_bad Fu Λ this_0 (-2) h).bind fun (v12, h13) =>
    some (v12, h13)
  else
    (fx_rd Λ h (fx_tg Λ this_0 0) (fx_w (89 + person_0))).bind fun v15 =>
    (fx_wr Λ h (fx_tg Λ this_0 0) (fx_w (89 + person_0)) pennies_0).bind fun h17 =>
    some (v15, h17)
abbrev rm_X6_told : Room := { frames := 2, cells := 0, slots := 0, locals := 46 }
set_option maxRecDepth 100000 in
set_option maxHeartbeats 4000000 in
theorem m_X6_told (Fu : Nat) (Λ : fx_L) (this_0 : Int) (person_0 : Int) (pennies_0 : Int) (h : fx_H) (r : Int) (ho : fx_H) (hf : f_X6_told Fu Λ this_0 person_0 pennies_0 h = some (r, ho)) : fx_Met yX6_told cX6_told 4 (some .int) rm_X6_told Λ [(8, this_0), (0, person_0), (0, pennies_0)] h (some (0, r)) ho := by
  unfold f_X6_told at hf
  refine fx_enter (ls := [some (8, this_0), some (0, person_0), some (0, pennies_0), none]) (by decide) (Nat.le_of_ble_eq_true rfl) rfl (fun M G F K => ?_)
  obtain ⟨b1, e2, hf⟩ := fx_bnd hf
  have hT3 : b1 = true → fx_J M G Λ 4 20 [some (8, this_0), some (0, person_0), some (0, pennies_0), none] [] h := fun c11 => by
    have hf := (if_pos c11).symm.trans hf
    refine fx_aload_n (pc := 20) (t := 6) F 0 rfl rfl dX6_told_20 ?_
    refine fx_bipush (pc := 21) F ⟨by decide, by decide⟩ (by decide) dX6_told_21 ?_
    obtain ⟨⟨v12, h13⟩, e14, hf⟩ := fx_bnd hf
    refine fx_cV (pc := 23) F 6 kC_X6 [(0, (-2))] this_0 [] (m_X6_bad Fu Λ this_0 (-2) h _ _ e14) kD_X6_bad kI_X6_bad rfl wM_X6_88 ⟨rfl, rfl⟩ ⟨by decide, by decide⟩ (Nat.le_of_ble_eq_true rfl) rfl dX6_told_23 ?_
    cases hf
    exact fx_ireturn (pc := 26) F K dX6_told_26
  have hF4 : ¬ b1 = true → fx_J M G Λ 4 27 [some (8, this_0), some (0, person_0), some (0, pennies_0), none] [] h := fun c11 => by
    have hf := (if_neg c11).symm.trans hf
    refine fx_aload_n (pc := 27) (t := 6) F 0 rfl rfl dX6_told_27 ?_
    refine fx_gR (pc := 28) F 6 0 0 8 rfl kC_X6 (by decide) rfl wF_X6_7 dX6_told_28 ?_
    refine fx_bipush (pc := 31) F ⟨by decide, by decide⟩ (by decide) dX6_told_31 ?_
    refine fx_iload_n (pc := 33) F 1 rfl rfl dX6_told_33 ?_
    refine fx_iadd (pc := 34) F dX6_told_34 ?_
    obtain ⟨v15, e16, hf⟩ := fx_bnd hf
    refine fx_raldI (pc := 35) F e16 dX6_told_35 ?_
    refine fx_istore_n (pc := 36) (ls' := [some (8, this_0), some (0, person_0), some (0, pennies_0), some (0, v15)]) F 3 rfl (by decide) rfl rfl dX6_told_36 ?_
    refine fx_aload_n (pc := 37) (t := 6) F 0 rfl rfl dX6_told_37 ?_
    refine fx_gR (pc := 38) F 6 0 0 8 rfl kC_X6 (by decide) rfl wF_X6_7 dX6_told_38 ?_
    refine fx_bipush (pc := 41) F ⟨by decide, by decide⟩ (by decide) dX6_told_41 ?_
    refine fx_iload_n (pc := 43) F 1 rfl rfl dX6_told_43 ?_
    refine fx_iadd (pc := 44) F dX6_told_44 ?_
    refine fx_iload_n (pc := 45) F 2 rfl rfl dX6_told_45 ?_
    obtain ⟨h17, e18, hf⟩ := fx_bnd hf
    refine fx_rastI (pc := 46) F e18 dX6_told_46 ?_
    refine fx_iload_n (pc := 47) F 3 rfl rfl dX6_told_47 ?_
    cases hf
    exact fx_ireturn (pc := 48) F K dX6_told_48
  refine fx_aload_n (pc := 0) (t := 6) F 0 rfl rfl dX6_told_0 ?_
  refine fx_iload_n (pc := 1) F 1 rfl rfl dX6_told_1 ?_
  obtain ⟨v5, e6, e2⟩ := fx_bnd e2
  refine fx_cV (pc := 2) F 6 kC_X6 [(0, person_0)] this_0 [] (m_X6_isOne Fu Λ this_0 person_0 h _ e6) kD_X6_isOne kI_X6_isOne rfl wM_X6_102 ⟨rfl, rfl⟩ ⟨by decide, by decide⟩ (Nat.le_of_ble_eq_true rfl) rfl dX6_told_2 ?_
  refine fx_jzeq (pc := 5) F 20 (by decide) dX6_told_5 (fun c7 => ?_) (fun c7 => ?_)
  · have e2 := (if_pos c7).symm.trans e2
    cases e2
    exact hT3 (by decide)
  · have e2 := (if_neg c7).symm.trans e2
    refine fx_iload_n (pc := 8) F 2 rfl rfl dX6_told_8 ?_
    refine fx_ri2l (pc := 9) F dX6_told_9 ?_
    refine fx_lconst (pc := 10) (z := 0) F rfl ⟨by decide, by decide⟩ (by decide) dX6_told_10 ?_
    refine fx_ldc2 (pc := 11) (z := 40) F (by decide) ⟨by decide, by decide⟩ wK_X6_188 dX6_told_11 ?_
    obtain ⟨v8, e9, e2⟩ := fx_bnd e2
    refine fx_cS (pc := 14) F [(1, pennies_0), (1, 0), (1, 40)] [] (m_X6_in Fu Λ pennies_0 0 40 h _ e9) kD_X6_in wSt_X6_in wM_X6_74 ⟨rfl, rfl⟩ ⟨by decide, by decide⟩ (Nat.le_of_ble_eq_true rfl) rfl dX6_told_14 ?_
    refine fx_nzeq (pc := 17) F 27 (by decide) dX6_told_17 (fun c10 => ?_) (fun c10 => ?_)
    · have e2 := (if_pos c10).symm.trans e2
      cases e2
      exact hT3 (by decide)
    · have e2 := (if_neg c10).symm.trans e2
      cases e2
      exact hF4 (by decide)
def s_X6_pay_1 (Fu : Nat) (Λ : fx_L) (this_3 : Int) (hour_4 : Int) (h : fx_H) : Int × Int → Option ((Int × Int) ⊕ (Int × Int)) := fun (is_1, p_2) =>
  (f_X6_people Fu Λ this_3 h).bind fun v8 =>
  if ((p_2 < v8) ∧ (¬ is_1 = 0)) then
    Option.bind (
      (f_X6_paysOf Fu Λ this_3 p_2 hour_4 h).bind fun v16 =>
      (fx_rd Λ h (fx_tg Λ this_3 0) (fx_w (89 + p_2))).bind fun v18 =>
      if v16 = v18 then
        some 1
      else
        some 0
    ) fun v13 =>
    some (.inl (v13, (fx_w (p_2 + 1))))
  else
    some (.inr (is_1, p_2))
def f_X6_pay (Fu : Nat) (Λ : fx_L) (this_0 : Int) (hour_0 : Int) (h : fx_H) : Option (Int) :=
  Option.bind (fx_loop (s_X6_pay_1 Fu Λ this_0 hour_0 h) Fu (1, 0)) fun (is_39, p_40) =>
  (fx_zb is_39).bind fun z43 =>
  some z43
abbrev rm_X6_pay : Room := { frames := 3, cells := 0, slots := 0, locals := 77 }
set_option maxRecDepth 100000 in
set_option maxHeartbeats 4000000 in
theorem m_X6_pay (Fu : Nat) (Λ : fx_L) (this_0 : Int) (hour_0 : Int) (h : fx_H) (r : Int) (hf : f_X6_pay Fu Λ this_0 hour_0 h = some r) : fx_Met yX6_pay cX6_pay 4 (some .boolean) rm_X6_pay Λ [(8, this_0), (0, hour_0)] h (some (0, r)) h := by
  unfold f_X6_pay at hf
  refine fx_enter (ls := [some (8, this_0), some (0, hour_0), none, none]) (by decide) (Nat.le_of_ble_eq_true rfl) rfl (fun M G F K => ?_)
  refine fx_iconst (pc := 0) F ⟨by decide, by decide⟩ dX6_pay_0 ?_
  refine fx_istore_n (pc := 1) (ls' := [some (8, this_0), some (0, hour_0), some (0, 1), none]) F 2 rfl (by decide) rfl rfl dX6_pay_1 ?_
  refine fx_iconst (pc := 2) F ⟨by decide, by decide⟩ dX6_pay_2 ?_
  refine fx_istore_n (pc := 3) (ls' := [some (8, this_0), some (0, hour_0), some (0, 1), some (0, 0)]) F 3 rfl (by decide) rfl rfl dX6_pay_3 ?_
  obtain ⟨⟨is_39, p_40⟩, e41, hf⟩ := fx_bnd hf
  have hE42 : fx_J M G Λ 4 46 [some (8, this_0), some (0, hour_0), some (0, is_39), some (0, p_40)] [] h := by
    refine fx_iload_n (pc := 46) F 2 rfl rfl dX6_pay_46 ?_
    obtain ⟨z43, e44, hf⟩ := fx_bnd hf
    obtain ⟨e44, hzz43⟩ := fx_zb_use e44
    refine fx_top (X := fx_X) e44 ?_
    cases hf
    exact fx_zreturn (pc := 47) F hzz43 K dX6_pay_47
  refine fx_loop_J (Hd := (fun z : Int × Int => fx_J M G Λ 4 4 [some (8, this_0), some (0, hour_0), some (0, z.1), some (0, z.2)] [] h)) (Ex := (fun z : Int × Int => fx_J M G Λ 4 46 [some (8, this_0), some (0, hour_0), some (0, z.1), some (0, z.2)] [] h)) ?_ Fu _ _ e41 hE42
  rintro ⟨is_21, p_22⟩ o9 eq23 ih ex
  unfold s_X6_pay_1 at eq23
  show fx_J M G Λ 4 4 [some (8, this_0), some (0, hour_0), some (0, is_21), some (0, p_22)] [] h
  refine fx_iload_n (pc := 4) F 3 rfl rfl dX6_pay_4 ?_
  refine fx_aload_n (pc := 5) (t := 6) F 0 rfl rfl dX6_pay_5 ?_
  obtain ⟨v26, e27, eq23⟩ := fx_bnd eq23
  refine fx_cV (pc := 6) F 6 kC_X6 [] this_0 [(0, p_22)] (m_X6_people Fu Λ this_0 h _ e27) kD_X6_people kI_X6_people rfl wM_X6_78 ⟨rfl, rfl⟩ ⟨by decide, by decide⟩ (Nat.le_of_ble_eq_true rfl) rfl dX6_pay_6 ?_
  have hT24 : (((p_22 < v26) ∧ (¬ is_21 = 0))) → fx_J M G Λ 4 16 [some (8, this_0), some (0, hour_0), some (0, is_21), some (0, p_22)] [] h := fun c30 => by
    have eq23 := (if_pos c30).symm.trans eq23
    obtain ⟨v31, e32, eq23⟩ := fx_bnd eq23
    have hJ33 : fx_J M G Λ 4 39 [some (8, this_0), some (0, hour_0), some (0, is_21), some (0, p_22)] [(0, v31)] h := by
      refine fx_istore_n (pc := 39) (ls' := [some (8, this_0), some (0, hour_0), some (0, v31), some (0, p_22)]) F 2 rfl (by decide) rfl rfl dX6_pay_39 ?_
      refine fx_iinc (pc := 40) (ls' := [some (8, this_0), some (0, hour_0), some (0, v31), some (0, (fx_w (p_22 + 1)))]) F (by decide) rfl rfl rfl dX6_pay_40 ?_
      refine fx_goto (pc := 43) F 4 (by decide) dX6_pay_43 ?_
      cases eq23
      exact ih _ rfl
    refine fx_aload_n (pc := 16) (t := 6) F 0 rfl rfl dX6_pay_16 ?_
    refine fx_iload_n (pc := 17) F 3 rfl rfl dX6_pay_17 ?_
    refine fx_iload_n (pc := 18) F 1 rfl rfl dX6_pay_18 ?_
    obtain ⟨v34, e35, e32⟩ := fx_bnd e32
    refine fx_cV (pc := 19) F 6 kC_X6 [(0, p_22), (0, hour_0)] this_0 [] (m_X6_paysOf Fu Λ this_0 p_22 hour_0 h _ e35) kD_X6_paysOf kI_X6_paysOf rfl wM_X6_134 ⟨rfl, rfl⟩ ⟨by decide, by decide⟩ (Nat.le_of_ble_eq_true rfl) rfl dX6_pay_19 ?_
    refine fx_aload_n (pc := 22) (t := 6) F 0 rfl rfl dX6_pay_22 ?_
    refine fx_gR (pc := 23) F 6 0 0 8 rfl kC_X6 (by decide) rfl wF_X6_7 dX6_pay_23 ?_
    refine fx_bipush (pc := 26) F ⟨by decide, by decide⟩ (by decide) dX6_pay_26 ?_
    refine fx_iload_n (pc := 28) F 3 rfl rfl dX6_pay_28 ?_
    refine fx_iadd (pc := 29) F dX6_pay_29 ?_
    obtain ⟨v36, e37, e32⟩ := fx_bnd e32
    refine fx_raldI (pc := 30) F e37 dX6_pay_30 ?_
    refine fx_neq (pc := 31) F 38 (by decide) dX6_pay_31 (fun c38 => ?_) (fun c38 => ?_)
    · have e32 := (if_pos c38).symm.trans e32
      refine fx_iconst (pc := 34) F ⟨by decide, by decide⟩ dX6_pay_34 ?_
      cases e32
      refine fx_goto (pc := 35) F 39 (by decide) dX6_pay_35 ?_
      exact hJ33
    · have e32 := (if_neg c38).symm.trans e32
      refine fx_iconst (pc := 38) F ⟨by decide, by decide⟩ dX6_pay_38 ?_
      cases e32
      exact hJ33
  have hF25 : ¬ (((p_22 < v26) ∧ (¬ is_21 = 0))) → fx_J M G Λ 4 46 [some (8, this_0), some (0, hour_0), some (0, is_21), some (0, p_22)] [] h := fun c30 => by
    have eq23 := (if_neg c30).symm.trans eq23
    cases eq23
    exact ex _ rfl
  refine fx_nlt (pc := 9) F 46 (by decide) dX6_pay_9 (fun c28 => ?_) (fun c28 => ?_)
  · refine fx_iload_n (pc := 12) F 2 rfl rfl dX6_pay_12 ?_
    refine fx_nzne (pc := 13) F 46 (by decide) dX6_pay_13 (fun c29 => ?_) (fun c29 => ?_)
    · exact hT24 ⟨c28, c29⟩
    · exact hF25 (fun q => c29 q.2)
  · exact hF25 (fun q => c28 q.1)
def s_X6_did_1 (Fu : Nat) (Λ : fx_L) (this_22 : Int) (h : fx_H) : Int × Int → Option ((Int × Int) ⊕ (Int × Int)) := fun (codes_20, p_21) =>
  (f_X6_people Fu Λ this_22 h).bind fun v24 =>
  if p_21 < v24 then
    (f_X6_things Fu Λ this_22 h).bind fun v27 =>
    some (.inl ((fx_w (codes_20 * (fx_w (v27 + 1)))), (fx_w (p_21 + 1))))
  else
    some (.inr (codes_20, p_21))
def s_X6_did_3 (Fu : Nat) (Λ : fx_L) (this_56 : Int) (hour_57 : Int) : Int × Int × fx_H → Option ((Int × Int × fx_H) ⊕ (Int × Int × fx_H)) := fun (rest_53, p_54, h55) =>
  if 0 ≤ p_54 then
    (f_X6_things Fu Λ this_56 h55).bind fun v60 =>
    (fx_rm rest_53 (fx_w (v60 + 1))).bind fun v62 =>
    Option.bind (
      (f_X6_things Fu Λ this_56 h55).bind fun v67 =>
      if v62 = v67 then
        some (-1)
      else
        some v62
    ) fun v64 =>
    (fx_wr Λ h55 (fx_tg Λ this_56 8) (fx_w ((fx_w (5 * p_54)) + hour_57)) v64).bind fun h70 =>
    (f_X6_things Fu Λ this_56 h70).bind fun v72 =>
    (fx_dv rest_53 (fx_w (v72 + 1))).bind fun v74 =>
    some (.inl (v74, (fx_w (p_54 + (-1))), h70))
  else
    some (.inr (rest_53, p_54, h55))
def s_X6_did_2 (Fu : Nat) (Λ : fx_L) (this_45 : Int) (hour_46 : Int) (person_47 : Int) (codes_48 : Int) : Int × Int × Int × fx_H → Option ((Int × Int × Int × fx_H) ⊕ (Int × Int × Int × fx_H)) := fun (many_41, first_42, code_43, h44) =>
  if code_43 < codes_48 then
    (f_X6_people Fu Λ this_45 h44).bind fun v51 =>
    Option.bind (fx_loop (s_X6_did_3 Fu Λ this_45 hour_46) Fu (code_43, (fx_w (v51 - 1)), h44)) fun (rest_97, p_98, h99) =>
    (f_X6_pay Fu Λ this_45 hour_46 h99).bind fun v102 =>
    if ¬ v102 = 0 then
      Option.bind (
        if person_47 = (-1) then
          some (-1)
        else
          (fx_rd Λ h99 (fx_tg Λ this_45 8) (fx_w ((fx_w (5 * person_47)) + hour_46))).bind fun v109 =>
          some v109
      ) fun v105 =>
      Option.bind (
        if 0 < many_41 then
          some first_42
        else
          Option.bind (
            if v105 = (-1) then
              some 9
            else
              some v105
          ) fun v115 =>
          some v115
      ) fun v111 =>
      some (.inl ((fx_w (many_41 + 1)), v111, (fx_w (code_43 + 1)), h99))
    else
      some (.inl (many_41, first_42, (fx_w (code_43 + 1)), h99))
  else
    some (.inr (many_41, first_42, code_43, h44))
def f_X6_did (Fu : Nat) (Λ : fx_L) (this_0 : Int) (hour_0 : Int) (person_0 : Int) (h : fx_H) : Option (Int × fx_H) :=
  Option.bind (
    (f_X6_isHour Fu Λ this_0 hour_0 h).bind fun v5 =>
    if v5 = 0 then
      some true
    else
      if ¬ person_0 = (-1) then
        (f_X6_isOne Fu Λ this_0 person_0 h).bind fun v9 =>
        if v9 = 0 then
          some true
        else
          some false
      else
        some false
  ) fun b1 =>
  if b1 = true then
    (f_X6_bad Fu Λ this_0 (-10) h).bind fun (v13, h14) =>
    some (v13, h14)
  else
    (f_X6_layNow Fu Λ this_0 h).bind fun h16 =>
    (f_X6_takeDone Fu Λ this_0 h16).bind fun h18 =>
    Option.bind (fx_loop (s_X6_did_1 Fu Λ this_0 h18) Fu (1, 0)) fun (codes_37, p_38) =>
    Option.bind (fx_loop (s_X6_did_2 Fu Λ this_0 hour_0 person_0 codes_37) Fu (0, (-5), 0, h18)) fun (many_193, first_194, code_195, h196) =>
    Option.bind (
      if person_0 = (-1) then
        some many_193
      else
        some first_194
    ) fun v199 =>
    some (v199, h196)
abbrev rm_X6_did : Room := { frames := 4, cells := 0, slots := 0, locals := 100 }
set_option maxRecDepth 100000 in
set_option maxHeartbeats 4000000 in
theorem m_X6_did (Fu : Nat) (Λ : fx_L) (this_0 : Int) (hour_0 : Int) (person_0 : Int) (h : fx_H) (r : Int) (ho : fx_H) (hf : f_X6_did Fu Λ this_0 hour_0 person_0 h = some (r, ho)) : fx_Met yX6_did cX6_did 10 (some .int) rm_X6_did Λ [(8, this_0), (0, hour_0), (0, person_0)] h (some (0, r)) ho := by
  unfold f_X6_did at hf
  refine fx_enter (ls := [some (8, this_0), some (0, hour_0), some (0, person_0), none, none, none, none, none, none, none]) (by decide) (Nat.le_of_ble_eq_true rfl) rfl (fun M G F K => ?_)
  obtain ⟨b1, e2, hf⟩ := fx_bnd hf
  have hT3 : b1 = true → fx_J M G Λ 10 21 [some (8, this_0), some (0, hour_0), some (0, person_0), none, none, none, none, none, none, none] [] h := fun c12 => by
    have hf := (if_pos c12).symm.trans hf
    refine fx_aload_n (pc := 21) (t := 6) F 0 rfl rfl dX6_did_21 ?_
    refine fx_bipush (pc := 22) F ⟨by decide, by decide⟩ (by decide) dX6_did_22 ?_
    obtain ⟨⟨v13, h14⟩, e15, hf⟩ := fx_bnd hf
    refine fx_cV (pc := 24) F 6 kC_X6 [(0, (-10))] this_0 [] (m_X6_bad Fu Λ this_0 (-10) h _ _ e15) kD_X6_bad kI_X6_bad rfl wM_X6_88 ⟨rfl, rfl⟩ ⟨by decide, by decide⟩ (Nat.le_of_ble_eq_true rfl) rfl dX6_did_24 ?_
    cases hf
    exact fx_ireturn (pc := 27) F K dX6_did_27
  have hF4 : ¬ b1 = true → fx_J M G Λ 10 28 [some (8, this_0), some (0, hour_0), some (0, person_0), none, none, none, none, none, none, none] [] h := fun c12 => by
    have hf := (if_neg c12).symm.trans hf
    refine fx_aload_n (pc := 28) (t := 6) F 0 rfl rfl dX6_did_28 ?_
    obtain ⟨h16, e17, hf⟩ := fx_bnd hf
    refine fx_cVv (pc := 29) F 6 kC_X6 [] this_0 [] (m_X6_layNow Fu Λ this_0 h _ e17) kD_X6_layNow kI_X6_layNow rfl wM_X6_119 ⟨rfl, rfl⟩ ⟨by decide, by decide⟩ (Nat.le_of_ble_eq_true rfl) rfl dX6_did_29 ?_
    refine fx_aload_n (pc := 32) (t := 6) F 0 rfl rfl dX6_did_32 ?_
    obtain ⟨h18, e19, hf⟩ := fx_bnd hf
    refine fx_cVv (pc := 33) F 6 kC_X6 [] this_0 [] (m_X6_takeDone Fu Λ this_0 h16 _ e19) kD_X6_takeDone kI_X6_takeDone rfl wM_X6_140 ⟨rfl, rfl⟩ ⟨by decide, by decide⟩ (Nat.le_of_ble_eq_true rfl) rfl dX6_did_33 ?_
    refine fx_iconst (pc := 36) F ⟨by decide, by decide⟩ dX6_did_36 ?_
    refine fx_istore_n (pc := 37) (ls' := [some (8, this_0), some (0, hour_0), some (0, person_0), some (0, 1), none, none, none, none, none, none]) F 3 rfl (by decide) rfl rfl dX6_did_37 ?_
    refine fx_iconst (pc := 38) F ⟨by decide, by decide⟩ dX6_did_38 ?_
    refine fx_istore (pc := 39) (ls' := [some (8, this_0), some (0, hour_0), some (0, person_0), some (0, 1), some (0, 0), none, none, none, none, none]) F (by decide) rfl rfl dX6_did_39 ?_
    obtain ⟨⟨codes_37, p_38⟩, e39, hf⟩ := fx_bnd hf
    have hE40 : fx_J M G Λ 10 65 [some (8, this_0), some (0, hour_0), some (0, person_0), some (0, codes_37), some (0, p_38), none, none, none, none, none] [] h18 := by
      refine fx_iconst (pc := 65) F ⟨by decide, by decide⟩ dX6_did_65 ?_
      refine fx_istore (pc := 66) (ls' := [some (8, this_0), some (0, hour_0), some (0, person_0), some (0, codes_37), some (0, 0), none, none, none, none, none]) F (by decide) rfl rfl dX6_did_66 ?_
      refine fx_bipush (pc := 68) F ⟨by decide, by decide⟩ (by decide) dX6_did_68 ?_
      refine fx_istore (pc := 70) (ls' := [some (8, this_0), some (0, hour_0), some (0, person_0), some (0, codes_37), some (0, 0), some (0, (-5)), none, none, none, none]) F (by decide) rfl rfl dX6_did_70 ?_
      refine fx_iconst (pc := 72) F ⟨by decide, by decide⟩ dX6_did_72 ?_
      refine fx_istore (pc := 73) (ls' := [some (8, this_0), some (0, hour_0), some (0, person_0), some (0, codes_37), some (0, 0), some (0, (-5)), some (0, 0), none, none, none]) F (by decide) rfl rfl dX6_did_73 ?_
      obtain ⟨⟨many_193, first_194, code_195, h196⟩, e197, hf⟩ := fx_bnd hf
      have hE198 : fx_J M G Λ 10 215 [some (8, this_0), some (0, hour_0), some (0, person_0), some (0, codes_37), some (0, many_193), some (0, first_194), some (0, code_195), none, none, none] [] h196 := by
        obtain ⟨v199, e200, hf⟩ := fx_bnd hf
        have hJ201 : fx_J M G Λ 10 227 [some (8, this_0), some (0, hour_0), some (0, person_0), some (0, codes_37), some (0, many_193), some (0, first_194), some (0, code_195), none, none, none] [(0, v199)] h196 := by
          cases hf
          exact fx_ireturn (pc := 227) F K dX6_did_227
        refine fx_iload_n (pc := 215) F 2 rfl rfl dX6_did_215 ?_
        refine fx_iconst (pc := 216) F ⟨by decide, by decide⟩ dX6_did_216 ?_
        refine fx_neq (pc := 217) F 225 (by decide) dX6_did_217 (fun c202 => ?_) (fun c202 => ?_)
        · have e200 := (if_pos c202).symm.trans e200
          refine fx_iload (pc := 220) F rfl dX6_did_220 ?_
          cases e200
          refine fx_goto (pc := 222) F 227 (by decide) dX6_did_222 ?_
          exact hJ201
        · have e200 := (if_neg c202).symm.trans e200
          refine fx_iload (pc := 225) F rfl dX6_did_225 ?_
          cases e200
          exact hJ201
      refine fx_loop_J (Hd := (fun z : Int × Int × Int × fx_H => fx_J M G Λ 10 75 [some (8, this_0), some (0, hour_0), some (0, person_0), some (0, codes_37), some (0, z.1), some (0, z.2.1), some (0, z.2.2.1), none, none, none] [] z.2.2.2)) (Ex := (fun z : Int × Int × Int × fx_H => fx_J M G Λ 10 215 [some (8, this_0), some (0, hour_0), some (0, person_0), some (0, codes_37), some (0, z.1), some (0, z.2.1), some (0, z.2.2.1), none, none, none] [] z.2.2.2)) ?_ Fu _ _ e197 hE198
      rintro ⟨many_119, first_120, code_121, h122⟩ o9 eq123 ih ex
      unfold s_X6_did_2 at eq123
      show fx_J M G Λ 10 75 [some (8, this_0), some (0, hour_0), some (0, person_0), some (0, codes_37), some (0, many_119), some (0, first_120), some (0, code_121), none, none, none] [] h122
      refine fx_iload (pc := 75) F rfl dX6_did_75 ?_
      refine fx_iload_n (pc := 77) F 3 rfl rfl dX6_did_77 ?_
      refine fx_nlt (pc := 78) F 215 (by decide) dX6_did_78 (fun c124 => ?_) (fun c124 => ?_)
      · have eq123 := (if_pos c124).symm.trans eq123
        refine fx_iload (pc := 81) F rfl dX6_did_81 ?_
        refine fx_istore (pc := 83) (ls' := [some (8, this_0), some (0, hour_0), some (0, person_0), some (0, codes_37), some (0, many_119), some (0, first_120), some (0, code_121), some (0, code_121), none, none]) F (by decide) rfl rfl dX6_did_83 ?_
        refine fx_aload_n (pc := 85) (t := 6) F 0 rfl rfl dX6_did_85 ?_
        obtain ⟨v125, e126, eq123⟩ := fx_bnd eq123
        refine fx_cV (pc := 86) F 6 kC_X6 [] this_0 [] (m_X6_people Fu Λ this_0 h122 _ e126) kD_X6_people kI_X6_people rfl wM_X6_78 ⟨rfl, rfl⟩ ⟨by decide, by decide⟩ (Nat.le_of_ble_eq_true rfl) rfl dX6_did_86 ?_
        refine fx_iconst (pc := 89) F ⟨by decide, by decide⟩ dX6_did_89 ?_
        refine fx_isub (pc := 90) F dX6_did_90 ?_
        refine fx_istore (pc := 91) (ls' := [some (8, this_0), some (0, hour_0), some (0, person_0), some (0, codes_37), some (0, many_119), some (0, first_120), some (0, code_121), some (0, code_121), some (0, (fx_w (v125 - 1))), none]) F (by decide) rfl rfl dX6_did_91 ?_
        obtain ⟨⟨rest_171, p_172, h173⟩, e174, eq123⟩ := fx_bnd eq123
        have hE175 : fx_J M G Λ 10 152 [some (8, this_0), some (0, hour_0), some (0, person_0), some (0, codes_37), some (0, many_119), some (0, first_120), some (0, code_121), some (0, rest_171), some (0, p_172), none] [] h173 := by
          refine fx_aload_n (pc := 152) (t := 6) F 0 rfl rfl dX6_did_152 ?_
          refine fx_iload_n (pc := 153) F 1 rfl rfl dX6_did_153 ?_
          obtain ⟨v176, e177, eq123⟩ := fx_bnd eq123
          refine fx_cV (pc := 154) F 6 kC_X6 [(0, hour_0)] this_0 [] (m_X6_pay Fu Λ this_0 hour_0 h173 _ e177) kD_X6_pay kI_X6_pay rfl wM_X6_190 ⟨rfl, rfl⟩ ⟨by decide, by decide⟩ (Nat.le_of_ble_eq_true rfl) rfl dX6_did_154 ?_
          refine fx_nzne (pc := 157) F 209 (by decide) dX6_did_157 (fun c178 => ?_) (fun c178 => ?_)
          · have eq123 := (if_pos c178).symm.trans eq123
            obtain ⟨v179, e180, eq123⟩ := fx_bnd eq123
            have hJ181 : fx_J M G Λ 10 179 [some (8, this_0), some (0, hour_0), some (0, person_0), some (0, codes_37), some (0, many_119), some (0, first_120), some (0, code_121), some (0, rest_171), some (0, p_172), none] [(0, v179)] h173 := by
              refine fx_istore (pc := 179) (ls' := [some (8, this_0), some (0, hour_0), some (0, person_0), some (0, codes_37), some (0, many_119), some (0, first_120), some (0, code_121), some (0, rest_171), some (0, v179), none]) F (by decide) rfl rfl dX6_did_179 ?_
              obtain ⟨v185, e186, eq123⟩ := fx_bnd eq123
              have hJ187 : fx_J M G Λ 10 204 [some (8, this_0), some (0, hour_0), some (0, person_0), some (0, codes_37), some (0, many_119), some (0, first_120), some (0, code_121), some (0, rest_171), some (0, v179), none] [(0, v185)] h173 := by
                refine fx_istore (pc := 204) (ls' := [some (8, this_0), some (0, hour_0), some (0, person_0), some (0, codes_37), some (0, many_119), some (0, v185), some (0, code_121), some (0, rest_171), some (0, v179), none]) F (by decide) rfl rfl dX6_did_204 ?_
                refine fx_iinc (pc := 206) (ls' := [some (8, this_0), some (0, hour_0), some (0, person_0), some (0, codes_37), some (0, (fx_w (many_119 + 1))), some (0, v185), some (0, code_121), some (0, rest_171), some (0, v179), none]) F (by decide) rfl rfl rfl dX6_did_206 ?_
                refine fx_iinc (pc := 209) (ls' := [some (8, this_0), some (0, hour_0), some (0, person_0), some (0, codes_37), some (0, (fx_w (many_119 + 1))), some (0, v185), some (0, (fx_w (code_121 + 1))), some (0, rest_171), some (0, v179), none]) F (by decide) rfl rfl rfl dX6_did_209 ?_
                refine fx_goto (pc := 212) F 75 (by decide) dX6_did_212 ?_
                cases eq123
                refine fx_drop (ls' := [some (8, this_0), some (0, hour_0), some (0, person_0), some (0, codes_37), some (0, (fx_w (many_119 + 1))), some (0, v185), some (0, (fx_w (code_121 + 1))), none, none, none]) ⟨rfl, rfl, rfl, rfl, rfl, rfl, rfl, trivial⟩ ?_
                exact ih _ rfl
              refine fx_iload (pc := 181) F rfl dX6_did_181 ?_
              refine fx_nzgt (pc := 183) F 191 (by decide) dX6_did_183 (fun c188 => ?_) (fun c188 => ?_)
              · have e186 := (if_pos c188).symm.trans e186
                refine fx_iload (pc := 186) F rfl dX6_did_186 ?_
                cases e186
                refine fx_goto (pc := 188) F 204 (by decide) dX6_did_188 ?_
                exact hJ187
              · have e186 := (if_neg c188).symm.trans e186
                obtain ⟨v189, e190, e186⟩ := fx_bnd e186
                have hJ191 : fx_J M G Λ 10 204 [some (8, this_0), some (0, hour_0), some (0, person_0), some (0, codes_37), some (0, many_119), some (0, first_120), some (0, code_121), some (0, rest_171), some (0, v179), none] [(0, v189)] h173 := by
                  cases e186
                  exact hJ187
                refine fx_iload (pc := 191) F rfl dX6_did_191 ?_
                refine fx_iconst (pc := 193) F ⟨by decide, by decide⟩ dX6_did_193 ?_
                refine fx_neq (pc := 194) F 202 (by decide) dX6_did_194 (fun c192 => ?_) (fun c192 => ?_)
                · have e190 := (if_pos c192).symm.trans e190
                  refine fx_bipush (pc := 197) F ⟨by decide, by decide⟩ (by decide) dX6_did_197 ?_
                  cases e190
                  refine fx_goto (pc := 199) F 204 (by decide) dX6_did_199 ?_
                  exact hJ191
                · have e190 := (if_neg c192).symm.trans e190
                  refine fx_iload (pc := 202) F rfl dX6_did_202 ?_
                  cases e190
                  exact hJ191
            refine fx_iload_n (pc := 160) F 2 rfl rfl dX6_did_160 ?_
            refine fx_iconst (pc := 161) F ⟨by decide, by decide⟩ dX6_did_161 ?_
            refine fx_neq (pc := 162) F 169 (by decide) dX6_did_162 (fun c182 => ?_) (fun c182 => ?_)
            · have e180 := (if_pos c182).symm.trans e180
              refine fx_iconst (pc := 165) F ⟨by decide, by decide⟩ dX6_did_165 ?_
              cases e180
              refine fx_goto (pc := 166) F 179 (by decide) dX6_did_166 ?_
              exact hJ181
            · have e180 := (if_neg c182).symm.trans e180
              refine fx_aload_n (pc := 169) (t := 6) F 0 rfl rfl dX6_did_169 ?_
              refine fx_gR (pc := 170) F 6 8 8 8 rfl kC_X6 (by decide) rfl wF_X6_33 dX6_did_170 ?_
              refine fx_iconst (pc := 173) F ⟨by decide, by decide⟩ dX6_did_173 ?_
              refine fx_iload_n (pc := 174) F 2 rfl rfl dX6_did_174 ?_
              refine fx_imul (pc := 175) F dX6_did_175 ?_
              refine fx_iload_n (pc := 176) F 1 rfl rfl dX6_did_176 ?_
              refine fx_iadd (pc := 177) F dX6_did_177 ?_
              obtain ⟨v183, e184, e180⟩ := fx_bnd e180
              refine fx_raldI (pc := 178) F e184 dX6_did_178 ?_
              cases e180
              exact hJ181
          · have eq123 := (if_neg c178).symm.trans eq123
            refine fx_iinc (pc := 209) (ls' := [some (8, this_0), some (0, hour_0), some (0, person_0), some (0, codes_37), some (0, many_119), some (0, first_120), some (0, (fx_w (code_121 + 1))), some (0, rest_171), some (0, p_172), none]) F (by decide) rfl rfl rfl dX6_did_209 ?_
            refine fx_goto (pc := 212) F 75 (by decide) dX6_did_212 ?_
            cases eq123
            refine fx_drop (ls' := [some (8, this_0), some (0, hour_0), some (0, person_0), some (0, codes_37), some (0, many_119), some (0, first_120), some (0, (fx_w (code_121 + 1))), none, none, none]) ⟨rfl, rfl, rfl, rfl, rfl, rfl, rfl, trivial⟩ ?_
            exact ih _ rfl
        refine fx_loop_J (Hd := (fun z : Int × Int × fx_H => fx_J M G Λ 10 93 [some (8, this_0), some (0, hour_0), some (0, person_0), some (0, codes_37), some (0, many_119), some (0, first_120), some (0, code_121), some (0, z.1), some (0, z.2.1), none] [] z.2.2)) (Ex := (fun z : Int × Int × fx_H => fx_J M G Λ 10 152 [some (8, this_0), some (0, hour_0), some (0, person_0), some (0, codes_37), some (0, many_119), some (0, first_120), some (0, code_121), some (0, z.1), some (0, z.2.1), none] [] z.2.2)) ?_ Fu _ _ e174 hE175
        rintro ⟨rest_150, p_151, h152⟩ o9 eq153 ih ex
        unfold s_X6_did_3 at eq153
        show fx_J M G Λ 10 93 [some (8, this_0), some (0, hour_0), some (0, person_0), some (0, codes_37), some (0, many_119), some (0, first_120), some (0, code_121), some (0, rest_150), some (0, p_151), none] [] h152
        refine fx_iload (pc := 93) F rfl dX6_did_93 ?_
        refine fx_nzge (pc := 95) F 152 (by decide) dX6_did_95 (fun c154 => ?_) (fun c154 => ?_)
        · have eq153 := (if_pos c154).symm.trans eq153
          refine fx_iload (pc := 98) F rfl dX6_did_98 ?_
          refine fx_aload_n (pc := 100) (t := 6) F 0 rfl rfl dX6_did_100 ?_
          obtain ⟨v155, e156, eq153⟩ := fx_bnd eq153
          refine fx_cV (pc := 101) F 6 kC_X6 [] this_0 [(0, rest_150)] (m_X6_things Fu Λ this_0 h152 _ e156) kD_X6_things kI_X6_things rfl wM_X6_70 ⟨rfl, rfl⟩ ⟨by decide, by decide⟩ (Nat.le_of_ble_eq_true rfl) rfl dX6_did_101 ?_
          refine fx_iconst (pc := 104) F ⟨by decide, by decide⟩ dX6_did_104 ?_
          refine fx_iadd (pc := 105) F dX6_did_105 ?_
          obtain ⟨v157, e158, eq153⟩ := fx_bnd eq153
          refine fx_rirem (pc := 106) F e158 dX6_did_106 ?_
          refine fx_istore (pc := 107) (ls' := [some (8, this_0), some (0, hour_0), some (0, person_0), some (0, codes_37), some (0, many_119), some (0, first_120), some (0, code_121), some (0, rest_150), some (0, p_151), some (0, v157)]) F (by decide) rfl rfl dX6_did_107 ?_
          refine fx_aload_n (pc := 109) (t := 6) F 0 rfl rfl dX6_did_109 ?_
          refine fx_gR (pc := 110) F 6 8 8 8 rfl kC_X6 (by decide) rfl wF_X6_33 dX6_did_110 ?_
          refine fx_iconst (pc := 113) F ⟨by decide, by decide⟩ dX6_did_113 ?_
          refine fx_iload (pc := 114) F rfl dX6_did_114 ?_
          refine fx_imul (pc := 116) F dX6_did_116 ?_
          refine fx_iload_n (pc := 117) F 1 rfl rfl dX6_did_117 ?_
          refine fx_iadd (pc := 118) F dX6_did_118 ?_
          obtain ⟨v159, e160, eq153⟩ := fx_bnd eq153
          have hJ161 : fx_J M G Λ 10 134 [some (8, this_0), some (0, hour_0), some (0, person_0), some (0, codes_37), some (0, many_119), some (0, first_120), some (0, code_121), some (0, rest_150), some (0, p_151), some (0, v157)] [(0, v159), (0, (fx_w ((fx_w (5 * p_151)) + hour_0))), (10, (fx_tg Λ this_0 8))] h152 := by
            obtain ⟨h165, e166, eq153⟩ := fx_bnd eq153
            refine fx_rastI (pc := 134) F e166 dX6_did_134 ?_
            refine fx_iload (pc := 135) F rfl dX6_did_135 ?_
            refine fx_aload_n (pc := 137) (t := 6) F 0 rfl rfl dX6_did_137 ?_
            obtain ⟨v167, e168, eq153⟩ := fx_bnd eq153
            refine fx_cV (pc := 138) F 6 kC_X6 [] this_0 [(0, rest_150)] (m_X6_things Fu Λ this_0 h165 _ e168) kD_X6_things kI_X6_things rfl wM_X6_70 ⟨rfl, rfl⟩ ⟨by decide, by decide⟩ (Nat.le_of_ble_eq_true rfl) rfl dX6_did_138 ?_
            refine fx_iconst (pc := 141) F ⟨by decide, by decide⟩ dX6_did_141 ?_
            refine fx_iadd (pc := 142) F dX6_did_142 ?_
            obtain ⟨v169, e170, eq153⟩ := fx_bnd eq153
            refine fx_ridiv (pc := 143) F e170 dX6_did_143 ?_
            refine fx_istore (pc := 144) (ls' := [some (8, this_0), some (0, hour_0), some (0, person_0), some (0, codes_37), some (0, many_119), some (0, first_120), some (0, code_121), some (0, v169), some (0, p_151), some (0, v157)]) F (by decide) rfl rfl dX6_did_144 ?_
            refine fx_iinc (pc := 146) (ls' := [some (8, this_0), some (0, hour_0), some (0, person_0), some (0, codes_37), some (0, many_119), some (0, first_120), some (0, code_121), some (0, v169), some (0, (fx_w (p_151 + (-1)))), some (0, v157)]) F (by decide) rfl rfl rfl dX6_did_146 ?_
            refine fx_goto (pc := 149) F 93 (by decide) dX6_did_149 ?_
            cases eq153
            refine fx_drop (ls' := [some (8, this_0), some (0, hour_0), some (0, person_0), some (0, codes_37), some (0, many_119), some (0, first_120), some (0, code_121), some (0, v169), some (0, (fx_w (p_151 + (-1)))), none]) ⟨rfl, rfl, rfl, rfl, rfl, rfl, rfl, rfl, rfl, trivial⟩ ?_
            exact ih _ rfl
          refine fx_iload (pc := 119) F rfl dX6_did_119 ?_
          refine fx_aload_n (pc := 121) (t := 6) F 0 rfl rfl dX6_did_121 ?_
          obtain ⟨v162, e163, e160⟩ := fx_bnd e160
          refine fx_cV (pc := 122) F 6 kC_X6 [] this_0 [(0, v157), (0, (fx_w ((fx_w (5 * p_151)) + hour_0))), (10, (fx_tg Λ this_0 8))] (m_X6_things Fu Λ this_0 h152 _ e163) kD_X6_things kI_X6_things rfl wM_X6_70 ⟨rfl, rfl⟩ ⟨by decide, by decide⟩ (Nat.le_of_ble_eq_true rfl) rfl dX6_did_122 ?_
          refine fx_neq (pc := 125) F 132 (by decide) dX6_did_125 (fun c164 => ?_) (fun c164 => ?_)
          · have e160 := (if_pos c164).symm.trans e160
            refine fx_iconst (pc := 128) F ⟨by decide, by decide⟩ dX6_did_128 ?_
            cases e160
            refine fx_goto (pc := 129) F 134 (by decide) dX6_did_129 ?_
            exact hJ161
          · have e160 := (if_neg c164).symm.trans e160
            refine fx_iload (pc := 132) F rfl dX6_did_132 ?_
            cases e160
            exact hJ161
        · have eq153 := (if_neg c154).symm.trans eq153
          cases eq153
          exact ex _ rfl
      · have eq123 := (if_neg c124).symm.trans eq123
        cases eq123
        exact ex _ rfl
    refine fx_loop_J (Hd := (fun z : Int × Int => fx_J M G Λ 10 41 [some (8, this_0), some (0, hour_0), some (0, person_0), some (0, z.1), some (0, z.2), none, none, none, none, none] [] h18)) (Ex := (fun z : Int × Int => fx_J M G Λ 10 65 [some (8, this_0), some (0, hour_0), some (0, person_0), some (0, z.1), some (0, z.2), none, none, none, none, none] [] h18)) ?_ Fu _ _ e39 hE40
    rintro ⟨codes_29, p_30⟩ o9 eq31 ih ex
    unfold s_X6_did_1 at eq31
    show fx_J M G Λ 10 41 [some (8, this_0), some (0, hour_0), some (0, person_0), some (0, codes_29), some (0, p_30), none, none, none, none, none] [] h18
    refine fx_iload (pc := 41) F rfl dX6_did_41 ?_
    refine fx_aload_n (pc := 43) (t := 6) F 0 rfl rfl dX6_did_43 ?_
    obtain ⟨v32, e33, eq31⟩ := fx_bnd eq31
    refine fx_cV (pc := 44) F 6 kC_X6 [] this_0 [(0, p_30)] (m_X6_people Fu Λ this_0 h18 _ e33) kD_X6_people kI_X6_people rfl wM_X6_78 ⟨rfl, rfl⟩ ⟨by decide, by decide⟩ (Nat.le_of_ble_eq_true rfl) rfl dX6_did_44 ?_
    refine fx_nlt (pc := 47) F 65 (by decide) dX6_did_47 (fun c34 => ?_) (fun c34 => ?_)
    · have eq31 := (if_pos c34).symm.trans eq31
      refine fx_iload_n (pc := 50) F 3 rfl rfl dX6_did_50 ?_
      refine fx_aload_n (pc := 51) (t := 6) F 0 rfl rfl dX6_did_51 ?_
      obtain ⟨v35, e36, eq31⟩ := fx_bnd eq31
      refine fx_cV (pc := 52) F 6 kC_X6 [] this_0 [(0, codes_29)] (m_X6_things Fu Λ this_0 h18 _ e36) kD_X6_things kI_X6_things rfl wM_X6_70 ⟨rfl, rfl⟩ ⟨by decide, by decide⟩ (Nat.le_of_ble_eq_true rfl) rfl dX6_did_52 ?_
      refine fx_iconst (pc := 55) F ⟨by decide, by decide⟩ dX6_did_55 ?_
      refine fx_iadd (pc := 56) F dX6_did_56 ?_
      refine fx_imul (pc := 57) F dX6_did_57 ?_
      refine fx_istore_n (pc := 58) (ls' := [some (8, this_0), some (0, hour_0), some (0, person_0), some (0, (fx_w (codes_29 * (fx_w (v35 + 1))))), some (0, p_30), none, none, none, none, none]) F 3 rfl (by decide) rfl rfl dX6_did_58 ?_
      refine fx_iinc (pc := 59) (ls' := [some (8, this_0), some (0, hour_0), some (0, person_0), some (0, (fx_w (codes_29 * (fx_w (v35 + 1))))), some (0, (fx_w (p_30 + 1))), none, none, none, none, none]) F (by decide) rfl rfl rfl dX6_did_59 ?_
      refine fx_goto (pc := 62) F 41 (by decide) dX6_did_62 ?_
      cases eq31
      exact ih _ rfl
    · have eq31 := (if_neg c34).symm.trans eq31
      cases eq31
      exact ex _ rfl
  refine fx_aload_n (pc := 0) (t := 6) F 0 rfl rfl dX6_did_0 ?_
  refine fx_iload_n (pc := 1) F 1 rfl rfl dX6_did_1 ?_
  obtain ⟨v5, e6, e2⟩ := fx_bnd e2
  refine fx_cV (pc := 2) F 6 kC_X6 [(0, hour_0)] this_0 [] (m_X6_isHour Fu Λ this_0 hour_0 h _ e6) kD_X6_isHour kI_X6_isHour rfl wM_X6_97 ⟨rfl, rfl⟩ ⟨by decide, by decide⟩ (Nat.le_of_ble_eq_true rfl) rfl dX6_did_2 ?_
  refine fx_jzeq (pc := 5) F 21 (by decide) dX6_did_5 (fun c7 => ?_) (fun c7 => ?_)
  · have e2 := (if_pos c7).symm.trans e2
    cases e2
    exact hT3 (by decide)
  · have e2 := (if_neg c7).symm.trans e2
    refine fx_iload_n (pc := 8) F 2 rfl rfl dX6_did_8 ?_
    refine fx_iconst (pc := 9) F ⟨by decide, by decide⟩ dX6_did_9 ?_
    refine fx_nne (pc := 10) F 28 (by decide) dX6_did_10 (fun c8 => ?_) (fun c8 => ?_)
    · have e2 := (if_pos c8).symm.trans e2
      refine fx_aload_n (pc := 13) (t := 6) F 0 rfl rfl dX6_did_13 ?_
      refine fx_iload_n (pc := 14) F 2 rfl rfl dX6_did_14 ?_
      obtain ⟨v9, e10, e2⟩ := fx_bnd e2
      refine fx_cV (pc := 15) F 6 kC_X6 [(0, person_0)] this_0 [] (m_X6_isOne Fu Λ this_0 person_0 h _ e10) kD_X6_isOne kI_X6_isOne rfl wM_X6_102 ⟨rfl, rfl⟩ ⟨by decide, by decide⟩ (Nat.le_of_ble_eq_true rfl) rfl dX6_did_15 ?_
      refine fx_nzeq (pc := 18) F 28 (by decide) dX6_did_18 (fun c11 => ?_) (fun c11 => ?_)
      · have e2 := (if_pos c11).symm.trans e2
        cases e2
        exact hT3 (by decide)
      · have e2 := (if_neg c11).symm.trans e2
        cases e2
        exact hF4 (by decide)
    · have e2 := (if_neg c8).symm.trans e2
      cases e2
      exact hF4 (by decide)
def s_X6_copied_2 (Fu : Nat) (Λ : fx_L) (this_18 : Int) (person_19 : Int) (q_20 : Int) (h : fx_H) : Int × Int → Option ((Int × Int) ⊕ (Int × Int)) := fun (n_16, h_17) =>
  (f_X6_hours Fu Λ this_18 h).bind fun v24 =>
  if ((h_17 < (fx_w (v24 - 1))) ∧ (¬ q_20 = person_19)) then
    (fx_rd Λ h (fx_tg Λ this_18 0) (fx_w ((fx_w (19 + (fx_w (5 * q_20)))) + h_17))).bind fun v29 =>
    Option.bind (
      Option.bind (
        if ¬ v29 = (-1) then
          (fx_rd Λ h (fx_tg Λ this_18 0) (fx_w ((fx_w ((fx_w (19 + (fx_w (5 * person_19)))) + h_17)) + 1))).bind fun v39 =>
          if v39 = v29 then
            some true
          else
            some false
        else
          some false
      ) fun b34 =>
      if b34 = true then
        some 1
      else
        some 0
    ) fun v31 =>
    some (.inl ((fx_w (n_16 + v31)), (fx_w (h_17 + 1))))
  else
    some (.inr (n_16, h_17))
def s_X6_copied_1 (Fu : Nat) (Λ : fx_L) (this_10 : Int) (person_11 : Int) (h : fx_H) : Int × Int × Int → Option ((Int × Int × Int) ⊕ (Int × Int × Int)) := fun (whom_7, most_8, q_9) =>
  (f_X6_people Fu Λ this_10 h).bind fun v13 =>
  if q_9 < v13 then
    Option.bind (fx_loop (s_X6_copied_2 Fu Λ this_10 person_11 q_9 h) Fu (0, 0)) fun (n_67, h_68) =>
    Option.bind (
      if most_8 < n_67 then
        some q_9
      else
        some whom_7
    ) fun v71 =>
    Option.bind (
      if most_8 < n_67 then
        some n_67
      else
        some most_8
    ) fun v75 =>
    some (.inl (v71, v75, (fx_w (q_9 + 1))))
  else
    some (.inr (whom_7, most_8, q_9))
def f_X6_copied (Fu : Nat) (Λ : fx_L) (this_0 : Int) (person_0 : Int) (h : fx_H) : Option (Int × fx_H) :=
  (f_X6_isOne Fu Λ this_0 person_0 h).bind fun v1 =>
  if v1 = 0 then
    (f_X6_bad Fu Λ this_0 (-2) h).bind fun (v4, h5) =>
    some (v4, h5)
  else
    Option.bind (fx_loop (s_X6_copied_1 Fu Λ this_0 person_0 h) Fu ((-1), 0, 0)) fun (whom_149, most_150, q_151) =>
    some (whom_149, h)
abbrev rm_X6_copied : Room := { frames := 2, cells := 0, slots := 0, locals := 46 }
set_option maxRecDepth 100000 in
set_option maxHeartbeats 4000000 in
theorem m_X6_copied (Fu : Nat) (Λ : fx_L) (this_0 : Int) (person_0 : Int) (h : fx_H) (r : Int) (ho : fx_H) (hf : f_X6_copied Fu Λ this_0 person_0 h = some (r, ho)) : fx_Met yX6_copied cX6_copied 8 (some .int) rm_X6_copied Λ [(8, this_0), (0, person_0)] h (some (0, r)) ho := by
  unfold f_X6_copied at hf
  refine fx_enter (ls := [some (8, this_0), some (0, person_0), none, none, none, none, none, none]) (by decide) (Nat.le_of_ble_eq_true rfl) rfl (fun M G F K => ?_)
  refine fx_aload_n (pc := 0) (t := 6) F 0 rfl rfl dX6_copied_0 ?_
  refine fx_iload_n (pc := 1) F 1 rfl rfl dX6_copied_1 ?_
  obtain ⟨v1, e2, hf⟩ := fx_bnd hf
  refine fx_cV (pc := 2) F 6 kC_X6 [(0, person_0)] this_0 [] (m_X6_isOne Fu Λ this_0 person_0 h _ e2) kD_X6_isOne kI_X6_isOne rfl wM_X6_102 ⟨rfl, rfl⟩ ⟨by decide, by decide⟩ (Nat.le_of_ble_eq_true rfl) rfl dX6_copied_2 ?_
  refine fx_nzeq (pc := 5) F 15 (by decide) dX6_copied_5 (fun c3 => ?_) (fun c3 => ?_)
  · have hf := (if_pos c3).symm.trans hf
    refine fx_aload_n (pc := 8) (t := 6) F 0 rfl rfl dX6_copied_8 ?_
    refine fx_bipush (pc := 9) F ⟨by decide, by decide⟩ (by decide) dX6_copied_9 ?_
    obtain ⟨⟨v4, h5⟩, e6, hf⟩ := fx_bnd hf
    refine fx_cV (pc := 11) F 6 kC_X6 [(0, (-2))] this_0 [] (m_X6_bad Fu Λ this_0 (-2) h _ _ e6) kD_X6_bad kI_X6_bad rfl wM_X6_88 ⟨rfl, rfl⟩ ⟨by decide, by decide⟩ (Nat.le_of_ble_eq_true rfl) rfl dX6_copied_11 ?_
    cases hf
    exact fx_ireturn (pc := 14) F K dX6_copied_14
  · have hf := (if_neg c3).symm.trans hf
    refine fx_iconst (pc := 15) F ⟨by decide, by decide⟩ dX6_copied_15 ?_
    refine fx_istore_n (pc := 16) (ls' := [some (8, this_0), some (0, person_0), some (0, (-1)), none, none, none, none, none]) F 2 rfl (by decide) rfl rfl dX6_copied_16 ?_
    refine fx_iconst (pc := 17) F ⟨by decide, by decide⟩ dX6_copied_17 ?_
    refine fx_istore_n (pc := 18) (ls' := [some (8, this_0), some (0, person_0), some (0, (-1)), some (0, 0), none, none, none, none]) F 3 rfl (by decide) rfl rfl dX6_copied_18 ?_
    refine fx_iconst (pc := 19) F ⟨by decide, by decide⟩ dX6_copied_19 ?_
    refine fx_istore (pc := 20) (ls' := [some (8, this_0), some (0, person_0), some (0, (-1)), some (0, 0), some (0, 0), none, none, none]) F (by decide) rfl rfl dX6_copied_20 ?_
    obtain ⟨⟨whom_149, most_150, q_151⟩, e152, hf⟩ := fx_bnd hf
    have hE153 : fx_J M G Λ 8 146 [some (8, this_0), some (0, person_0), some (0, whom_149), some (0, most_150), some (0, q_151), none, none, none] [] h := by
      refine fx_iload_n (pc := 146) F 2 rfl rfl dX6_copied_146 ?_
      cases hf
      exact fx_ireturn (pc := 147) F K dX6_copied_147
    refine fx_loop_J (Hd := (fun z : Int × Int × Int => fx_J M G Λ 8 22 [some (8, this_0), some (0, person_0), some (0, z.1), some (0, z.2.1), some (0, z.2.2), none, none, none] [] h)) (Ex := (fun z : Int × Int × Int => fx_J M G Λ 8 146 [some (8, this_0), some (0, person_0), some (0, z.1), some (0, z.2.1), some (0, z.2.2), none, none, none] [] h)) ?_ Fu _ _ e152 hE153
    rintro ⟨whom_79, most_80, q_81⟩ o9 eq82 ih ex
    unfold s_X6_copied_1 at eq82
    show fx_J M G Λ 8 22 [some (8, this_0), some (0, person_0), some (0, whom_79), some (0, most_80), some (0, q_81), none, none, none] [] h
    refine fx_iload (pc := 22) F rfl dX6_copied_22 ?_
    refine fx_aload_n (pc := 24) (t := 6) F 0 rfl rfl dX6_copied_24 ?_
    obtain ⟨v83, e84, eq82⟩ := fx_bnd eq82
    refine fx_cV (pc := 25) F 6 kC_X6 [] this_0 [(0, q_81)] (m_X6_people Fu Λ this_0 h _ e84) kD_X6_people kI_X6_people rfl wM_X6_78 ⟨rfl, rfl⟩ ⟨by decide, by decide⟩ (Nat.le_of_ble_eq_true rfl) rfl dX6_copied_25 ?_
    refine fx_nlt (pc := 28) F 146 (by decide) dX6_copied_28 (fun c85 => ?_) (fun c85 => ?_)
    · have eq82 := (if_pos c85).symm.trans eq82
      refine fx_iconst (pc := 31) F ⟨by decide, by decide⟩ dX6_copied_31 ?_
      refine fx_istore (pc := 32) (ls' := [some (8, this_0), some (0, person_0), some (0, whom_79), some (0, most_80), some (0, q_81), some (0, 0), none, none]) F (by decide) rfl rfl dX6_copied_32 ?_
      refine fx_iconst (pc := 34) F ⟨by decide, by decide⟩ dX6_copied_34 ?_
      refine fx_istore (pc := 35) (ls' := [some (8, this_0), some (0, person_0), some (0, whom_79), some (0, most_80), some (0, q_81), some (0, 0), some (0, 0), none]) F (by decide) rfl rfl dX6_copied_35 ?_
      obtain ⟨⟨n_137, h_138⟩, e139, eq82⟩ := fx_bnd eq82
      have hE140 : fx_J M G Λ 8 114 [some (8, this_0), some (0, person_0), some (0, whom_79), some (0, most_80), some (0, q_81), some (0, n_137), some (0, h_138), none] [] h := by
        obtain ⟨v141, e142, eq82⟩ := fx_bnd eq82
        have hJ143 : fx_J M G Λ 8 126 [some (8, this_0), some (0, person_0), some (0, whom_79), some (0, most_80), some (0, q_81), some (0, n_137), some (0, h_138), none] [(0, v141)] h := by
          refine fx_istore_n (pc := 126) (ls' := [some (8, this_0), some (0, person_0), some (0, v141), some (0, most_80), some (0, q_81), some (0, n_137), some (0, h_138), none]) F 2 rfl (by decide) rfl rfl dX6_copied_126 ?_
          obtain ⟨v145, e146, eq82⟩ := fx_bnd eq82
          have hJ147 : fx_J M G Λ 8 139 [some (8, this_0), some (0, person_0), some (0, v141), some (0, most_80), some (0, q_81), some (0, n_137), some (0, h_138), none] [(0, v145)] h := by
            refine fx_istore_n (pc := 139) (ls' := [some (8, this_0), some (0, person_0), some (0, v141), some (0, v145), some (0, q_81), some (0, n_137), some (0, h_138), none]) F 3 rfl (by decide) rfl rfl dX6_copied_139 ?_
            refine fx_iinc (pc := 140) (ls' := [some (8, this_0), some (0, person_0), some (0, v141), some (0, v145), some (0, (fx_w (q_81 + 1))), some (0, n_137), some (0, h_138), none]) F (by decide) rfl rfl rfl dX6_copied_140 ?_
            refine fx_goto (pc := 143) F 22 (by decide) dX6_copied_143 ?_
            cases eq82
            refine fx_drop (ls' := [some (8, this_0), some (0, person_0), some (0, v141), some (0, v145), some (0, (fx_w (q_81 + 1))), none, none, none]) ⟨rfl, rfl, rfl, rfl, rfl, trivial⟩ ?_
            exact ih _ rfl
          refine fx_iload (pc := 127) F rfl dX6_copied_127 ?_
          refine fx_iload_n (pc := 129) F 3 rfl rfl dX6_copied_129 ?_
          refine fx_ngt (pc := 130) F 138 (by decide) dX6_copied_130 (fun c148 => ?_) (fun c148 => ?_)
          · have e146 := (if_pos c148).symm.trans e146
            refine fx_iload (pc := 133) F rfl dX6_copied_133 ?_
            cases e146
            refine fx_goto (pc := 135) F 139 (by decide) dX6_copied_135 ?_
            exact hJ147
          · have e146 := (if_neg c148).symm.trans e146
            refine fx_iload_n (pc := 138) F 3 rfl rfl dX6_copied_138 ?_
            cases e146
            exact hJ147
        refine fx_iload (pc := 114) F rfl dX6_copied_114 ?_
        refine fx_iload_n (pc := 116) F 3 rfl rfl dX6_copied_116 ?_
        refine fx_ngt (pc := 117) F 125 (by decide) dX6_copied_117 (fun c144 => ?_) (fun c144 => ?_)
        · have e142 := (if_pos c144).symm.trans e142
          refine fx_iload (pc := 120) F rfl dX6_copied_120 ?_
          cases e142
          refine fx_goto (pc := 122) F 126 (by decide) dX6_copied_122 ?_
          exact hJ143
        · have e142 := (if_neg c144).symm.trans e142
          refine fx_iload_n (pc := 125) F 2 rfl rfl dX6_copied_125 ?_
          cases e142
          exact hJ143
      refine fx_loop_J (Hd := (fun z : Int × Int => fx_J M G Λ 8 37 [some (8, this_0), some (0, person_0), some (0, whom_79), some (0, most_80), some (0, q_81), some (0, z.1), some (0, z.2), none] [] h)) (Ex := (fun z : Int × Int => fx_J M G Λ 8 114 [some (8, this_0), some (0, person_0), some (0, whom_79), some (0, most_80), some (0, q_81), some (0, z.1), some (0, z.2), none] [] h)) ?_ Fu _ _ e139 hE140
      rintro ⟨n_113, h_114⟩ o9 eq115 ih ex
      unfold s_X6_copied_2 at eq115
      show fx_J M G Λ 8 37 [some (8, this_0), some (0, person_0), some (0, whom_79), some (0, most_80), some (0, q_81), some (0, n_113), some (0, h_114), none] [] h
      refine fx_iload (pc := 37) F rfl dX6_copied_37 ?_
      refine fx_aload_n (pc := 39) (t := 6) F 0 rfl rfl dX6_copied_39 ?_
      obtain ⟨v118, e119, eq115⟩ := fx_bnd eq115
      refine fx_cV (pc := 40) F 6 kC_X6 [] this_0 [(0, h_114)] (m_X6_hours Fu Λ this_0 h _ e119) kD_X6_hours kI_X6_hours rfl wM_X6_81 ⟨rfl, rfl⟩ ⟨by decide, by decide⟩ (Nat.le_of_ble_eq_true rfl) rfl dX6_copied_40 ?_
      refine fx_iconst (pc := 43) F ⟨by decide, by decide⟩ dX6_copied_43 ?_
      refine fx_isub (pc := 44) F dX6_copied_44 ?_
      have hT116 : (((h_114 < (fx_w (v118 - 1))) ∧ (¬ q_81 = person_0))) → fx_J M G Λ 8 54 [some (8, this_0), some (0, person_0), some (0, whom_79), some (0, most_80), some (0, q_81), some (0, n_113), some (0, h_114), none] [] h := fun c122 => by
        have eq115 := (if_pos c122).symm.trans eq115
        refine fx_aload_n (pc := 54) (t := 6) F 0 rfl rfl dX6_copied_54 ?_
        refine fx_gR (pc := 55) F 6 0 0 8 rfl kC_X6 (by decide) rfl wF_X6_7 dX6_copied_55 ?_
        refine fx_bipush (pc := 58) F ⟨by decide, by decide⟩ (by decide) dX6_copied_58 ?_
        refine fx_iconst (pc := 60) F ⟨by decide, by decide⟩ dX6_copied_60 ?_
        refine fx_iload (pc := 61) F rfl dX6_copied_61 ?_
        refine fx_imul (pc := 63) F dX6_copied_63 ?_
        refine fx_iadd (pc := 64) F dX6_copied_64 ?_
        refine fx_iload (pc := 65) F rfl dX6_copied_65 ?_
        refine fx_iadd (pc := 67) F dX6_copied_67 ?_
        obtain ⟨v123, e124, eq115⟩ := fx_bnd eq115
        refine fx_raldI (pc := 68) F e124 dX6_copied_68 ?_
        refine fx_istore (pc := 69) (ls' := [some (8, this_0), some (0, person_0), some (0, whom_79), some (0, most_80), some (0, q_81), some (0, n_113), some (0, h_114), some (0, v123)]) F (by decide) rfl rfl dX6_copied_69 ?_
        refine fx_iload (pc := 71) F rfl dX6_copied_71 ?_
        obtain ⟨v125, e126, eq115⟩ := fx_bnd eq115
        have hJ127 : fx_J M G Λ 8 105 [some (8, this_0), some (0, person_0), some (0, whom_79), some (0, most_80), some (0, q_81), some (0, n_113), some (0, h_114), some (0, v123)] [(0, v125), (0, n_113)] h := by
          refine fx_iadd (pc := 105) F dX6_copied_105 ?_
          refine fx_istore (pc := 106) (ls' := [some (8, this_0), some (0, person_0), some (0, whom_79), some (0, most_80), some (0, q_81), some (0, (fx_w (n_113 + v125))), some (0, h_114), some (0, v123)]) F (by decide) rfl rfl dX6_copied_106 ?_
          refine fx_iinc (pc := 108) (ls' := [some (8, this_0), some (0, person_0), some (0, whom_79), some (0, most_80), some (0, q_81), some (0, (fx_w (n_113 + v125))), some (0, (fx_w (h_114 + 1))), some (0, v123)]) F (by decide) rfl rfl rfl dX6_copied_108 ?_
          refine fx_goto (pc := 111) F 37 (by decide) dX6_copied_111 ?_
          cases eq115
          refine fx_drop (ls' := [some (8, this_0), some (0, person_0), some (0, whom_79), some (0, most_80), some (0, q_81), some (0, (fx_w (n_113 + v125))), some (0, (fx_w (h_114 + 1))), none]) ⟨rfl, rfl, rfl, rfl, rfl, rfl, rfl, trivial⟩ ?_
          exact ih _ rfl
        obtain ⟨b128, e129, e126⟩ := fx_bnd e126
        have hT130 : b128 = true → fx_J M G Λ 8 100 [some (8, this_0), some (0, person_0), some (0, whom_79), some (0, most_80), some (0, q_81), some (0, n_113), some (0, h_114), some (0, v123)] [(0, n_113)] h := fun c136 => by
          have e126 := (if_pos c136).symm.trans e126
          refine fx_iconst (pc := 100) F ⟨by decide, by decide⟩ dX6_copied_100 ?_
          cases e126
          refine fx_goto (pc := 101) F 105 (by decide) dX6_copied_101 ?_
          exact hJ127
        have hF131 : ¬ b128 = true → fx_J M G Λ 8 104 [some (8, this_0), some (0, person_0), some (0, whom_79), some (0, most_80), some (0, q_81), some (0, n_113), some (0, h_114), some (0, v123)] [(0, n_113)] h := fun c136 => by
          have e126 := (if_neg c136).symm.trans e126
          refine fx_iconst (pc := 104) F ⟨by decide, by decide⟩ dX6_copied_104 ?_
          cases e126
          exact hJ127
        refine fx_iload (pc := 73) F rfl dX6_copied_73 ?_
        refine fx_iconst (pc := 75) F ⟨by decide, by decide⟩ dX6_copied_75 ?_
        refine fx_nne (pc := 76) F 104 (by decide) dX6_copied_76 (fun c132 => ?_) (fun c132 => ?_)
        · have e129 := (if_pos c132).symm.trans e129
          refine fx_aload_n (pc := 79) (t := 6) F 0 rfl rfl dX6_copied_79 ?_
          refine fx_gR (pc := 80) F 6 0 0 8 rfl kC_X6 (by decide) rfl wF_X6_7 dX6_copied_80 ?_
          refine fx_bipush (pc := 83) F ⟨by decide, by decide⟩ (by decide) dX6_copied_83 ?_
          refine fx_iconst (pc := 85) F ⟨by decide, by decide⟩ dX6_copied_85 ?_
          refine fx_iload_n (pc := 86) F 1 rfl rfl dX6_copied_86 ?_
          refine fx_imul (pc := 87) F dX6_copied_87 ?_
          refine fx_iadd (pc := 88) F dX6_copied_88 ?_
          refine fx_iload (pc := 89) F rfl dX6_copied_89 ?_
          refine fx_iadd (pc := 91) F dX6_copied_91 ?_
          refine fx_iconst (pc := 92) F ⟨by decide, by decide⟩ dX6_copied_92 ?_
          refine fx_iadd (pc := 93) F dX6_copied_93 ?_
          obtain ⟨v133, e134, e129⟩ := fx_bnd e129
          refine fx_raldI (pc := 94) F e134 dX6_copied_94 ?_
          refine fx_iload (pc := 95) F rfl dX6_copied_95 ?_
          refine fx_neq (pc := 97) F 104 (by decide) dX6_copied_97 (fun c135 => ?_) (fun c135 => ?_)
          · have e129 := (if_pos c135).symm.trans e129
            cases e129
            exact hT130 (by decide)
          · have e129 := (if_neg c135).symm.trans e129
            cases e129
            exact hF131 (by decide)
        · have e129 := (if_neg c132).symm.trans e129
          cases e129
          exact hF131 (by decide)
      have hF117 : ¬ (((h_114 < (fx_w (v118 - 1))) ∧ (¬ q_81 = person_0))) → fx_J M G Λ 8 114 [some (8, this_0), some (0, person_0), some (0, whom_79), some (0, most_80), some (0, q_81), some (0, n_113), some (0, h_114), none] [] h := fun c122 => by
        have eq115 := (if_neg c122).symm.trans eq115
        cases eq115
        exact ex _ rfl
      refine fx_nlt (pc := 45) F 114 (by decide) dX6_copied_45 (fun c120 => ?_) (fun c120 => ?_)
      · refine fx_iload (pc := 48) F rfl dX6_copied_48 ?_
        refine fx_iload_n (pc := 50) F 1 rfl rfl dX6_copied_50 ?_
        refine fx_nne (pc := 51) F 114 (by decide) dX6_copied_51 (fun c121 => ?_) (fun c121 => ?_)
        · exact hT116 ⟨c120, c121⟩
        · exact hF117 (fun q => c121 q.2)
      · exact hF117 (fun q => c120 q.1)
    · have eq82 := (if_neg c85).symm.trans eq82
      cases eq82
      exact ex _ rfl
def s_X6_crowd_2 (Fu : Nat) (Λ : fx_L) (n_33 : Int) (m_34 : Int) (h : fx_H) : Int × Int → Option ((Int × Int) ⊕ (Int × Int)) := fun (v_31, i_32) =>
  if i_32 < n_33 then
    some (.inl ((fx_wl (v_31 * (fx_w (m_34 - 1)))), (fx_w (i_32 + 1))))
  else
    some (.inr (v_31, i_32))
def s_X6_crowd_1 (Fu : Nat) (Λ : fx_L) (n_22 : Int) (m_23 : Int) (k_24 : Int) (h : fx_H) : Int × Int × Int × Int → Option ((Int × Int × Int × Int) ⊕ (Int × Int × Int × Int)) := fun (sum_18, all_19, ways_20, j_21) =>
  if j_21 ≤ n_22 then
    Option.bind (
      if j_21 < k_24 then
        some 0
      else
        some ways_20
    ) fun v27 =>
    Option.bind (fx_loop (s_X6_crowd_2 Fu Λ n_22 m_23 h) Fu (v27, j_21)) fun (v_41, i_42) =>
    (fx_dvl (fx_wl (ways_20 * (fx_w (n_22 - j_21)))) (fx_w (j_21 + 1))).bind fun v45 =>
    Option.bind (
      if j_21 < n_22 then
        some m_23
      else
        some 1
    ) fun v47 =>
    some (.inl ((fx_wl (sum_18 + v_41)), (fx_wl (all_19 * v47)), v45, (fx_w (j_21 + 1))))
  else
    some (.inr (sum_18, all_19, ways_20, j_21))
def s_X6_crowd_3 (Fu : Nat) (Λ : fx_L) (h : fx_H) : Int × Int → Option ((Int × Int) ⊕ (Int × Int)) := fun (a_87, b_88) =>
  if ¬ b_88 = 0 then
    (fx_rml a_87 b_88).bind fun v91 =>
    some (.inl (b_88, v91))
  else
    some (.inr (a_87, b_88))
def f_X6_crowd (Fu : Nat) (Λ : fx_L) (this_0 : Int) (n_0 : Int) (m_0 : Int) (k_0 : Int) (h : fx_H) : Option (Int × fx_H) :=
  Option.bind (
    (f_X6_in Fu Λ n_0 1 18 h).bind fun v5 =>
    if v5 = 0 then
      some true
    else
      (f_X6_in Fu Λ m_0 1 9 h).bind fun v8 =>
      if v8 = 0 then
        some true
      else
        (f_X6_in Fu Λ k_0 0 n_0 h).bind fun v11 =>
        if v11 = 0 then
          some true
        else
          some false
  ) fun b1 =>
  if b1 = true then
    (f_X6_bad Fu Λ this_0 (-2) h).bind fun (v15, h16) =>
    some (v15, h16)
  else
    Option.bind (fx_loop (s_X6_crowd_1 Fu Λ n_0 m_0 k_0 h) Fu (0, 1, 1, 0)) fun (sum_81, all_82, ways_83, j_84) =>
    Option.bind (fx_loop (s_X6_crowd_3 Fu Λ h) Fu (sum_81, all_82)) fun (a_99, b_100) =>
    (fx_dvl sum_81 a_99).bind fun v103 =>
    (fx_dvl all_82 a_99).bind fun v105 =>
    some (1, (fx_up (fx_up h this_0 1000004 v103) this_0 1000005 v105))
abbrev rm_X6_crowd : Room := { frames := 1, cells := 0, slots := 0, locals := 25 }
set_option maxRecDepth 100000 in
set_option maxHeartbeats 4000000 in
theorem m_X6_crowd (Fu : Nat) (Λ : fx_L) (this_0 : Int) (n_0 : Int) (m_0 : Int) (k_0 : Int) (h : fx_H) (r : Int) (ho : fx_H) (hf : f_X6_crowd Fu Λ this_0 n_0 m_0 k_0 h = some (r, ho)) : fx_Met yX6_crowd cX6_crowd 16 (some .int) rm_X6_crowd Λ [(8, this_0), (0, n_0), (0, m_0), (0, k_0)] h (some (0, r)) ho := by
  unfold f_X6_crowd at hf
  refine fx_enter (ls := [some (8, this_0), some (0, n_0), some (0, m_0), some (0, k_0), none, none, none, none, none, none, none, none, none, none, none, none]) (by decide) (Nat.le_of_ble_eq_true rfl) rfl (fun M G F K => ?_)
  obtain ⟨b1, e2, hf⟩ := fx_bnd hf
  have hT3 : b1 = true → fx_J M G Λ 16 35 [some (8, this_0), some (0, n_0), some (0, m_0), some (0, k_0), none, none, none, none, none, none, none, none, none, none, none, none] [] h := fun c14 => by
    have hf := (if_pos c14).symm.trans hf
    refine fx_aload_n (pc := 35) (t := 6) F 0 rfl rfl dX6_crowd_35 ?_
    refine fx_bipush (pc := 36) F ⟨by decide, by decide⟩ (by decide) dX6_crowd_36 ?_
    obtain ⟨⟨v15, h16⟩, e17, hf⟩ := fx_bnd hf
    refine fx_cV (pc := 38) F 6 kC_X6 [(0, (-2))] this_0 [] (m_X6_bad Fu Λ this_0 (-2) h _ _ e17) kD_X6_bad kI_X6_bad rfl wM_X6_88 ⟨rfl, rfl⟩ ⟨by decide, by decide⟩ (Nat.le_of_ble_eq_true rfl) rfl dX6_crowd_38 ?_
    cases hf
    exact fx_ireturn (pc := 41) F K dX6_crowd_41
  have hF4 : ¬ b1 = true → fx_J M G Λ 16 42 [some (8, this_0), some (0, n_0), some (0, m_0), some (0, k_0), none, none, none, none, none, none, none, none, none, none, none, none] [] h := fun c14 => by
    have hf := (if_neg c14).symm.trans hf
    refine fx_lconst (pc := 42) (z := 0) F rfl ⟨by decide, by decide⟩ (by decide) dX6_crowd_42 ?_
    refine fx_lstore (pc := 43) (ls' := [some (8, this_0), some (0, n_0), some (0, m_0), some (0, k_0), some (1, 0), none, none, none, none, none, none, none, none, none, none, none]) F (by decide) rfl rfl dX6_crowd_43 ?_
    refine fx_lconst (pc := 45) (z := 1) F rfl ⟨by decide, by decide⟩ (by decide) dX6_crowd_45 ?_
    refine fx_lstore (pc := 46) (ls' := [some (8, this_0), some (0, n_0), some (0, m_0), some (0, k_0), some (1, 0), none, some (1, 1), none, none, none, none, none, none, none, none, none]) F (by decide) rfl rfl dX6_crowd_46 ?_
    refine fx_lconst (pc := 48) (z := 1) F rfl ⟨by decide, by decide⟩ (by decide) dX6_crowd_48 ?_
    refine fx_lstore (pc := 49) (ls' := [some (8, this_0), some (0, n_0), some (0, m_0), some (0, k_0), some (1, 0), none, some (1, 1), none, some (1, 1), none, none, none, none, none, none, none]) F (by decide) rfl rfl dX6_crowd_49 ?_
    refine fx_iconst (pc := 51) F ⟨by decide, by decide⟩ dX6_crowd_51 ?_
    refine fx_istore (pc := 52) (ls' := [some (8, this_0), some (0, n_0), some (0, m_0), some (0, k_0), some (1, 0), none, some (1, 1), none, some (1, 1), none, some (0, 0), none, none, none, none, none]) F (by decide) rfl rfl dX6_crowd_52 ?_
    obtain ⟨⟨sum_81, all_82, ways_83, j_84⟩, e85, hf⟩ := fx_bnd hf
    have hE86 : fx_J M G Λ 16 145 [some (8, this_0), some (0, n_0), some (0, m_0), some (0, k_0), some (1, sum_81), none, some (1, all_82), none, some (1, ways_83), none, some (0, j_84), none, none, none, none, none] [] h := by
      refine fx_lload (pc := 145) F rfl dX6_crowd_145 ?_
      refine fx_lstore (pc := 147) (ls' := [some (8, this_0), some (0, n_0), some (0, m_0), some (0, k_0), some (1, sum_81), none, some (1, all_82), none, some (1, ways_83), none, some (1, sum_81), none, none, none, none, none]) F (by decide) rfl rfl dX6_crowd_147 ?_
      refine fx_lload (pc := 149) F rfl dX6_crowd_149 ?_
      refine fx_lstore (pc := 151) (ls' := [some (8, this_0), some (0, n_0), some (0, m_0), some (0, k_0), some (1, sum_81), none, some (1, all_82), none, some (1, ways_83), none, some (1, sum_81), none, some (1, all_82), none, none, none]) F (by decide) rfl rfl dX6_crowd_151 ?_
      obtain ⟨⟨a_99, b_100⟩, e101, hf⟩ := fx_bnd hf
      have hE102 : fx_J M G Λ 16 178 [some (8, this_0), some (0, n_0), some (0, m_0), some (0, k_0), some (1, sum_81), none, some (1, all_82), none, some (1, ways_83), none, some (1, a_99), none, some (1, b_100), none, none, none] [] h := by
        refine fx_aload_n (pc := 178) (t := 6) F 0 rfl rfl dX6_crowd_178 ?_
        refine fx_lload (pc := 179) F rfl dX6_crowd_179 ?_
        refine fx_lload (pc := 181) F rfl dX6_crowd_181 ?_
        obtain ⟨v103, e104, hf⟩ := fx_bnd hf
        refine fx_rldiv (pc := 183) F e104 dX6_crowd_183 ?_
        refine fx_pL (pc := 184) F 6 4 1000004 rfl kC_X6 rfl rfl (by decide +kernel) wF_X6_197 dX6_crowd_184 ?_
        refine fx_aload_n (pc := 187) (t := 6) F 0 rfl rfl dX6_crowd_187 ?_
        refine fx_lload (pc := 188) F rfl dX6_crowd_188 ?_
        refine fx_lload (pc := 190) F rfl dX6_crowd_190 ?_
        obtain ⟨v105, e106, hf⟩ := fx_bnd hf
        refine fx_rldiv (pc := 192) F e106 dX6_crowd_192 ?_
        refine fx_pL (pc := 193) F 6 5 1000005 rfl kC_X6 rfl rfl (by decide +kernel) wF_X6_23 dX6_crowd_193 ?_
        refine fx_iconst (pc := 196) F ⟨by decide, by decide⟩ dX6_crowd_196 ?_
        cases hf
        exact fx_ireturn (pc := 197) F K dX6_crowd_197
      refine fx_loop_J (Hd := (fun z : Int × Int => fx_J M G Λ 16 153 [some (8, this_0), some (0, n_0), some (0, m_0), some (0, k_0), some (1, sum_81), none, some (1, all_82), none, some (1, ways_83), none, some (1, z.1), none, some (1, z.2), none, none, none] [] h)) (Ex := (fun z : Int × Int => fx_J M G Λ 16 178 [some (8, this_0), some (0, n_0), some (0, m_0), some (0, k_0), some (1, sum_81), none, some (1, all_82), none, some (1, ways_83), none, some (1, z.1), none, some (1, z.2), none, none, none] [] h)) ?_ Fu _ _ e101 hE102
      rintro ⟨a_93, b_94⟩ o9 eq95 ih ex
      unfold s_X6_crowd_3 at eq95
      show fx_J M G Λ 16 153 [some (8, this_0), some (0, n_0), some (0, m_0), some (0, k_0), some (1, sum_81), none, some (1, all_82), none, some (1, ways_83), none, some (1, a_93), none, some (1, b_94), none, none, none] [] h
      refine fx_lload (pc := 153) F rfl dX6_crowd_153 ?_
      refine fx_lconst (pc := 155) (z := 0) F rfl ⟨by decide, by decide⟩ (by decide) dX6_crowd_155 ?_
      refine fx_nlne (pc := 156) F 178 (by decide) dX6_crowd_156 dX6_crowd_157 (fun c96 => ?_) (fun c96 => ?_)
      · have eq95 := (if_pos c96).symm.trans eq95
        refine fx_lload (pc := 160) F rfl dX6_crowd_160 ?_
        refine fx_lload (pc := 162) F rfl dX6_crowd_162 ?_
        obtain ⟨v97, e98, eq95⟩ := fx_bnd eq95
        refine fx_rlrem (pc := 164) F e98 dX6_crowd_164 ?_
        refine fx_lstore (pc := 165) (ls' := [some (8, this_0), some (0, n_0), some (0, m_0), some (0, k_0), some (1, sum_81), none, some (1, all_82), none, some (1, ways_83), none, some (1, a_93), none, some (1, b_94), none, some (1, v97), none]) F (by decide) rfl rfl dX6_crowd_165 ?_
        refine fx_lload (pc := 167) F rfl dX6_crowd_167 ?_
        refine fx_lstore (pc := 169) (ls' := [some (8, this_0), some (0, n_0), some (0, m_0), some (0, k_0), some (1, sum_81), none, some (1, all_82), none, some (1, ways_83), none, some (1, b_94), none, some (1, b_94), none, some (1, v97), none]) F (by decide) rfl rfl dX6_crowd_169 ?_
        refine fx_lload (pc := 171) F rfl dX6_crowd_171 ?_
        refine fx_lstore (pc := 173) (ls' := [some (8, this_0), some (0, n_0), some (0, m_0), some (0, k_0), some (1, sum_81), none, some (1, all_82), none, some (1, ways_83), none, some (1, b_94), none, some (1, v97), none, some (1, v97), none]) F (by decide) rfl rfl dX6_crowd_173 ?_
        refine fx_goto (pc := 175) F 153 (by decide) dX6_crowd_175 ?_
        cases eq95
        refine fx_drop (ls' := [some (8, this_0), some (0, n_0), some (0, m_0), some (0, k_0), some (1, sum_81), none, some (1, all_82), none, some (1, ways_83), none, some (1, b_94), none, some (1, v97), none, none, none]) ⟨rfl, rfl, rfl, rfl, rfl, rfl, rfl, rfl, rfl, trivial⟩ ?_
        exact ih _ rfl
      · have eq95 := (if_neg c96).symm.trans eq95
        cases eq95
        exact ex _ rfl
    refine fx_loop_J (Hd := (fun z : Int × Int × Int × Int => fx_J M G Λ 16 54 [some (8, this_0), some (0, n_0), some (0, m_0), some (0, k_0), some (1, z.1), none, some (1, z.2.1), none, some (1, z.2.2.1), none, some (0, z.2.2.2), none, none, none, none, none] [] h)) (Ex := (fun z : Int × Int × Int × Int => fx_J M G Λ 16 145 [some (8, this_0), some (0, n_0), some (0, m_0), some (0, k_0), some (1, z.1), none, some (1, z.2.1), none, some (1, z.2.2.1), none, some (0, z.2.2.2), none, none, none, none, none] [] h)) ?_ Fu _ _ e85 hE86
    rintro ⟨sum_51, all_52, ways_53, j_54⟩ o9 eq55 ih ex
    unfold s_X6_crowd_1 at eq55
    show fx_J M G Λ 16 54 [some (8, this_0), some (0, n_0), some (0, m_0), some (0, k_0), some (1, sum_51), none, some (1, all_52), none, some (1, ways_53), none, some (0, j_54), none, none, none, none, none] [] h
    refine fx_iload (pc := 54) F rfl dX6_crowd_54 ?_
    refine fx_iload_n (pc := 56) F 1 rfl rfl dX6_crowd_56 ?_
    refine fx_nle (pc := 57) F 145 (by decide) dX6_crowd_57 (fun c56 => ?_) (fun c56 => ?_)
    · have eq55 := (if_pos c56).symm.trans eq55
      obtain ⟨v57, e58, eq55⟩ := fx_bnd eq55
      have hJ59 : fx_J M G Λ 16 72 [some (8, this_0), some (0, n_0), some (0, m_0), some (0, k_0), some (1, sum_51), none, some (1, all_52), none, some (1, ways_53), none, some (0, j_54), none, none, none, none, none] [(1, v57)] h := by
        refine fx_lstore (pc := 72) (ls' := [some (8, this_0), some (0, n_0), some (0, m_0), some (0, k_0), some (1, sum_51), none, some (1, all_52), none, some (1, ways_53), none, some (0, j_54), some (1, v57), none, none, none, none]) F (by decide) rfl rfl dX6_crowd_72 ?_
        refine fx_iload (pc := 74) F rfl dX6_crowd_74 ?_
        refine fx_istore (pc := 76) (ls' := [some (8, this_0), some (0, n_0), some (0, m_0), some (0, k_0), some (1, sum_51), none, some (1, all_52), none, some (1, ways_53), none, some (0, j_54), some (1, v57), none, some (0, j_54), none, none]) F (by decide) rfl rfl dX6_crowd_76 ?_
        obtain ⟨⟨v_71, i_72⟩, e73, eq55⟩ := fx_bnd eq55
        have hE74 : fx_J M G Λ 16 99 [some (8, this_0), some (0, n_0), some (0, m_0), some (0, k_0), some (1, sum_51), none, some (1, all_52), none, some (1, ways_53), none, some (0, j_54), some (1, v_71), none, some (0, i_72), none, none] [] h := by
          refine fx_lload (pc := 99) F rfl dX6_crowd_99 ?_
          refine fx_lload (pc := 101) F rfl dX6_crowd_101 ?_
          refine fx_ladd (pc := 103) F dX6_crowd_103 ?_
          refine fx_lstore (pc := 104) (ls' := [some (8, this_0), some (0, n_0), some (0, m_0), some (0, k_0), some (1, (fx_wl (sum_51 + v_71))), none, some (1, all_52), none, some (1, ways_53), none, some (0, j_54), some (1, v_71), none, some (0, i_72), none, none]) F (by decide) rfl rfl dX6_crowd_104 ?_
          refine fx_lload (pc := 106) F rfl dX6_crowd_106 ?_
          refine fx_iload_n (pc := 108) F 1 rfl rfl dX6_crowd_108 ?_
          refine fx_iload (pc := 109) F rfl dX6_crowd_109 ?_
          refine fx_isub (pc := 111) F dX6_crowd_111 ?_
          refine fx_ri2l (pc := 112) F dX6_crowd_112 ?_
          refine fx_lmul (pc := 113) F dX6_crowd_113 ?_
          refine fx_iload (pc := 114) F rfl dX6_crowd_114 ?_
          refine fx_iconst (pc := 116) F ⟨by decide, by decide⟩ dX6_crowd_116 ?_
          refine fx_iadd (pc := 117) F dX6_crowd_117 ?_
          refine fx_ri2l (pc := 118) F dX6_crowd_118 ?_
          obtain ⟨v75, e76, eq55⟩ := fx_bnd eq55
          refine fx_rldiv (pc := 119) F e76 dX6_crowd_119 ?_
          refine fx_lstore (pc := 120) (ls' := [some (8, this_0), some (0, n_0), some (0, m_0), some (0, k_0), some (1, (fx_wl (sum_51 + v_71))), none, some (1, all_52), none, some (1, v75), none, some (0, j_54), some (1, v_71), none, some (0, i_72), none, none]) F (by decide) rfl rfl dX6_crowd_120 ?_
          refine fx_lload (pc := 122) F rfl dX6_crowd_122 ?_
          obtain ⟨v77, e78, eq55⟩ := fx_bnd eq55
          have hJ79 : fx_J M G Λ 16 136 [some (8, this_0), some (0, n_0), some (0, m_0), some (0, k_0), some (1, (fx_wl (sum_51 + v_71))), none, some (1, all_52), none, some (1, v75), none, some (0, j_54), some (1, v_71), none, some (0, i_72), none, none] [(1, v77), (1, all_52)] h := by
            refine fx_lmul (pc := 136) F dX6_crowd_136 ?_
            refine fx_lstore (pc := 137) (ls' := [some (8, this_0), some (0, n_0), some (0, m_0), some (0, k_0), some (1, (fx_wl (sum_51 + v_71))), none, some (1, (fx_wl (all_52 * v77))), none, some (1, v75), none, some (0, j_54), some (1, v_71), none, some (0, i_72), none, none]) F (by decide) rfl rfl dX6_crowd_137 ?_
            refine fx_iinc (pc := 139) (ls' := [some (8, this_0), some (0, n_0), some (0, m_0), some (0, k_0), some (1, (fx_wl (sum_51 + v_71))), none, some (1, (fx_wl (all_52 * v77))), none, some (1, v75), none, some (0, (fx_w (j_54 + 1))), some (1, v_71), none, some (0, i_72), none, none]) F (by decide) rfl rfl rfl dX6_crowd_139 ?_
            refine fx_goto (pc := 142) F 54 (by decide) dX6_crowd_142 ?_
            cases eq55
            refine fx_drop (ls' := [some (8, this_0), some (0, n_0), some (0, m_0), some (0, k_0), some (1, (fx_wl (sum_51 + v_71))), none, some (1, (fx_wl (all_52 * v77))), none, some (1, v75), none, some (0, (fx_w (j_54 + 1))), none, none, none, none, none]) ⟨rfl, rfl, rfl, rfl, rfl, rfl, rfl, rfl, trivial⟩ ?_
            exact ih _ rfl
          refine fx_iload (pc := 124) F rfl dX6_crowd_124 ?_
          refine fx_iload_n (pc := 126) F 1 rfl rfl dX6_crowd_126 ?_
          refine fx_nlt (pc := 127) F 135 (by decide) dX6_crowd_127 (fun c80 => ?_) (fun c80 => ?_)
          · have e78 := (if_pos c80).symm.trans e78
            refine fx_iload_n (pc := 130) F 2 rfl rfl dX6_crowd_130 ?_
            refine fx_ri2l (pc := 131) F dX6_crowd_131 ?_
            cases e78
            refine fx_goto (pc := 132) F 136 (by decide) dX6_crowd_132 ?_
            exact hJ79
          · have e78 := (if_neg c80).symm.trans e78
            refine fx_lconst (pc := 135) (z := 1) F rfl ⟨by decide, by decide⟩ (by decide) dX6_crowd_135 ?_
            cases e78
            exact hJ79
        refine fx_loop_J (Hd := (fun z : Int × Int => fx_J M G Λ 16 78 [some (8, this_0), some (0, n_0), some (0, m_0), some (0, k_0), some (1, sum_51), none, some (1, all_52), none, some (1, ways_53), none, some (0, j_54), some (1, z.1), none, some (0, z.2), none, none] [] h)) (Ex := (fun z : Int × Int => fx_J M G Λ 16 99 [some (8, this_0), some (0, n_0), some (0, m_0), some (0, k_0), some (1, sum_51), none, some (1, all_52), none, some (1, ways_53), none, some (0, j_54), some (1, z.1), none, some (0, z.2), none, none] [] h)) ?_ Fu _ _ e73 hE74
        rintro ⟨v_67, i_68⟩ o9 eq69 ih ex
        unfold s_X6_crowd_2 at eq69
        show fx_J M G Λ 16 78 [some (8, this_0), some (0, n_0), some (0, m_0), some (0, k_0), some (1, sum_51), none, some (1, all_52), none, some (1, ways_53), none, some (0, j_54), some (1, v_67), none, some (0, i_68), none, none] [] h
        refine fx_iload (pc := 78) F rfl dX6_crowd_78 ?_
        refine fx_iload_n (pc := 80) F 1 rfl rfl dX6_crowd_80 ?_
        refine fx_nlt (pc := 81) F 99 (by decide) dX6_crowd_81 (fun c70 => ?_) (fun c70 => ?_)
        · have eq69 := (if_pos c70).symm.trans eq69
          refine fx_lload (pc := 84) F rfl dX6_crowd_84 ?_
          refine fx_iload_n (pc := 86) F 2 rfl rfl dX6_crowd_86 ?_
          refine fx_iconst (pc := 87) F ⟨by decide, by decide⟩ dX6_crowd_87 ?_
          refine fx_isub (pc := 88) F dX6_crowd_88 ?_
          refine fx_ri2l (pc := 89) F dX6_crowd_89 ?_
          refine fx_lmul (pc := 90) F dX6_crowd_90 ?_
          refine fx_lstore (pc := 91) (ls' := [some (8, this_0), some (0, n_0), some (0, m_0), some (0, k_0), some (1, sum_51), none, some (1, all_52), none, some (1, ways_53), none, some (0, j_54), some (1, (fx_wl (v_67 * (fx_w (m_0 - 1))))), none, some (0, i_68), none, none]) F (by decide) rfl rfl dX6_crowd_91 ?_
          refine fx_iinc (pc := 93) (ls' := [some (8, this_0), some (0, n_0), some (0, m_0), some (0, k_0), some (1, sum_51), none, some (1, all_52), none, some (1, ways_53), none, some (0, j_54), some (1, (fx_wl (v_67 * (fx_w (m_0 - 1))))), none, some (0, (fx_w (i_68 + 1))), none, none]) F (by decide) rfl rfl rfl dX6_crowd_93 ?_
          refine fx_goto (pc := 96) F 78 (by decide) dX6_crowd_96 ?_
          cases eq69
          exact ih _ rfl
        · have eq69 := (if_neg c70).symm.trans eq69
          cases eq69
          exact ex _ rfl
      refine fx_iload (pc := 60) F rfl dX6_crowd_60 ?_
      refine fx_iload_n (pc := 62) F 3 rfl rfl dX6_crowd_62 ?_
      refine fx_nlt (pc := 63) F 70 (by decide) dX6_crowd_63 (fun c60 => ?_) (fun c60 => ?_)
      · have e58 := (if_pos c60).symm.trans e58
        refine fx_lconst (pc := 66) (z := 0) F rfl ⟨by decide, by decide⟩ (by decide) dX6_crowd_66 ?_
        cases e58
        refine fx_goto (pc := 67) F 72 (by decide) dX6_crowd_67 ?_
        exact hJ59
      · have e58 := (if_neg c60).symm.trans e58
        refine fx_lload (pc := 70) F rfl dX6_crowd_70 ?_
        cases e58
        exact hJ59
    · have eq55 := (if_neg c56).symm.trans eq55
      cases eq55
      exact ex _ rfl
  refine fx_iload_n (pc := 0) F 1 rfl rfl dX6_crowd_0 ?_
  refine fx_ri2l (pc := 1) F dX6_crowd_1 ?_
  refine fx_lconst (pc := 2) (z := 1) F rfl ⟨by decide, by decide⟩ (by decide) dX6_crowd_2 ?_
  refine fx_ldc2 (pc := 3) (z := 18) F (by decide) ⟨by decide, by decide⟩ wK_X6_193 dX6_crowd_3 ?_
  obtain ⟨v5, e6, e2⟩ := fx_bnd e2
  refine fx_cS (pc := 6) F [(1, n_0), (1, 1), (1, 18)] [] (m_X6_in Fu Λ n_0 1 18 h _ e6) kD_X6_in wSt_X6_in wM_X6_74 ⟨rfl, rfl⟩ ⟨by decide, by decide⟩ (Nat.le_of_ble_eq_true rfl) rfl dX6_crowd_6 ?_
  refine fx_jzeq (pc := 9) F 35 (by decide) dX6_crowd_9 (fun c7 => ?_) (fun c7 => ?_)
  · have e2 := (if_pos c7).symm.trans e2
    cases e2
    exact hT3 (by decide)
  · have e2 := (if_neg c7).symm.trans e2
    refine fx_iload_n (pc := 12) F 2 rfl rfl dX6_crowd_12 ?_
    refine fx_ri2l (pc := 13) F dX6_crowd_13 ?_
    refine fx_lconst (pc := 14) (z := 1) F rfl ⟨by decide, by decide⟩ (by decide) dX6_crowd_14 ?_
    refine fx_ldc2 (pc := 15) (z := 9) F (by decide) ⟨by decide, by decide⟩ wK_X6_195 dX6_crowd_15 ?_
    obtain ⟨v8, e9, e2⟩ := fx_bnd e2
    refine fx_cS (pc := 18) F [(1, m_0), (1, 1), (1, 9)] [] (m_X6_in Fu Λ m_0 1 9 h _ e9) kD_X6_in wSt_X6_in wM_X6_74 ⟨rfl, rfl⟩ ⟨by decide, by decide⟩ (Nat.le_of_ble_eq_true rfl) rfl dX6_crowd_18 ?_
    refine fx_jzeq (pc := 21) F 35 (by decide) dX6_crowd_21 (fun c10 => ?_) (fun c10 => ?_)
    · have e2 := (if_pos c10).symm.trans e2
      cases e2
      exact hT3 (by decide)
    · have e2 := (if_neg c10).symm.trans e2
      refine fx_iload_n (pc := 24) F 3 rfl rfl dX6_crowd_24 ?_
      refine fx_ri2l (pc := 25) F dX6_crowd_25 ?_
      refine fx_lconst (pc := 26) (z := 0) F rfl ⟨by decide, by decide⟩ (by decide) dX6_crowd_26 ?_
      refine fx_iload_n (pc := 27) F 1 rfl rfl dX6_crowd_27 ?_
      refine fx_ri2l (pc := 28) F dX6_crowd_28 ?_
      obtain ⟨v11, e12, e2⟩ := fx_bnd e2
      refine fx_cS (pc := 29) F [(1, k_0), (1, 0), (1, n_0)] [] (m_X6_in Fu Λ k_0 0 n_0 h _ e12) kD_X6_in wSt_X6_in wM_X6_74 ⟨rfl, rfl⟩ ⟨by decide, by decide⟩ (Nat.le_of_ble_eq_true rfl) rfl dX6_crowd_29 ?_
      refine fx_nzeq (pc := 32) F 42 (by decide) dX6_crowd_32 (fun c13 => ?_) (fun c13 => ?_)
      · have e2 := (if_pos c13).symm.trans e2
        cases e2
        exact hT3 (by decide)
      · have e2 := (if_neg c13).symm.trans e2
        cases e2
        exact hF4 (by decide)
def s_X6_type_1 (Fu : Nat) (Λ : fx_L) (this_13 : Int) (v_14 : Int) : Int × fx_H → Option ((Int × fx_H) ⊕ (Int × fx_H)) := fun (k_11, h12) =>
  if 0 ≤ k_11 then
    (fx_wr Λ h12 (fx_tg Λ this_13 16) (h12 this_13 17) (fx_w (fx_land (fx_lushr v_14 (fx_w (8 * k_11))) 255))).bind fun h17 =>
    some (.inl ((fx_w (k_11 + (-1))), (fx_up h17 this_13 17 (fx_w ((h17 this_13 17) + 1)))))
  else
    some (.inr (k_11, h12))
def f_X6_type (Fu : Nat) (Λ : fx_L) (this_0 : Int) (v_0 : Int) (n_0 : Int) (h : fx_H) : Option (Int × fx_H) :=
  (f_X6_in Fu Λ n_0 1 8 h).bind fun v1 =>
  if v1 = 0 then
    (f_X6_bad Fu Λ this_0 (-2) h).bind fun (v4, h5) =>
    some (v4, h5)
  else
    if 250 < (fx_w ((h this_0 17) + n_0)) then
      (f_X6_full Fu Λ this_0 h).bind fun (v8, h9) =>
      some (v8, h9)
    else
      Option.bind (fx_loop (s_X6_type_1 Fu Λ this_0 v_0) Fu ((fx_w (n_0 - 1)), h)) fun (k_25, h26) =>
      some ((h26 this_0 17), h26)
abbrev rm_X6_type : Room := { frames := 1, cells := 0, slots := 0, locals := 25 }
set_option maxRecDepth 100000 in
set_option maxHeartbeats 4000000 in
theorem m_X6_type (Fu : Nat) (Λ : fx_L) (this_0 : Int) (v_0 : Int) (n_0 : Int) (h : fx_H) (r : Int) (ho : fx_H) (hf : f_X6_type Fu Λ this_0 v_0 n_0 h = some (r, ho)) : fx_Met yX6_type cX6_type 5 (some .int) rm_X6_type Λ [(8, this_0), (1, v_0), (0, n_0)] h (some (0, r)) ho := by
  unfold f_X6_type at hf
  refine fx_enter (ls := [some (8, this_0), some (1, v_0), none, some (0, n_0), none]) (by decide) (Nat.le_of_ble_eq_true rfl) rfl (fun M G F K => ?_)
  refine fx_iload_n (pc := 0) F 3 rfl rfl dX6_type_0 ?_
  refine fx_ri2l (pc := 1) F dX6_type_1 ?_
  refine fx_lconst (pc := 2) (z := 1) F rfl ⟨by decide, by decide⟩ (by decide) dX6_type_2 ?_
  refine fx_ldc2 (pc := 3) (z := 8) F (by decide) ⟨by decide, by decide⟩ wK_X6_200 dX6_type_3 ?_
  obtain ⟨v1, e2, hf⟩ := fx_bnd hf
  refine fx_cS (pc := 6) F [(1, n_0), (1, 1), (1, 8)] [] (m_X6_in Fu Λ n_0 1 8 h _ e2) kD_X6_in wSt_X6_in wM_X6_74 ⟨rfl, rfl⟩ ⟨by decide, by decide⟩ (Nat.le_of_ble_eq_true rfl) rfl dX6_type_6 ?_
  refine fx_nzeq (pc := 9) F 19 (by decide) dX6_type_9 (fun c3 => ?_) (fun c3 => ?_)
  · have hf := (if_pos c3).symm.trans hf
    refine fx_aload_n (pc := 12) (t := 6) F 0 rfl rfl dX6_type_12 ?_
    refine fx_bipush (pc := 13) F ⟨by decide, by decide⟩ (by decide) dX6_type_13 ?_
    obtain ⟨⟨v4, h5⟩, e6, hf⟩ := fx_bnd hf
    refine fx_cV (pc := 15) F 6 kC_X6 [(0, (-2))] this_0 [] (m_X6_bad Fu Λ this_0 (-2) h _ _ e6) kD_X6_bad kI_X6_bad rfl wM_X6_88 ⟨rfl, rfl⟩ ⟨by decide, by decide⟩ (Nat.le_of_ble_eq_true rfl) rfl dX6_type_15 ?_
    cases hf
    exact fx_ireturn (pc := 18) F K dX6_type_18
  · have hf := (if_neg c3).symm.trans hf
    refine fx_aload_n (pc := 19) (t := 6) F 0 rfl rfl dX6_type_19 ?_
    refine fx_gI (pc := 20) F 6 17 17 rfl kC_X6 rfl wF_X6_202 dX6_type_20 ?_
    refine fx_iload_n (pc := 23) F 3 rfl rfl dX6_type_23 ?_
    refine fx_iadd (pc := 24) F dX6_type_24 ?_
    refine fx_sipush (pc := 25) F ⟨by decide, by decide⟩ (by decide) dX6_type_25 ?_
    refine fx_ngt (pc := 28) F 36 (by decide) dX6_type_28 (fun c7 => ?_) (fun c7 => ?_)
    · have hf := (if_pos c7).symm.trans hf
      refine fx_aload_n (pc := 31) (t := 6) F 0 rfl rfl dX6_type_31 ?_
      obtain ⟨⟨v8, h9⟩, e10, hf⟩ := fx_bnd hf
      refine fx_cV (pc := 32) F 6 kC_X6 [] this_0 [] (m_X6_full Fu Λ this_0 h _ _ e10) kD_X6_full kI_X6_full rfl wM_X6_92 ⟨rfl, rfl⟩ ⟨by decide, by decide⟩ (Nat.le_of_ble_eq_true rfl) rfl dX6_type_32 ?_
      cases hf
      exact fx_ireturn (pc := 35) F K dX6_type_35
    · have hf := (if_neg c7).symm.trans hf
      refine fx_iload_n (pc := 36) F 3 rfl rfl dX6_type_36 ?_
      refine fx_iconst (pc := 37) F ⟨by decide, by decide⟩ dX6_type_37 ?_
      refine fx_isub (pc := 38) F dX6_type_38 ?_
      refine fx_istore (pc := 39) (ls' := [some (8, this_0), some (1, v_0), none, some (0, n_0), some (0, (fx_w (n_0 - 1)))]) F (by decide) rfl rfl dX6_type_39 ?_
      obtain ⟨⟨k_25, h26⟩, e27, hf⟩ := fx_bnd hf
      have hE28 : fx_J M G Λ 5 83 [some (8, this_0), some (1, v_0), none, some (0, n_0), some (0, k_25)] [] h26 := by
        refine fx_aload_n (pc := 83) (t := 6) F 0 rfl rfl dX6_type_83 ?_
        refine fx_gI (pc := 84) F 6 17 17 rfl kC_X6 rfl wF_X6_202 dX6_type_84 ?_
        cases hf
        exact fx_ireturn (pc := 87) F K dX6_type_87
      refine fx_loop_J (Hd := (fun z : Int × fx_H => fx_J M G Λ 5 41 [some (8, this_0), some (1, v_0), none, some (0, n_0), some (0, z.1)] [] z.2)) (Ex := (fun z : Int × fx_H => fx_J M G Λ 5 83 [some (8, this_0), some (1, v_0), none, some (0, n_0), some (0, z.1)] [] z.2)) ?_ Fu _ _ e27 hE28
      rintro ⟨k_19, h20⟩ o9 eq21 ih ex
      unfold s_X6_type_1 at eq21
      show fx_J M G Λ 5 41 [some (8, this_0), some (1, v_0), none, some (0, n_0), some (0, k_19)] [] h20
      refine fx_iload (pc := 41) F rfl dX6_type_41 ?_
      refine fx_nzge (pc := 43) F 83 (by decide) dX6_type_43 (fun c22 => ?_) (fun c22 => ?_)
      · have eq21 := (if_pos c22).symm.trans eq21
        refine fx_aload_n (pc := 46) (t := 6) F 0 rfl rfl dX6_type_46 ?_
        refine fx_gR (pc := 47) F 6 16 16 8 rfl kC_X6 (by decide) rfl wF_X6_57 dX6_type_47 ?_
        refine fx_aload_n (pc := 50) (t := 6) F 0 rfl rfl dX6_type_50 ?_
        refine fx_gI (pc := 51) F 6 17 17 rfl kC_X6 rfl wF_X6_202 dX6_type_51 ?_
        refine fx_lload_n (pc := 54) F 1 rfl rfl dX6_type_54 ?_
        refine fx_bipush (pc := 55) F ⟨by decide, by decide⟩ (by decide) dX6_type_55 ?_
        refine fx_iload (pc := 57) F rfl dX6_type_57 ?_
        refine fx_imul (pc := 59) F dX6_type_59 ?_
        refine fx_rlushr (pc := 60) F dX6_type_60 ?_
        refine fx_ldc2 (pc := 61) (z := 255) F (by decide) ⟨by decide, by decide⟩ wK_X6_206 dX6_type_61 ?_
        refine fx_rland (pc := 64) F dX6_type_64 ?_
        refine fx_rl2i (pc := 65) F dX6_type_65 ?_
        obtain ⟨h23, e24, eq21⟩ := fx_bnd eq21
        refine fx_rastI (pc := 66) F e24 dX6_type_66 ?_
        refine fx_aload_n (pc := 67) (t := 6) F 0 rfl rfl dX6_type_67 ?_
        refine fx_dup (pc := 68) F (show (8 : Nat) ≠ 1 by decide) dX6_type_68 ?_
        refine fx_gI (pc := 69) F 6 17 17 rfl kC_X6 rfl wF_X6_202 dX6_type_69 ?_
        refine fx_iconst (pc := 72) F ⟨by decide, by decide⟩ dX6_type_72 ?_
        refine fx_iadd (pc := 73) F dX6_type_73 ?_
        refine fx_pI (pc := 74) F 6 17 17 rfl kC_X6 rfl rfl (by decide +kernel) wF_X6_202 dX6_type_74 ?_
        refine fx_iinc (pc := 77) (ls' := [some (8, this_0), some (1, v_0), none, some (0, n_0), some (0, (fx_w (k_19 + (-1))))]) F (by decide) rfl rfl rfl dX6_type_77 ?_
        refine fx_goto (pc := 80) F 41 (by decide) dX6_type_80 ?_
        cases eq21
        exact ih _ rfl
      · have eq21 := (if_neg c22).symm.trans eq21
        cases eq21
        exact ex _ rfl
def f_X6_clear (Fu : Nat) (Λ : fx_L) (this_0 : Int) (h : fx_H) : Option (Int × fx_H) :=
  some ((h this_0 17), (fx_up h this_0 17 0))
abbrev rm_X6_clear : Room := { frames := 0, cells := 0, slots := 0, locals := 0 }
set_option maxRecDepth 100000 in
set_option maxHeartbeats 4000000 in
theorem m_X6_clear (Fu : Nat) (Λ : fx_L) (this_0 : Int) (h : fx_H) (r : Int) (ho : fx_H) (hf : f_X6_clear Fu Λ this_0 h = some (r, ho)) : fx_Met yX6_clear cX6_clear 2 (some .int) rm_X6_clear Λ [(8, this_0)] h (some (0, r)) ho := by
  unfold f_X6_clear at hf
  refine fx_enter (ls := [some (8, this_0), none]) (by decide) (Nat.le_of_ble_eq_true rfl) rfl (fun M G F K => ?_)
  refine fx_aload_n (pc := 0) (t := 6) F 0 rfl rfl dX6_clear_0 ?_
  refine fx_gI (pc := 1) F 6 17 17 rfl kC_X6 rfl wF_X6_202 dX6_clear_1 ?_
  refine fx_istore_n (pc := 4) (ls' := [some (8, this_0), some (0, (h this_0 17))]) F 1 rfl (by decide) rfl rfl dX6_clear_4 ?_
  refine fx_aload_n (pc := 5) (t := 6) F 0 rfl rfl dX6_clear_5 ?_
  refine fx_iconst (pc := 6) F ⟨by decide, by decide⟩ dX6_clear_6 ?_
  refine fx_pI (pc := 7) F 6 17 17 rfl kC_X6 rfl rfl (by decide +kernel) wF_X6_202 dX6_clear_7 ?_
  refine fx_iload_n (pc := 10) F 1 rfl rfl dX6_clear_10 ?_
  cases hf
  exact fx_ireturn (pc := 11) F K dX6_clear_11
def f_X6_isSmall (Fu : Nat) (Λ : fx_L) (c_0 : Int) (h : fx_H) : Option (Int) :=
  (f_X6_in Fu Λ c_0 97 122 h).bind fun v1 =>
  (fx_zb v1).bind fun z3 =>
  some z3
abbrev rm_X6_isSmall : Room := { frames := 1, cells := 0, slots := 0, locals := 25 }
set_option maxRecDepth 100000 in
set_option maxHeartbeats 4000000 in
theorem m_X6_isSmall (Fu : Nat) (Λ : fx_L) (c_0 : Int) (h : fx_H) (r : Int) (hf : f_X6_isSmall Fu Λ c_0 h = some r) : fx_Met yX6_isSmall cX6_isSmall 1 (some .boolean) rm_X6_isSmall Λ [(0, c_0)] h (some (0, r)) h := by
  unfold f_X6_isSmall at hf
  refine fx_enter (ls := [some (0, c_0)]) (by decide) (Nat.le_of_ble_eq_true rfl) rfl (fun M G F K => ?_)
  refine fx_iload_n (pc := 0) F 0 rfl rfl dX6_isSmall_0 ?_
  refine fx_ri2l (pc := 1) F dX6_isSmall_1 ?_
  refine fx_ldc2 (pc := 2) (z := 97) F (by decide) ⟨by decide, by decide⟩ wK_X6_208 dX6_isSmall_2 ?_
  refine fx_ldc2 (pc := 5) (z := 122) F (by decide) ⟨by decide, by decide⟩ wK_X6_210 dX6_isSmall_5 ?_
  obtain ⟨v1, e2, hf⟩ := fx_bnd hf
  refine fx_cS (pc := 8) F [(1, c_0), (1, 97), (1, 122)] [] (m_X6_in Fu Λ c_0 97 122 h _ e2) kD_X6_in wSt_X6_in wM_X6_74 ⟨rfl, rfl⟩ ⟨by decide, by decide⟩ (Nat.le_of_ble_eq_true rfl) rfl dX6_isSmall_8 ?_
  obtain ⟨z3, e4, hf⟩ := fx_bnd hf
  obtain ⟨e4, hzz3⟩ := fx_zb_use e4
  refine fx_top (X := fx_X) e4 ?_
  cases hf
  exact fx_zreturn (pc := 11) F hzz3 K dX6_isSmall_11
def f_X6_isFigure (Fu : Nat) (Λ : fx_L) (c_0 : Int) (h : fx_H) : Option (Int) :=
  (f_X6_in Fu Λ c_0 48 57 h).bind fun v1 =>
  (fx_zb v1).bind fun z3 =>
  some z3
abbrev rm_X6_isFigure : Room := { frames := 1, cells := 0, slots := 0, locals := 25 }
set_option maxRecDepth 100000 in
set_option maxHeartbeats 4000000 in
theorem m_X6_isFigure (Fu : Nat) (Λ : fx_L) (c_0 : Int) (h : fx_H) (r : Int) (hf : f_X6_isFigure Fu Λ c_0 h = some r) : fx_Met yX6_isFigure cX6_isFigure 1 (some .boolean) rm_X6_isFigure Λ [(0, c_0)] h (some (0, r)) h := by
  unfold f_X6_isFigure at hf
  refine fx_enter (ls := [some (0, c_0)]) (by decide) (Nat.le_of_ble_eq_true rfl) rfl (fun M G F K => ?_)
  refine fx_iload_n (pc := 0) F 0 rfl rfl dX6_isFigure_0 ?_
  refine fx_ri2l (pc := 1) F dX6_isFigure_1 ?_
  refine fx_ldc2 (pc := 2) (z := 48) F (by decide) ⟨by decide, by decide⟩ wK_X6_212 dX6_isFigure_2 ?_
  refine fx_ldc2 (pc := 5) (z := 57) F (by decide) ⟨by decide, by decide⟩ wK_X6_214 dX6_isFigure_5 ?_
  obtain ⟨v1, e2, hf⟩ := fx_bnd hf
  refine fx_cS (pc := 8) F [(1, c_0), (1, 48), (1, 57)] [] (m_X6_in Fu Λ c_0 48 57 h _ e2) kD_X6_in wSt_X6_in wM_X6_74 ⟨rfl, rfl⟩ ⟨by decide, by decide⟩ (Nat.le_of_ble_eq_true rfl) rfl dX6_isFigure_8 ?_
  obtain ⟨z3, e4, hf⟩ := fx_bnd hf
  obtain ⟨e4, hzz3⟩ := fx_zb_use e4
  refine fx_top (X := fx_X) e4 ?_
  cases hf
  exact fx_zreturn (pc := 11) F hzz3 K dX6_isFigure_11
def s_X6_look_1 (Fu : Nat) (Λ : fx_L) (this_2 : Int) : fx_H → Option ((fx_H) ⊕ (fx_H)) := fun h1 =>
  Option.bind (
    if (h1 this_2 18) < (h1 this_2 17) then
      (fx_rd Λ h1 (fx_tg Λ this_2 16) (h1 this_2 18)).bind fun v9 =>
      if v9 = 32 then
        some true
      else
        some false
    else
      some false
  ) fun b4 =>
  if b4 = true then
    some (.inl (fx_up h1 this_2 18 (fx_w ((h1 this_2 18) + 1))))
  else
    some (.inr h1)
def s_X6_look_2 (Fu : Nat) (Λ : fx_L) (this_52 : Int) : Int × fx_H → Option ((Int × fx_H) ⊕ (Int × fx_H)) := fun (more_50, h51) =>
  if ((¬ more_50 = 0) ∧ ((fx_w ((h51 this_52 18) + (h51 this_52 19))) < (h51 this_52 17))) then
    (fx_rd Λ h51 (fx_tg Λ this_52 16) (fx_w ((h51 this_52 18) + (h51 this_52 19)))).bind fun v59 =>
    Option.bind (
      if (h51 this_52 20) = 1 then
        (f_X6_isSmall Fu Λ v59 h51).bind fun v65 =>
        some v65
      else
        (f_X6_isFigure Fu Λ v59 h51).bind fun v67 =>
        some v67
    ) fun v61 =>
    Option.bind (
      if ¬ v61 = 0 then
        some 1
      else
        some 0
    ) fun v69 =>
    some (.inl (v61, (fx_up h51 this_52 19 (fx_w ((h51 this_52 19) + v69)))))
  else
    some (.inr (more_50, h51))
def f_X6_look (Fu : Nat) (Λ : fx_L) (this_0 : Int) (from_0 : Int) (h : fx_H) : Option (fx_H) :=
  Option.bind (fx_loop (s_X6_look_1 Fu Λ this_0) Fu (fx_up h this_0 18 from_0)) fun h24 =>
  if ((fx_up (fx_up (fx_up h24 this_0 19 0) this_0 20 0) this_0 21 0) this_0 18) = ((fx_up (fx_up (fx_up h24 this_0 19 0) this_0 20 0) this_0 21 0) this_0 17) then
    some (fx_up (fx_up (fx_up h24 this_0 19 0) this_0 20 0) this_0 21 0)
  else
    (fx_rd Λ (fx_up (fx_up (fx_up h24 this_0 19 0) this_0 20 0) this_0 21 0) (fx_tg Λ this_0 16) ((fx_up (fx_up (fx_up h24 this_0 19 0) this_0 20 0) this_0 21 0) this_0 18)).bind fun v28 =>
    Option.bind (
      (f_X6_isSmall Fu Λ v28 (fx_up (fx_up (fx_up h24 this_0 19 0) this_0 20 0) this_0 21 0)).bind fun v33 =>
      if ¬ v33 = 0 then
        some 1
      else
        Option.bind (
          (f_X6_isFigure Fu Λ v28 (fx_up (fx_up (fx_up h24 this_0 19 0) this_0 20 0) this_0 21 0)).bind fun v39 =>
          if ¬ v39 = 0 then
            some 2
          else
            Option.bind (
              if v28 = 59 then
                some 3
              else
                some 4
            ) fun v42 =>
            some v42
        ) fun v36 =>
        some v36
    ) fun v30 =>
    Option.bind (
      if ((fx_up (fx_up (fx_up (fx_up (fx_up h24 this_0 19 0) this_0 20 0) this_0 21 0) this_0 20 v30) this_0 19 1) this_0 20) < 3 then
        some 1
      else
        some 0
    ) fun v46 =>
    Option.bind (fx_loop (s_X6_look_2 Fu Λ this_0) Fu (v46, (fx_up (fx_up (fx_up (fx_up (fx_up h24 this_0 19 0) this_0 20 0) this_0 21 0) this_0 20 v30) this_0 19 1))) fun (more_95, h96) =>
    Option.bind (
      if ((((fx_up h96 this_0 21 (fx_w (v28 - 48))) this_0 20) = 2) ∧ (1 < ((fx_up h96 this_0 21 (fx_w (v28 - 48))) this_0 19))) then
        some 4
      else
        some ((fx_up h96 this_0 21 (fx_w (v28 - 48))) this_0 20)
    ) fun v99 =>
    some (fx_up (fx_up h96 this_0 21 (fx_w (v28 - 48))) this_0 20 v99)
abbrev rm_X6_look : Room := { frames := 2, cells := 0, slots := 0, locals := 45 }
set_option maxRecDepth 100000 in
set_option maxHeartbeats 4000000 in
theorem m_X6_look (Fu : Nat) (Λ : fx_L) (this_0 : Int) (from_0 : Int) (h : fx_H) (ho : fx_H) (hf : f_X6_look Fu Λ this_0 from_0 h = some ho) : fx_Met yX6_look cX6_look 5 none rm_X6_look Λ [(8, this_0), (0, from_0)] h none ho := by
  unfold f_X6_look at hf
  refine fx_enter (ls := [some (8, this_0), some (0, from_0), none, none, none]) (by decide) (Nat.le_of_ble_eq_true rfl) rfl (fun M G F K => ?_)
  refine fx_aload_n (pc := 0) (t := 6) F 0 rfl rfl dX6_look_0 ?_
  refine fx_iload_n (pc := 1) F 1 rfl rfl dX6_look_1 ?_
  refine fx_pI (pc := 2) F 6 18 18 rfl kC_X6 rfl rfl (by decide +kernel) wF_X6_216 dX6_look_2 ?_
  obtain ⟨h24, e25, hf⟩ := fx_bnd hf
  have hE26 : fx_J M G Λ 5 43 [some (8, this_0), some (0, from_0), none, none, none] [] h24 := by
    refine fx_aload_n (pc := 43) (t := 6) F 0 rfl rfl dX6_look_43 ?_
    refine fx_iconst (pc := 44) F ⟨by decide, by decide⟩ dX6_look_44 ?_
    refine fx_pI (pc := 45) F 6 19 19 rfl kC_X6 rfl rfl (by decide +kernel) wF_X6_219 dX6_look_45 ?_
    refine fx_aload_n (pc := 48) (t := 6) F 0 rfl rfl dX6_look_48 ?_
    refine fx_iconst (pc := 49) F ⟨by decide, by decide⟩ dX6_look_49 ?_
    refine fx_pI (pc := 50) F 6 20 20 rfl kC_X6 rfl rfl (by decide +kernel) wF_X6_222 dX6_look_50 ?_
    refine fx_aload_n (pc := 53) (t := 6) F 0 rfl rfl dX6_look_53 ?_
    refine fx_iconst (pc := 54) F ⟨by decide, by decide⟩ dX6_look_54 ?_
    refine fx_pI (pc := 55) F 6 21 21 rfl kC_X6 rfl rfl (by decide +kernel) wF_X6_225 dX6_look_55 ?_
    refine fx_aload_n (pc := 58) (t := 6) F 0 rfl rfl dX6_look_58 ?_
    refine fx_gI (pc := 59) F 6 18 18 rfl kC_X6 rfl wF_X6_216 dX6_look_59 ?_
    refine fx_aload_n (pc := 62) (t := 6) F 0 rfl rfl dX6_look_62 ?_
    refine fx_gI (pc := 63) F 6 17 17 rfl kC_X6 rfl wF_X6_202 dX6_look_63 ?_
    refine fx_neq (pc := 66) F 70 (by decide) dX6_look_66 (fun c27 => ?_) (fun c27 => ?_)
    · have hf := (if_pos c27).symm.trans hf
      cases hf
      exact fx_vreturn (pc := 69) F K dX6_look_69
    · have hf := (if_neg c27).symm.trans hf
      refine fx_aload_n (pc := 70) (t := 6) F 0 rfl rfl dX6_look_70 ?_
      refine fx_gR (pc := 71) F 6 16 16 8 rfl kC_X6 (by decide) rfl wF_X6_57 dX6_look_71 ?_
      refine fx_aload_n (pc := 74) (t := 6) F 0 rfl rfl dX6_look_74 ?_
      refine fx_gI (pc := 75) F 6 18 18 rfl kC_X6 rfl wF_X6_216 dX6_look_75 ?_
      obtain ⟨v28, e29, hf⟩ := fx_bnd hf
      refine fx_raldI (pc := 78) F e29 dX6_look_78 ?_
      refine fx_istore_n (pc := 79) (ls' := [some (8, this_0), some (0, from_0), some (0, v28), none, none]) F 2 rfl (by decide) rfl rfl dX6_look_79 ?_
      refine fx_aload_n (pc := 80) (t := 6) F 0 rfl rfl dX6_look_80 ?_
      obtain ⟨v30, e31, hf⟩ := fx_bnd hf
      have hJ32 : fx_J M G Λ 5 114 [some (8, this_0), some (0, from_0), some (0, v28), none, none] [(0, v30), (8, this_0)] (fx_up (fx_up (fx_up h24 this_0 19 0) this_0 20 0) this_0 21 0) := by
        refine fx_pI (pc := 114) F 6 20 20 rfl kC_X6 rfl rfl (by decide +kernel) wF_X6_222 dX6_look_114 ?_
        refine fx_aload_n (pc := 117) (t := 6) F 0 rfl rfl dX6_look_117 ?_
        refine fx_iconst (pc := 118) F ⟨by decide, by decide⟩ dX6_look_118 ?_
        refine fx_pI (pc := 119) F 6 19 19 rfl kC_X6 rfl rfl (by decide +kernel) wF_X6_219 dX6_look_119 ?_
        obtain ⟨v46, e47, hf⟩ := fx_bnd hf
        have hJ48 : fx_J M G Λ 5 135 [some (8, this_0), some (0, from_0), some (0, v28), none, none] [(0, v46)] (fx_up (fx_up (fx_up (fx_up (fx_up h24 this_0 19 0) this_0 20 0) this_0 21 0) this_0 20 v30) this_0 19 1) := by
          refine fx_istore_n (pc := 135) (ls' := [some (8, this_0), some (0, from_0), some (0, v28), some (0, v46), none]) F 3 rfl (by decide) rfl rfl dX6_look_135 ?_
          obtain ⟨⟨more_95, h96⟩, e97, hf⟩ := fx_bnd hf
          have hE98 : fx_J M G Λ 5 215 [some (8, this_0), some (0, from_0), some (0, v28), some (0, more_95), none] [] h96 := by
            refine fx_aload_n (pc := 215) (t := 6) F 0 rfl rfl dX6_look_215 ?_
            refine fx_iload_n (pc := 216) F 2 rfl rfl dX6_look_216 ?_
            refine fx_bipush (pc := 217) F ⟨by decide, by decide⟩ (by decide) dX6_look_217 ?_
            refine fx_isub (pc := 219) F dX6_look_219 ?_
            refine fx_pI (pc := 220) F 6 21 21 rfl kC_X6 rfl rfl (by decide +kernel) wF_X6_225 dX6_look_220 ?_
            refine fx_aload_n (pc := 223) (t := 6) F 0 rfl rfl dX6_look_223 ?_
            obtain ⟨v99, e100, hf⟩ := fx_bnd hf
            have hJ101 : fx_J M G Λ 5 248 [some (8, this_0), some (0, from_0), some (0, v28), some (0, more_95), none] [(0, v99), (8, this_0)] (fx_up h96 this_0 21 (fx_w (v28 - 48))) := by
              refine fx_pI (pc := 248) F 6 20 20 rfl kC_X6 rfl rfl (by decide +kernel) wF_X6_222 dX6_look_248 ?_
              cases hf
              exact fx_vreturn (pc := 251) F K dX6_look_251
            refine fx_aload_n (pc := 224) (t := 6) F 0 rfl rfl dX6_look_224 ?_
            refine fx_gI (pc := 225) F 6 20 20 rfl kC_X6 rfl wF_X6_222 dX6_look_225 ?_
            refine fx_iconst (pc := 228) F ⟨by decide, by decide⟩ dX6_look_228 ?_
            have hT102 : (((((fx_up h96 this_0 21 (fx_w (v28 - 48))) this_0 20) = 2) ∧ (1 < ((fx_up h96 this_0 21 (fx_w (v28 - 48))) this_0 19)))) → fx_J M G Λ 5 240 [some (8, this_0), some (0, from_0), some (0, v28), some (0, more_95), none] [(8, this_0)] (fx_up h96 this_0 21 (fx_w (v28 - 48))) := fun c106 => by
              have e100 := (if_pos c106).symm.trans e100
              refine fx_iconst (pc := 240) F ⟨by decide, by decide⟩ dX6_look_240 ?_
              cases e100
              refine fx_goto (pc := 241) F 248 (by decide) dX6_look_241 ?_
              exact hJ101
            have hF103 : ¬ (((((fx_up h96 this_0 21 (fx_w (v28 - 48))) this_0 20) = 2) ∧ (1 < ((fx_up h96 this_0 21 (fx_w (v28 - 48))) this_0 19)))) → fx_J M G Λ 5 244 [some (8, this_0), some (0, from_0), some (0, v28), some (0, more_95), none] [(8, this_0)] (fx_up h96 this_0 21 (fx_w (v28 - 48))) := fun c106 => by
              have e100 := (if_neg c106).symm.trans e100
              refine fx_aload_n (pc := 244) (t := 6) F 0 rfl rfl dX6_look_244 ?_
              refine fx_gI (pc := 245) F 6 20 20 rfl kC_X6 rfl wF_X6_222 dX6_look_245 ?_
              cases e100
              exact hJ101
            refine fx_neq (pc := 229) F 244 (by decide) dX6_look_229 (fun c104 => ?_) (fun c104 => ?_)
            · refine fx_aload_n (pc := 232) (t := 6) F 0 rfl rfl dX6_look_232 ?_
              refine fx_gI (pc := 233) F 6 19 19 rfl kC_X6 rfl wF_X6_219 dX6_look_233 ?_
              refine fx_iconst (pc := 236) F ⟨by decide, by decide⟩ dX6_look_236 ?_
              refine fx_ngt (pc := 237) F 244 (by decide) dX6_look_237 (fun c105 => ?_) (fun c105 => ?_)
              · exact hT102 ⟨c104, c105⟩
              · exact hF103 (fun q => c105 q.2)
            · exact hF103 (fun q => c104 q.1)
          refine fx_loop_J (Hd := (fun z : Int × fx_H => fx_J M G Λ 5 136 [some (8, this_0), some (0, from_0), some (0, v28), some (0, z.1), none] [] z.2)) (Ex := (fun z : Int × fx_H => fx_J M G Λ 5 215 [some (8, this_0), some (0, from_0), some (0, v28), some (0, z.1), none] [] z.2)) ?_ Fu _ _ e97 hE98
          rintro ⟨more_73, h74⟩ o9 eq75 ih ex
          unfold s_X6_look_2 at eq75
          show fx_J M G Λ 5 136 [some (8, this_0), some (0, from_0), some (0, v28), some (0, more_73), none] [] h74
          refine fx_iload_n (pc := 136) F 3 rfl rfl dX6_look_136 ?_
          have hT76 : (((¬ more_73 = 0) ∧ ((fx_w ((h74 this_0 18) + (h74 this_0 19))) < (h74 this_0 17)))) → fx_J M G Λ 5 156 [some (8, this_0), some (0, from_0), some (0, v28), some (0, more_73), none] [] h74 := fun c80 => by
            have eq75 := (if_pos c80).symm.trans eq75
            refine fx_aload_n (pc := 156) (t := 6) F 0 rfl rfl dX6_look_156 ?_
            refine fx_gR (pc := 157) F 6 16 16 8 rfl kC_X6 (by decide) rfl wF_X6_57 dX6_look_157 ?_
            refine fx_aload_n (pc := 160) (t := 6) F 0 rfl rfl dX6_look_160 ?_
            refine fx_gI (pc := 161) F 6 18 18 rfl kC_X6 rfl wF_X6_216 dX6_look_161 ?_
            refine fx_aload_n (pc := 164) (t := 6) F 0 rfl rfl dX6_look_164 ?_
            refine fx_gI (pc := 165) F 6 19 19 rfl kC_X6 rfl wF_X6_219 dX6_look_165 ?_
            refine fx_iadd (pc := 168) F dX6_look_168 ?_
            obtain ⟨v81, e82, eq75⟩ := fx_bnd eq75
            refine fx_raldI (pc := 169) F e82 dX6_look_169 ?_
            refine fx_istore (pc := 170) (ls' := [some (8, this_0), some (0, from_0), some (0, v28), some (0, more_73), some (0, v81)]) F (by decide) rfl rfl dX6_look_170 ?_
            obtain ⟨v83, e84, eq75⟩ := fx_bnd eq75
            have hJ85 : fx_J M G Λ 5 193 [some (8, this_0), some (0, from_0), some (0, v28), some (0, more_73), some (0, v81)] [(0, v83)] h74 := by
              refine fx_istore_n (pc := 193) (ls' := [some (8, this_0), some (0, from_0), some (0, v28), some (0, v83), some (0, v81)]) F 3 rfl (by decide) rfl rfl dX6_look_193 ?_
              refine fx_aload_n (pc := 194) (t := 6) F 0 rfl rfl dX6_look_194 ?_
              refine fx_dup (pc := 195) F (show (8 : Nat) ≠ 1 by decide) dX6_look_195 ?_
              refine fx_gI (pc := 196) F 6 19 19 rfl kC_X6 rfl wF_X6_219 dX6_look_196 ?_
              obtain ⟨v91, e92, eq75⟩ := fx_bnd eq75
              have hJ93 : fx_J M G Λ 5 208 [some (8, this_0), some (0, from_0), some (0, v28), some (0, v83), some (0, v81)] [(0, v91), (0, (h74 this_0 19)), (8, this_0)] h74 := by
                refine fx_iadd (pc := 208) F dX6_look_208 ?_
                refine fx_pI (pc := 209) F 6 19 19 rfl kC_X6 rfl rfl (by decide +kernel) wF_X6_219 dX6_look_209 ?_
                refine fx_goto (pc := 212) F 136 (by decide) dX6_look_212 ?_
                cases eq75
                refine fx_drop (ls' := [some (8, this_0), some (0, from_0), some (0, v28), some (0, v83), none]) ⟨rfl, rfl, rfl, rfl, trivial⟩ ?_
                exact ih _ rfl
              refine fx_iload_n (pc := 199) F 3 rfl rfl dX6_look_199 ?_
              refine fx_nzne (pc := 200) F 207 (by decide) dX6_look_200 (fun c94 => ?_) (fun c94 => ?_)
              · have e92 := (if_pos c94).symm.trans e92
                refine fx_iconst (pc := 203) F ⟨by decide, by decide⟩ dX6_look_203 ?_
                cases e92
                refine fx_goto (pc := 204) F 208 (by decide) dX6_look_204 ?_
                exact hJ93
              · have e92 := (if_neg c94).symm.trans e92
                refine fx_iconst (pc := 207) F ⟨by decide, by decide⟩ dX6_look_207 ?_
                cases e92
                exact hJ93
            refine fx_aload_n (pc := 172) (t := 6) F 0 rfl rfl dX6_look_172 ?_
            refine fx_gI (pc := 173) F 6 20 20 rfl kC_X6 rfl wF_X6_222 dX6_look_173 ?_
            refine fx_iconst (pc := 176) F ⟨by decide, by decide⟩ dX6_look_176 ?_
            refine fx_neq (pc := 177) F 188 (by decide) dX6_look_177 (fun c86 => ?_) (fun c86 => ?_)
            · have e84 := (if_pos c86).symm.trans e84
              refine fx_iload (pc := 180) F rfl dX6_look_180 ?_
              obtain ⟨v87, e88, e84⟩ := fx_bnd e84
              refine fx_cS (pc := 182) F [(0, v81)] [] (m_X6_isSmall Fu Λ v81 h74 _ e88) kD_X6_isSmall wSt_X6_isSmall wM_X6_228 ⟨rfl, rfl⟩ ⟨by decide, by decide⟩ (Nat.le_of_ble_eq_true rfl) rfl dX6_look_182 ?_
              cases e84
              refine fx_goto (pc := 185) F 193 (by decide) dX6_look_185 ?_
              exact hJ85
            · have e84 := (if_neg c86).symm.trans e84
              refine fx_iload (pc := 188) F rfl dX6_look_188 ?_
              obtain ⟨v89, e90, e84⟩ := fx_bnd e84
              refine fx_cS (pc := 190) F [(0, v81)] [] (m_X6_isFigure Fu Λ v81 h74 _ e90) kD_X6_isFigure wSt_X6_isFigure wM_X6_231 ⟨rfl, rfl⟩ ⟨by decide, by decide⟩ (Nat.le_of_ble_eq_true rfl) rfl dX6_look_190 ?_
              cases e84
              exact hJ85
          have hF77 : ¬ (((¬ more_73 = 0) ∧ ((fx_w ((h74 this_0 18) + (h74 this_0 19))) < (h74 this_0 17)))) → fx_J M G Λ 5 215 [some (8, this_0), some (0, from_0), some (0, v28), some (0, more_73), none] [] h74 := fun c80 => by
            have eq75 := (if_neg c80).symm.trans eq75
            cases eq75
            exact ex _ rfl
          refine fx_nzne (pc := 137) F 215 (by decide) dX6_look_137 (fun c78 => ?_) (fun c78 => ?_)
          · refine fx_aload_n (pc := 140) (t := 6) F 0 rfl rfl dX6_look_140 ?_
            refine fx_gI (pc := 141) F 6 18 18 rfl kC_X6 rfl wF_X6_216 dX6_look_141 ?_
            refine fx_aload_n (pc := 144) (t := 6) F 0 rfl rfl dX6_look_144 ?_
            refine fx_gI (pc := 145) F 6 19 19 rfl kC_X6 rfl wF_X6_219 dX6_look_145 ?_
            refine fx_iadd (pc := 148) F dX6_look_148 ?_
            refine fx_aload_n (pc := 149) (t := 6) F 0 rfl rfl dX6_look_149 ?_
            refine fx_gI (pc := 150) F 6 17 17 rfl kC_X6 rfl wF_X6_202 dX6_look_150 ?_
            refine fx_nlt (pc := 153) F 215 (by decide) dX6_look_153 (fun c79 => ?_) (fun c79 => ?_)
            · exact hT76 ⟨c78, c79⟩
            · exact hF77 (fun q => c79 q.2)
          · exact hF77 (fun q => c78 q.1)
        refine fx_aload_n (pc := 122) (t := 6) F 0 rfl rfl dX6_look_122 ?_
        refine fx_gI (pc := 123) F 6 20 20 rfl kC_X6 rfl wF_X6_222 dX6_look_123 ?_
        refine fx_iconst (pc := 126) F ⟨by decide, by decide⟩ dX6_look_126 ?_
        refine fx_nlt (pc := 127) F 134 (by decide) dX6_look_127 (fun c49 => ?_) (fun c49 => ?_)
        · have e47 := (if_pos c49).symm.trans e47
          refine fx_iconst (pc := 130) F ⟨by decide, by decide⟩ dX6_look_130 ?_
          cases e47
          refine fx_goto (pc := 131) F 135 (by decide) dX6_look_131 ?_
          exact hJ48
        · have e47 := (if_neg c49).symm.trans e47
          refine fx_iconst (pc := 134) F ⟨by decide, by decide⟩ dX6_look_134 ?_
          cases e47
          exact hJ48
      refine fx_iload_n (pc := 81) F 2 rfl rfl dX6_look_81 ?_
      obtain ⟨v33, e34, e31⟩ := fx_bnd e31
      refine fx_cS (pc := 82) F [(0, v28)] [(8, this_0)] (m_X6_isSmall Fu Λ v28 (fx_up (fx_up (fx_up h24 this_0 19 0) this_0 20 0) this_0 21 0) _ e34) kD_X6_isSmall wSt_X6_isSmall wM_X6_228 ⟨rfl, rfl⟩ ⟨by decide, by decide⟩ (Nat.le_of_ble_eq_true rfl) rfl dX6_look_82 ?_
      refine fx_nzne (pc := 85) F 92 (by decide) dX6_look_85 (fun c35 => ?_) (fun c35 => ?_)
      · have e31 := (if_pos c35).symm.trans e31
        refine fx_iconst (pc := 88) F ⟨by decide, by decide⟩ dX6_look_88 ?_
        cases e31
        refine fx_goto (pc := 89) F 114 (by decide) dX6_look_89 ?_
        exact hJ32
      · have e31 := (if_neg c35).symm.trans e31
        obtain ⟨v36, e37, e31⟩ := fx_bnd e31
        have hJ38 : fx_J M G Λ 5 114 [some (8, this_0), some (0, from_0), some (0, v28), none, none] [(0, v36), (8, this_0)] (fx_up (fx_up (fx_up h24 this_0 19 0) this_0 20 0) this_0 21 0) := by
          cases e31
          exact hJ32
        refine fx_iload_n (pc := 92) F 2 rfl rfl dX6_look_92 ?_
        obtain ⟨v39, e40, e37⟩ := fx_bnd e37
        refine fx_cS (pc := 93) F [(0, v28)] [(8, this_0)] (m_X6_isFigure Fu Λ v28 (fx_up (fx_up (fx_up h24 this_0 19 0) this_0 20 0) this_0 21 0) _ e40) kD_X6_isFigure wSt_X6_isFigure wM_X6_231 ⟨rfl, rfl⟩ ⟨by decide, by decide⟩ (Nat.le_of_ble_eq_true rfl) rfl dX6_look_93 ?_
        refine fx_nzne (pc := 96) F 103 (by decide) dX6_look_96 (fun c41 => ?_) (fun c41 => ?_)
        · have e37 := (if_pos c41).symm.trans e37
          refine fx_iconst (pc := 99) F ⟨by decide, by decide⟩ dX6_look_99 ?_
          cases e37
          refine fx_goto (pc := 100) F 114 (by decide) dX6_look_100 ?_
          exact hJ38
        · have e37 := (if_neg c41).symm.trans e37
          obtain ⟨v42, e43, e37⟩ := fx_bnd e37
          have hJ44 : fx_J M G Λ 5 114 [some (8, this_0), some (0, from_0), some (0, v28), none, none] [(0, v42), (8, this_0)] (fx_up (fx_up (fx_up h24 this_0 19 0) this_0 20 0) this_0 21 0) := by
            cases e37
            exact hJ38
          refine fx_iload_n (pc := 103) F 2 rfl rfl dX6_look_103 ?_
          refine fx_bipush (pc := 104) F ⟨by decide, by decide⟩ (by decide) dX6_look_104 ?_
          refine fx_neq (pc := 106) F 113 (by decide) dX6_look_106 (fun c45 => ?_) (fun c45 => ?_)
          · have e43 := (if_pos c45).symm.trans e43
            refine fx_iconst (pc := 109) F ⟨by decide, by decide⟩ dX6_look_109 ?_
            cases e43
            refine fx_goto (pc := 110) F 114 (by decide) dX6_look_110 ?_
            exact hJ44
          · have e43 := (if_neg c45).symm.trans e43
            refine fx_iconst (pc := 113) F ⟨by decide, by decide⟩ dX6_look_113 ?_
            cases e43
            exact hJ44
  refine fx_loop_J (Hd := (fun z : fx_H => fx_J M G Λ 5 5 [some (8, this_0), some (0, from_0), none, none, none] [] z)) (Ex := (fun z : fx_H => fx_J M G Λ 5 43 [some (8, this_0), some (0, from_0), none, none, none] [] z)) ?_ Fu _ _ e25 hE26
  rintro h13 o9 eq14 ih ex
  unfold s_X6_look_1 at eq14
  show fx_J M G Λ 5 5 [some (8, this_0), some (0, from_0), none, none, none] [] h13
  obtain ⟨b15, e16, eq14⟩ := fx_bnd eq14
  have hT17 : b15 = true → fx_J M G Λ 5 30 [some (8, this_0), some (0, from_0), none, none, none] [] h13 := fun c23 => by
    have eq14 := (if_pos c23).symm.trans eq14
    refine fx_aload_n (pc := 30) (t := 6) F 0 rfl rfl dX6_look_30 ?_
    refine fx_dup (pc := 31) F (show (8 : Nat) ≠ 1 by decide) dX6_look_31 ?_
    refine fx_gI (pc := 32) F 6 18 18 rfl kC_X6 rfl wF_X6_216 dX6_look_32 ?_
    refine fx_iconst (pc := 35) F ⟨by decide, by decide⟩ dX6_look_35 ?_
    refine fx_iadd (pc := 36) F dX6_look_36 ?_
    refine fx_pI (pc := 37) F 6 18 18 rfl kC_X6 rfl rfl (by decide +kernel) wF_X6_216 dX6_look_37 ?_
    refine fx_goto (pc := 40) F 5 (by decide) dX6_look_40 ?_
    cases eq14
    exact ih _ rfl
  have hF18 : ¬ b15 = true → fx_J M G Λ 5 43 [some (8, this_0), some (0, from_0), none, none, none] [] h13 := fun c23 => by
    have eq14 := (if_neg c23).symm.trans eq14
    cases eq14
    exact ex _ rfl
  refine fx_aload_n (pc := 5) (t := 6) F 0 rfl rfl dX6_look_5 ?_
  refine fx_gI (pc := 6) F 6 18 18 rfl kC_X6 rfl wF_X6_216 dX6_look_6 ?_
  refine fx_aload_n (pc := 9) (t := 6) F 0 rfl rfl dX6_look_9 ?_
  refine fx_gI (pc := 10) F 6 17 17 rfl kC_X6 rfl wF_X6_202 dX6_look_10 ?_
  refine fx_nlt (pc := 13) F 43 (by decide) dX6_look_13 (fun c19 => ?_) (fun c19 => ?_)
  · have e16 := (if_pos c19).symm.trans e16
    refine fx_aload_n (pc := 16) (t := 6) F 0 rfl rfl dX6_look_16 ?_
    refine fx_gR (pc := 17) F 6 16 16 8 rfl kC_X6 (by decide) rfl wF_X6_57 dX6_look_17 ?_
    refine fx_aload_n (pc := 20) (t := 6) F 0 rfl rfl dX6_look_20 ?_
    refine fx_gI (pc := 21) F 6 18 18 rfl kC_X6 rfl wF_X6_216 dX6_look_21 ?_
    obtain ⟨v20, e21, e16⟩ := fx_bnd e16
    refine fx_raldI (pc := 24) F e21 dX6_look_24 ?_
    refine fx_bipush (pc := 25) F ⟨by decide, by decide⟩ (by decide) dX6_look_25 ?_
    refine fx_neq (pc := 27) F 43 (by decide) dX6_look_27 (fun c22 => ?_) (fun c22 => ?_)
    · have e16 := (if_pos c22).symm.trans e16
      cases e16
      exact hT17 (by decide)
    · have e16 := (if_neg c22).symm.trans e16
      cases e16
      exact hF18 (by decide)
  · have e16 := (if_neg c19).symm.trans e16
    cases e16
    exact hF18 (by decide)
