def f_X6_goOn (Fu : Nat) (Λ : fx_L) (this_0 : Int) (h : fx_H) : Option (fx_H) :=
  (f_X6_look Fu Λ this_0 (fx_w ((h this_0 18) + (h this_0 19))) h).bind fun h1 =>
  some h1
abbrev rm_X6_goOn : Room := { frames := 3, cells := 0, slots := 0, locals := 69 }
set_option maxRecDepth 100000 in
set_option maxHeartbeats 4000000 in
theorem m_X6_goOn (Fu : Nat) (Λ : fx_L) (this_0 : Int) (h : fx_H) (ho : fx_H) (hf : f_X6_goOn Fu Λ this_0 h = some ho) : fx_Met yX6_goOn cX6_goOn 1 none rm_X6_goOn Λ [(8, this_0)] h none ho := by
  unfold f_X6_goOn at hf
  refine fx_enter (ls := [some (8, this_0)]) (by decide) (Nat.le_of_ble_eq_true rfl) rfl (fun M G F K => ?_)
  refine fx_aload_n (pc := 0) (t := 6) F 0 rfl rfl dX6_goOn_0 ?_
  refine fx_aload_n (pc := 1) (t := 6) F 0 rfl rfl dX6_goOn_1 ?_
  refine fx_gI (pc := 2) F 6 18 18 rfl kC_X6 rfl wF_X6_216 dX6_goOn_2 ?_
  refine fx_aload_n (pc := 5) (t := 6) F 0 rfl rfl dX6_goOn_5 ?_
  refine fx_gI (pc := 6) F 6 19 19 rfl kC_X6 rfl wF_X6_219 dX6_goOn_6 ?_
  refine fx_iadd (pc := 9) F dX6_goOn_9 ?_
  obtain ⟨h1, e2, hf⟩ := fx_bnd hf
  refine fx_cVv (pc := 10) F 6 kC_X6 [(0, (fx_w ((h this_0 18) + (h this_0 19))))] this_0 [] (m_X6_look Fu Λ this_0 (fx_w ((h this_0 18) + (h this_0 19))) h _ e2) kD_X6_look kI_X6_look rfl wM_X6_234 ⟨rfl, rfl⟩ ⟨by decide, by decide⟩ (Nat.le_of_ble_eq_true rfl) rfl dX6_goOn_10 ?_
  cases hf
  exact fx_vreturn (pc := 13) F K dX6_goOn_13
def s_X6_isWord_1 (Fu : Nat) (Λ : fx_L) (this_19 : Int) (a_20 : Int) (b_21 : Int) (c_22 : Int) (d_23 : Int) (e_24 : Int) (f_25 : Int) (size_26 : Int) (h : fx_H) : Int × Int → Option ((Int × Int) ⊕ (Int × Int)) := fun (is_17, k_18) =>
  if ((k_18 < size_26) ∧ (¬ is_17 = 0)) then
    Option.bind (
      (fx_rd Λ h (fx_tg Λ this_19 16) (fx_w ((h this_19 18) + k_18))).bind fun v36 =>
      Option.bind (
        if k_18 = 0 then
          some a_20
        else
          Option.bind (
            if k_18 = 1 then
              some b_21
            else
              Option.bind (
                if k_18 = 2 then
                  some c_22
                else
                  Option.bind (
                    if k_18 = 3 then
                      some d_23
                    else
                      Option.bind (
                        if k_18 = 4 then
                          some e_24
                        else
                          some f_25
                      ) fun v54 =>
                      some v54
                  ) fun v50 =>
                  some v50
              ) fun v46 =>
              some v46
          ) fun v42 =>
          some v42
      ) fun v38 =>
      if v36 = v38 then
        some 1
      else
        some 0
    ) fun v33 =>
    some (.inl (v33, (fx_w (k_18 + 1))))
  else
    some (.inr (is_17, k_18))
def f_X6_isWord (Fu : Nat) (Λ : fx_L) (this_0 : Int) (a_0 : Int) (b_0 : Int) (c_0 : Int) (d_0 : Int) (e_0 : Int) (f_0 : Int) (h : fx_H) : Option (Int) :=
  Option.bind (
    if e_0 = 0 then
      some 4
    else
      Option.bind (
        if f_0 = 0 then
          some 5
        else
          some 6
      ) fun v5 =>
      some v5
  ) fun v1 =>
  Option.bind (
    if (((h this_0 20) = 1) ∧ ((h this_0 19) = v1)) then
      some 1
    else
      some 0
  ) fun v9 =>
  Option.bind (fx_loop (s_X6_isWord_1 Fu Λ this_0 a_0 b_0 c_0 d_0 e_0 f_0 v1 h) Fu (v9, 0)) fun (is_93, k_94) =>
  (fx_zb is_93).bind fun z97 =>
  some z97
abbrev rm_X6_isWord : Room := { frames := 0, cells := 0, slots := 0, locals := 0 }
set_option maxRecDepth 100000 in
set_option maxHeartbeats 4000000 in
theorem m_X6_isWord (Fu : Nat) (Λ : fx_L) (this_0 : Int) (a_0 : Int) (b_0 : Int) (c_0 : Int) (d_0 : Int) (e_0 : Int) (f_0 : Int) (h : fx_H) (r : Int) (hf : f_X6_isWord Fu Λ this_0 a_0 b_0 c_0 d_0 e_0 f_0 h = some r) : fx_Met yX6_isWord cX6_isWord 10 (some .boolean) rm_X6_isWord Λ [(8, this_0), (0, a_0), (0, b_0), (0, c_0), (0, d_0), (0, e_0), (0, f_0)] h (some (0, r)) h := by
  unfold f_X6_isWord at hf
  refine fx_enter (ls := [some (8, this_0), some (0, a_0), some (0, b_0), some (0, c_0), some (0, d_0), some (0, e_0), some (0, f_0), none, none, none]) (by decide) (Nat.le_of_ble_eq_true rfl) rfl (fun M G F K => ?_)
  obtain ⟨v1, e2, hf⟩ := fx_bnd hf
  have hJ3 : fx_J M G Λ 10 20 [some (8, this_0), some (0, a_0), some (0, b_0), some (0, c_0), some (0, d_0), some (0, e_0), some (0, f_0), none, none, none] [(0, v1)] h := by
    refine fx_istore (pc := 20) (ls' := [some (8, this_0), some (0, a_0), some (0, b_0), some (0, c_0), some (0, d_0), some (0, e_0), some (0, f_0), some (0, v1), none, none]) F (by decide) rfl rfl dX6_isWord_20 ?_
    obtain ⟨v9, e10, hf⟩ := fx_bnd hf
    have hJ11 : fx_J M G Λ 10 44 [some (8, this_0), some (0, a_0), some (0, b_0), some (0, c_0), some (0, d_0), some (0, e_0), some (0, f_0), some (0, v1), none, none] [(0, v9)] h := by
      refine fx_istore (pc := 44) (ls' := [some (8, this_0), some (0, a_0), some (0, b_0), some (0, c_0), some (0, d_0), some (0, e_0), some (0, f_0), some (0, v1), some (0, v9), none]) F (by decide) rfl rfl dX6_isWord_44 ?_
      refine fx_iconst (pc := 46) F ⟨by decide, by decide⟩ dX6_isWord_46 ?_
      refine fx_istore (pc := 47) (ls' := [some (8, this_0), some (0, a_0), some (0, b_0), some (0, c_0), some (0, d_0), some (0, e_0), some (0, f_0), some (0, v1), some (0, v9), some (0, 0)]) F (by decide) rfl rfl dX6_isWord_47 ?_
      obtain ⟨⟨is_93, k_94⟩, e95, hf⟩ := fx_bnd hf
      have hE96 : fx_J M G Λ 10 142 [some (8, this_0), some (0, a_0), some (0, b_0), some (0, c_0), some (0, d_0), some (0, e_0), some (0, f_0), some (0, v1), some (0, is_93), some (0, k_94)] [] h := by
        refine fx_iload (pc := 142) F rfl dX6_isWord_142 ?_
        obtain ⟨z97, e98, hf⟩ := fx_bnd hf
        obtain ⟨e98, hzz97⟩ := fx_zb_use e98
        refine fx_top (X := fx_X) e98 ?_
        cases hf
        exact fx_zreturn (pc := 144) F hzz97 K dX6_isWord_144
      refine fx_loop_J (Hd := (fun z : Int × Int => fx_J M G Λ 10 49 [some (8, this_0), some (0, a_0), some (0, b_0), some (0, c_0), some (0, d_0), some (0, e_0), some (0, f_0), some (0, v1), some (0, z.1), some (0, z.2)] [] h)) (Ex := (fun z : Int × Int => fx_J M G Λ 10 142 [some (8, this_0), some (0, a_0), some (0, b_0), some (0, c_0), some (0, d_0), some (0, e_0), some (0, f_0), some (0, v1), some (0, z.1), some (0, z.2)] [] h)) ?_ Fu _ _ e95 hE96
      rintro ⟨is_59, k_60⟩ o9 eq61 ih ex
      unfold s_X6_isWord_1 at eq61
      show fx_J M G Λ 10 49 [some (8, this_0), some (0, a_0), some (0, b_0), some (0, c_0), some (0, d_0), some (0, e_0), some (0, f_0), some (0, v1), some (0, is_59), some (0, k_60)] [] h
      refine fx_iload (pc := 49) F rfl dX6_isWord_49 ?_
      refine fx_iload (pc := 51) F rfl dX6_isWord_51 ?_
      have hT62 : (((k_60 < v1) ∧ (¬ is_59 = 0))) → fx_J M G Λ 10 61 [some (8, this_0), some (0, a_0), some (0, b_0), some (0, c_0), some (0, d_0), some (0, e_0), some (0, f_0), some (0, v1), some (0, is_59), some (0, k_60)] [] h := fun c66 => by
        have eq61 := (if_pos c66).symm.trans eq61
        obtain ⟨v67, e68, eq61⟩ := fx_bnd eq61
        have hJ69 : fx_J M G Λ 10 134 [some (8, this_0), some (0, a_0), some (0, b_0), some (0, c_0), some (0, d_0), some (0, e_0), some (0, f_0), some (0, v1), some (0, is_59), some (0, k_60)] [(0, v67)] h := by
          refine fx_istore (pc := 134) (ls' := [some (8, this_0), some (0, a_0), some (0, b_0), some (0, c_0), some (0, d_0), some (0, e_0), some (0, f_0), some (0, v1), some (0, v67), some (0, k_60)]) F (by decide) rfl rfl dX6_isWord_134 ?_
          refine fx_iinc (pc := 136) (ls' := [some (8, this_0), some (0, a_0), some (0, b_0), some (0, c_0), some (0, d_0), some (0, e_0), some (0, f_0), some (0, v1), some (0, v67), some (0, (fx_w (k_60 + 1)))]) F (by decide) rfl rfl rfl dX6_isWord_136 ?_
          refine fx_goto (pc := 139) F 49 (by decide) dX6_isWord_139 ?_
          cases eq61
          exact ih _ rfl
        refine fx_aload_n (pc := 61) (t := 6) F 0 rfl rfl dX6_isWord_61 ?_
        refine fx_gR (pc := 62) F 6 16 16 8 rfl kC_X6 (by decide) rfl wF_X6_57 dX6_isWord_62 ?_
        refine fx_aload_n (pc := 65) (t := 6) F 0 rfl rfl dX6_isWord_65 ?_
        refine fx_gI (pc := 66) F 6 18 18 rfl kC_X6 rfl wF_X6_216 dX6_isWord_66 ?_
        refine fx_iload (pc := 69) F rfl dX6_isWord_69 ?_
        refine fx_iadd (pc := 71) F dX6_isWord_71 ?_
        obtain ⟨v70, e71, e68⟩ := fx_bnd e68
        refine fx_raldI (pc := 72) F e71 dX6_isWord_72 ?_
        obtain ⟨v72, e73, e68⟩ := fx_bnd e68
        have hJ74 : fx_J M G Λ 10 126 [some (8, this_0), some (0, a_0), some (0, b_0), some (0, c_0), some (0, d_0), some (0, e_0), some (0, f_0), some (0, v1), some (0, is_59), some (0, k_60)] [(0, v72), (0, v70)] h := by
          refine fx_neq (pc := 126) F 133 (by decide) dX6_isWord_126 (fun c92 => ?_) (fun c92 => ?_)
          · have e68 := (if_pos c92).symm.trans e68
            refine fx_iconst (pc := 129) F ⟨by decide, by decide⟩ dX6_isWord_129 ?_
            cases e68
            refine fx_goto (pc := 130) F 134 (by decide) dX6_isWord_130 ?_
            exact hJ69
          · have e68 := (if_neg c92).symm.trans e68
            refine fx_iconst (pc := 133) F ⟨by decide, by decide⟩ dX6_isWord_133 ?_
            cases e68
            exact hJ69
        refine fx_iload (pc := 73) F rfl dX6_isWord_73 ?_
        refine fx_nzeq (pc := 75) F 82 (by decide) dX6_isWord_75 (fun c75 => ?_) (fun c75 => ?_)
        · have e73 := (if_pos c75).symm.trans e73
          refine fx_iload_n (pc := 78) F 1 rfl rfl dX6_isWord_78 ?_
          cases e73
          refine fx_goto (pc := 79) F 126 (by decide) dX6_isWord_79 ?_
          exact hJ74
        · have e73 := (if_neg c75).symm.trans e73
          obtain ⟨v76, e77, e73⟩ := fx_bnd e73
          have hJ78 : fx_J M G Λ 10 126 [some (8, this_0), some (0, a_0), some (0, b_0), some (0, c_0), some (0, d_0), some (0, e_0), some (0, f_0), some (0, v1), some (0, is_59), some (0, k_60)] [(0, v76), (0, v70)] h := by
            cases e73
            exact hJ74
          refine fx_iload (pc := 82) F rfl dX6_isWord_82 ?_
          refine fx_iconst (pc := 84) F ⟨by decide, by decide⟩ dX6_isWord_84 ?_
          refine fx_neq (pc := 85) F 92 (by decide) dX6_isWord_85 (fun c79 => ?_) (fun c79 => ?_)
          · have e77 := (if_pos c79).symm.trans e77
            refine fx_iload_n (pc := 88) F 2 rfl rfl dX6_isWord_88 ?_
            cases e77
            refine fx_goto (pc := 89) F 126 (by decide) dX6_isWord_89 ?_
            exact hJ78
          · have e77 := (if_neg c79).symm.trans e77
            obtain ⟨v80, e81, e77⟩ := fx_bnd e77
            have hJ82 : fx_J M G Λ 10 126 [some (8, this_0), some (0, a_0), some (0, b_0), some (0, c_0), some (0, d_0), some (0, e_0), some (0, f_0), some (0, v1), some (0, is_59), some (0, k_60)] [(0, v80), (0, v70)] h := by
              cases e77
              exact hJ78
            refine fx_iload (pc := 92) F rfl dX6_isWord_92 ?_
            refine fx_iconst (pc := 94) F ⟨by decide, by decide⟩ dX6_isWord_94 ?_
            refine fx_neq (pc := 95) F 102 (by decide) dX6_isWord_95 (fun c83 => ?_) (fun c83 => ?_)
            · have e81 := (if_pos c83).symm.trans e81
              refine fx_iload_n (pc := 98) F 3 rfl rfl dX6_isWord_98 ?_
              cases e81
              refine fx_goto (pc := 99) F 126 (by decide) dX6_isWord_99 ?_
              exact hJ82
            · have e81 := (if_neg c83).symm.trans e81
              obtain ⟨v84, e85, e81⟩ := fx_bnd e81
              have hJ86 : fx_J M G Λ 10 126 [some (8, this_0), some (0, a_0), some (0, b_0), some (0, c_0), some (0, d_0), some (0, e_0), some (0, f_0), some (0, v1), some (0, is_59), some (0, k_60)] [(0, v84), (0, v70)] h := by
                cases e81
                exact hJ82
              refine fx_iload (pc := 102) F rfl dX6_isWord_102 ?_
              refine fx_iconst (pc := 104) F ⟨by decide, by decide⟩ dX6_isWord_104 ?_
              refine fx_neq (pc := 105) F 113 (by decide) dX6_isWord_105 (fun c87 => ?_) (fun c87 => ?_)
              · have e85 := (if_pos c87).symm.trans e85
                refine fx_iload (pc := 108) F rfl dX6_isWord_108 ?_
                cases e85
                refine fx_goto (pc := 110) F 126 (by decide) dX6_isWord_110 ?_
                exact hJ86
              · have e85 := (if_neg c87).symm.trans e85
                obtain ⟨v88, e89, e85⟩ := fx_bnd e85
                have hJ90 : fx_J M G Λ 10 126 [some (8, this_0), some (0, a_0), some (0, b_0), some (0, c_0), some (0, d_0), some (0, e_0), some (0, f_0), some (0, v1), some (0, is_59), some (0, k_60)] [(0, v88), (0, v70)] h := by
                  cases e85
                  exact hJ86
                refine fx_iload (pc := 113) F rfl dX6_isWord_113 ?_
                refine fx_iconst (pc := 115) F ⟨by decide, by decide⟩ dX6_isWord_115 ?_
                refine fx_neq (pc := 116) F 124 (by decide) dX6_isWord_116 (fun c91 => ?_) (fun c91 => ?_)
                · have e89 := (if_pos c91).symm.trans e89
                  refine fx_iload (pc := 119) F rfl dX6_isWord_119 ?_
                  cases e89
                  refine fx_goto (pc := 121) F 126 (by decide) dX6_isWord_121 ?_
                  exact hJ90
                · have e89 := (if_neg c91).symm.trans e89
                  refine fx_iload (pc := 124) F rfl dX6_isWord_124 ?_
                  cases e89
                  exact hJ90
      have hF63 : ¬ (((k_60 < v1) ∧ (¬ is_59 = 0))) → fx_J M G Λ 10 142 [some (8, this_0), some (0, a_0), some (0, b_0), some (0, c_0), some (0, d_0), some (0, e_0), some (0, f_0), some (0, v1), some (0, is_59), some (0, k_60)] [] h := fun c66 => by
        have eq61 := (if_neg c66).symm.trans eq61
        cases eq61
        exact ex _ rfl
      refine fx_nlt (pc := 53) F 142 (by decide) dX6_isWord_53 (fun c64 => ?_) (fun c64 => ?_)
      · refine fx_iload (pc := 56) F rfl dX6_isWord_56 ?_
        refine fx_nzne (pc := 58) F 142 (by decide) dX6_isWord_58 (fun c65 => ?_) (fun c65 => ?_)
        · exact hT62 ⟨c64, c65⟩
        · exact hF63 (fun q => c65 q.2)
      · exact hF63 (fun q => c64 q.1)
    refine fx_aload_n (pc := 22) (t := 6) F 0 rfl rfl dX6_isWord_22 ?_
    refine fx_gI (pc := 23) F 6 20 20 rfl kC_X6 rfl wF_X6_222 dX6_isWord_23 ?_
    refine fx_iconst (pc := 26) F ⟨by decide, by decide⟩ dX6_isWord_26 ?_
    have hT12 : ((((h this_0 20) = 1) ∧ ((h this_0 19) = v1))) → fx_J M G Λ 10 39 [some (8, this_0), some (0, a_0), some (0, b_0), some (0, c_0), some (0, d_0), some (0, e_0), some (0, f_0), some (0, v1), none, none] [] h := fun c16 => by
      have e10 := (if_pos c16).symm.trans e10
      refine fx_iconst (pc := 39) F ⟨by decide, by decide⟩ dX6_isWord_39 ?_
      cases e10
      refine fx_goto (pc := 40) F 44 (by decide) dX6_isWord_40 ?_
      exact hJ11
    have hF13 : ¬ ((((h this_0 20) = 1) ∧ ((h this_0 19) = v1))) → fx_J M G Λ 10 43 [some (8, this_0), some (0, a_0), some (0, b_0), some (0, c_0), some (0, d_0), some (0, e_0), some (0, f_0), some (0, v1), none, none] [] h := fun c16 => by
      have e10 := (if_neg c16).symm.trans e10
      refine fx_iconst (pc := 43) F ⟨by decide, by decide⟩ dX6_isWord_43 ?_
      cases e10
      exact hJ11
    refine fx_neq (pc := 27) F 43 (by decide) dX6_isWord_27 (fun c14 => ?_) (fun c14 => ?_)
    · refine fx_aload_n (pc := 30) (t := 6) F 0 rfl rfl dX6_isWord_30 ?_
      refine fx_gI (pc := 31) F 6 19 19 rfl kC_X6 rfl wF_X6_219 dX6_isWord_31 ?_
      refine fx_iload (pc := 34) F rfl dX6_isWord_34 ?_
      refine fx_neq (pc := 36) F 43 (by decide) dX6_isWord_36 (fun c15 => ?_) (fun c15 => ?_)
      · exact hT12 ⟨c14, c15⟩
      · exact hF13 (fun q => c15 q.2)
    · exact hF13 (fun q => c14 q.1)
  refine fx_iload (pc := 0) F rfl dX6_isWord_0 ?_
  refine fx_nzeq (pc := 2) F 9 (by decide) dX6_isWord_2 (fun c4 => ?_) (fun c4 => ?_)
  · have e2 := (if_pos c4).symm.trans e2
    refine fx_iconst (pc := 5) F ⟨by decide, by decide⟩ dX6_isWord_5 ?_
    cases e2
    refine fx_goto (pc := 6) F 20 (by decide) dX6_isWord_6 ?_
    exact hJ3
  · have e2 := (if_neg c4).symm.trans e2
    obtain ⟨v5, e6, e2⟩ := fx_bnd e2
    have hJ7 : fx_J M G Λ 10 20 [some (8, this_0), some (0, a_0), some (0, b_0), some (0, c_0), some (0, d_0), some (0, e_0), some (0, f_0), none, none, none] [(0, v5)] h := by
      cases e2
      exact hJ3
    refine fx_iload (pc := 9) F rfl dX6_isWord_9 ?_
    refine fx_nzeq (pc := 11) F 18 (by decide) dX6_isWord_11 (fun c8 => ?_) (fun c8 => ?_)
    · have e6 := (if_pos c8).symm.trans e6
      refine fx_iconst (pc := 14) F ⟨by decide, by decide⟩ dX6_isWord_14 ?_
      cases e6
      refine fx_goto (pc := 15) F 20 (by decide) dX6_isWord_15 ?_
      exact hJ7
    · have e6 := (if_neg c8).symm.trans e6
      refine fx_bipush (pc := 18) F ⟨by decide, by decide⟩ (by decide) dX6_isWord_18 ?_
      cases e6
      exact hJ7
def f_X6_takes (Fu : Nat) (Λ : fx_L) (this_0 : Int) (k_0 : Int) (low_0 : Int) (high_0 : Int) (h : fx_H) : Option (Int × fx_H) :=
  Option.bind (
    if ¬ (h this_0 20) = 2 then
      some true
    else
      (f_X6_in Fu Λ (h this_0 21) low_0 high_0 h).bind fun v6 =>
      if v6 = 0 then
        some true
      else
        some false
  ) fun b1 =>
  if b1 = true then
    some (0, h)
  else
    (fx_wr Λ h (fx_tg Λ this_0 24) k_0 (h this_0 21)).bind fun h10 =>
    (f_X6_goOn Fu Λ this_0 h10).bind fun h12 =>
    some (1, h12)
abbrev rm_X6_takes : Room := { frames := 4, cells := 0, slots := 0, locals := 89 }
set_option maxRecDepth 100000 in
set_option maxHeartbeats 4000000 in
theorem m_X6_takes (Fu : Nat) (Λ : fx_L) (this_0 : Int) (k_0 : Int) (low_0 : Int) (high_0 : Int) (h : fx_H) (r : Int) (ho : fx_H) (hf : f_X6_takes Fu Λ this_0 k_0 low_0 high_0 h = some (r, ho)) : fx_Met yX6_takes cX6_takes 4 (some .boolean) rm_X6_takes Λ [(8, this_0), (0, k_0), (0, low_0), (0, high_0)] h (some (0, r)) ho := by
  unfold f_X6_takes at hf
  refine fx_enter (ls := [some (8, this_0), some (0, k_0), some (0, low_0), some (0, high_0)]) (by decide) (Nat.le_of_ble_eq_true rfl) rfl (fun M G F K => ?_)
  obtain ⟨b1, e2, hf⟩ := fx_bnd hf
  have hT3 : b1 = true → fx_J M G Λ 4 23 [some (8, this_0), some (0, k_0), some (0, low_0), some (0, high_0)] [] h := fun c9 => by
    have hf := (if_pos c9).symm.trans hf
    refine fx_iconst (pc := 23) F ⟨by decide, by decide⟩ dX6_takes_23 ?_
    cases hf
    exact fx_zreturn (pc := 24) F (Or.inl rfl) K dX6_takes_24
  have hF4 : ¬ b1 = true → fx_J M G Λ 4 25 [some (8, this_0), some (0, k_0), some (0, low_0), some (0, high_0)] [] h := fun c9 => by
    have hf := (if_neg c9).symm.trans hf
    refine fx_aload_n (pc := 25) (t := 6) F 0 rfl rfl dX6_takes_25 ?_
    refine fx_gR (pc := 26) F 6 24 24 8 rfl kC_X6 (by decide) rfl wF_X6_63 dX6_takes_26 ?_
    refine fx_iload_n (pc := 29) F 1 rfl rfl dX6_takes_29 ?_
    refine fx_aload_n (pc := 30) (t := 6) F 0 rfl rfl dX6_takes_30 ?_
    refine fx_gI (pc := 31) F 6 21 21 rfl kC_X6 rfl wF_X6_225 dX6_takes_31 ?_
    obtain ⟨h10, e11, hf⟩ := fx_bnd hf
    refine fx_rastI (pc := 34) F e11 dX6_takes_34 ?_
    refine fx_aload_n (pc := 35) (t := 6) F 0 rfl rfl dX6_takes_35 ?_
    obtain ⟨h12, e13, hf⟩ := fx_bnd hf
    refine fx_cVv (pc := 36) F 6 kC_X6 [] this_0 [] (m_X6_goOn Fu Λ this_0 h10 _ e13) kD_X6_goOn kI_X6_goOn rfl wM_X6_237 ⟨rfl, rfl⟩ ⟨by decide, by decide⟩ (Nat.le_of_ble_eq_true rfl) rfl dX6_takes_36 ?_
    refine fx_iconst (pc := 39) F ⟨by decide, by decide⟩ dX6_takes_39 ?_
    cases hf
    exact fx_zreturn (pc := 40) F (Or.inr rfl) K dX6_takes_40
  refine fx_aload_n (pc := 0) (t := 6) F 0 rfl rfl dX6_takes_0 ?_
  refine fx_gI (pc := 1) F 6 20 20 rfl kC_X6 rfl wF_X6_222 dX6_takes_1 ?_
  refine fx_iconst (pc := 4) F ⟨by decide, by decide⟩ dX6_takes_4 ?_
  refine fx_jne (pc := 5) F 23 (by decide) dX6_takes_5 (fun c5 => ?_) (fun c5 => ?_)
  · have e2 := (if_pos c5).symm.trans e2
    cases e2
    exact hT3 (by decide)
  · have e2 := (if_neg c5).symm.trans e2
    refine fx_aload_n (pc := 8) (t := 6) F 0 rfl rfl dX6_takes_8 ?_
    refine fx_gI (pc := 9) F 6 21 21 rfl kC_X6 rfl wF_X6_225 dX6_takes_9 ?_
    refine fx_ri2l (pc := 12) F dX6_takes_12 ?_
    refine fx_iload_n (pc := 13) F 2 rfl rfl dX6_takes_13 ?_
    refine fx_ri2l (pc := 14) F dX6_takes_14 ?_
    refine fx_iload_n (pc := 15) F 3 rfl rfl dX6_takes_15 ?_
    refine fx_ri2l (pc := 16) F dX6_takes_16 ?_
    obtain ⟨v6, e7, e2⟩ := fx_bnd e2
    refine fx_cS (pc := 17) F [(1, (h this_0 21)), (1, low_0), (1, high_0)] [] (m_X6_in Fu Λ (h this_0 21) low_0 high_0 h _ e7) kD_X6_in wSt_X6_in wM_X6_74 ⟨rfl, rfl⟩ ⟨by decide, by decide⟩ (Nat.le_of_ble_eq_true rfl) rfl dX6_takes_17 ?_
    refine fx_nzeq (pc := 20) F 25 (by decide) dX6_takes_20 (fun c8 => ?_) (fun c8 => ?_)
    · have e2 := (if_pos c8).symm.trans e2
      cases e2
      exact hT3 (by decide)
    · have e2 := (if_neg c8).symm.trans e2
      cases e2
      exact hF4 (by decide)
def f_X6_readsSize (Fu : Nat) (Λ : fx_L) (this_0 : Int) (to_0 : Int) (h : fx_H) : Option (Int × fx_H) :=
  if ¬ (h this_0 23) = 0 then
    some (0, h)
  else
    (f_X6_goOn Fu Λ this_0 h).bind fun h2 =>
    (f_X6_takes Fu Λ this_0 0 1 5 h2).bind fun (v4, h5) =>
    (fx_rd Λ h5 (fx_tg Λ this_0 24) 0).bind fun v7 =>
    (fx_wr Λ h5 (fx_tg Λ this_0 22) to_0 v7).bind fun h9 =>
    (fx_zb v4).bind fun z11 =>
    some (z11, h9)
abbrev rm_X6_readsSize : Room := { frames := 5, cells := 0, slots := 0, locals := 112 }
set_option maxRecDepth 100000 in
set_option maxHeartbeats 4000000 in
theorem m_X6_readsSize (Fu : Nat) (Λ : fx_L) (this_0 : Int) (to_0 : Int) (h : fx_H) (r : Int) (ho : fx_H) (hf : f_X6_readsSize Fu Λ this_0 to_0 h = some (r, ho)) : fx_Met yX6_readsSize cX6_readsSize 3 (some .boolean) rm_X6_readsSize Λ [(8, this_0), (0, to_0)] h (some (0, r)) ho := by
  unfold f_X6_readsSize at hf
  refine fx_enter (ls := [some (8, this_0), some (0, to_0), none]) (by decide) (Nat.le_of_ble_eq_true rfl) rfl (fun M G F K => ?_)
  refine fx_aload_n (pc := 0) (t := 6) F 0 rfl rfl dX6_readsSize_0 ?_
  refine fx_gI (pc := 1) F 6 23 23 rfl kC_X6 rfl wF_X6_244 dX6_readsSize_1 ?_
  refine fx_nzne (pc := 4) F 9 (by decide) dX6_readsSize_4 (fun c1 => ?_) (fun c1 => ?_)
  · have hf := (if_pos c1).symm.trans hf
    refine fx_iconst (pc := 7) F ⟨by decide, by decide⟩ dX6_readsSize_7 ?_
    cases hf
    exact fx_zreturn (pc := 8) F (Or.inl rfl) K dX6_readsSize_8
  · have hf := (if_neg c1).symm.trans hf
    refine fx_aload_n (pc := 9) (t := 6) F 0 rfl rfl dX6_readsSize_9 ?_
    obtain ⟨h2, e3, hf⟩ := fx_bnd hf
    refine fx_cVv (pc := 10) F 6 kC_X6 [] this_0 [] (m_X6_goOn Fu Λ this_0 h _ e3) kD_X6_goOn kI_X6_goOn rfl wM_X6_237 ⟨rfl, rfl⟩ ⟨by decide, by decide⟩ (Nat.le_of_ble_eq_true rfl) rfl dX6_readsSize_10 ?_
    refine fx_aload_n (pc := 13) (t := 6) F 0 rfl rfl dX6_readsSize_13 ?_
    refine fx_iconst (pc := 14) F ⟨by decide, by decide⟩ dX6_readsSize_14 ?_
    refine fx_iconst (pc := 15) F ⟨by decide, by decide⟩ dX6_readsSize_15 ?_
    refine fx_iconst (pc := 16) F ⟨by decide, by decide⟩ dX6_readsSize_16 ?_
    obtain ⟨⟨v4, h5⟩, e6, hf⟩ := fx_bnd hf
    refine fx_cV (pc := 17) F 6 kC_X6 [(0, 0), (0, 1), (0, 5)] this_0 [] (m_X6_takes Fu Λ this_0 0 1 5 h2 _ _ e6) kD_X6_takes kI_X6_takes rfl wM_X6_240 ⟨rfl, rfl⟩ ⟨by decide, by decide⟩ (Nat.le_of_ble_eq_true rfl) rfl dX6_readsSize_17 ?_
    refine fx_istore_n (pc := 20) (ls' := [some (8, this_0), some (0, to_0), some (0, v4)]) F 2 rfl (by decide) rfl rfl dX6_readsSize_20 ?_
    refine fx_aload_n (pc := 21) (t := 6) F 0 rfl rfl dX6_readsSize_21 ?_
    refine fx_gR (pc := 22) F 6 22 22 8 rfl kC_X6 (by decide) rfl wF_X6_60 dX6_readsSize_22 ?_
    refine fx_iload_n (pc := 25) F 1 rfl rfl dX6_readsSize_25 ?_
    refine fx_aload_n (pc := 26) (t := 6) F 0 rfl rfl dX6_readsSize_26 ?_
    refine fx_gR (pc := 27) F 6 24 24 8 rfl kC_X6 (by decide) rfl wF_X6_63 dX6_readsSize_27 ?_
    refine fx_iconst (pc := 30) F ⟨by decide, by decide⟩ dX6_readsSize_30 ?_
    obtain ⟨v7, e8, hf⟩ := fx_bnd hf
    refine fx_raldI (pc := 31) F e8 dX6_readsSize_31 ?_
    obtain ⟨h9, e10, hf⟩ := fx_bnd hf
    refine fx_rastI (pc := 32) F e10 dX6_readsSize_32 ?_
    refine fx_iload_n (pc := 33) F 2 rfl rfl dX6_readsSize_33 ?_
    obtain ⟨z11, e12, hf⟩ := fx_bnd hf
    obtain ⟨e12, hzz11⟩ := fx_zb_use e12
    refine fx_top (X := fx_X) e12 ?_
    cases hf
    exact fx_zreturn (pc := 34) F hzz11 K dX6_readsSize_34
def f_X6_part (Fu : Nat) (Λ : fx_L) (this_0 : Int) (what_0 : Int) (h : fx_H) : Option (Int × fx_H) :=
  Option.bind (
    if what_0 = 0 then
      some ((h this_0 1000004), h)
    else
      Option.bind (
        if what_0 = 1 then
          some ((h this_0 1000005), h)
        else
          (f_X6_bad Fu Λ this_0 (-2) h).bind fun (v11, h12) =>
          some (v11, h12)
      ) fun (v6, h7) =>
      some (v6, h7)
  ) fun (v1, h2) =>
  some (v1, h2)
abbrev rm_X6_part : Room := { frames := 1, cells := 0, slots := 0, locals := 21 }
set_option maxRecDepth 100000 in
set_option maxHeartbeats 4000000 in
theorem m_X6_part (Fu : Nat) (Λ : fx_L) (this_0 : Int) (what_0 : Int) (h : fx_H) (r : Int) (ho : fx_H) (hf : f_X6_part Fu Λ this_0 what_0 h = some (r, ho)) : fx_Met yX6_part cX6_part 2 (some .long) rm_X6_part Λ [(8, this_0), (0, what_0)] h (some (1, r)) ho := by
  unfold f_X6_part at hf
  refine fx_enter (ls := [some (8, this_0), some (0, what_0)]) (by decide) (Nat.le_of_ble_eq_true rfl) rfl (fun M G F K => ?_)
  obtain ⟨⟨v1, h2⟩, e3, hf⟩ := fx_bnd hf
  have hJ4 : fx_J M G Λ 2 30 [some (8, this_0), some (0, what_0)] [(1, v1)] h2 := by
    cases hf
    exact fx_lreturn (pc := 30) F K dX6_part_30
  refine fx_iload_n (pc := 0) F 1 rfl rfl dX6_part_0 ?_
  refine fx_nzeq (pc := 1) F 11 (by decide) dX6_part_1 (fun c5 => ?_) (fun c5 => ?_)
  · have e3 := (if_pos c5).symm.trans e3
    refine fx_aload_n (pc := 4) (t := 6) F 0 rfl rfl dX6_part_4 ?_
    refine fx_gL (pc := 5) F 6 4 1000004 rfl kC_X6 rfl wF_X6_197 dX6_part_5 ?_
    cases e3
    refine fx_goto (pc := 8) F 30 (by decide) dX6_part_8 ?_
    exact hJ4
  · have e3 := (if_neg c5).symm.trans e3
    obtain ⟨⟨v6, h7⟩, e8, e3⟩ := fx_bnd e3
    have hJ9 : fx_J M G Λ 2 30 [some (8, this_0), some (0, what_0)] [(1, v6)] h7 := by
      cases e3
      exact hJ4
    refine fx_iload_n (pc := 11) F 1 rfl rfl dX6_part_11 ?_
    refine fx_iconst (pc := 12) F ⟨by decide, by decide⟩ dX6_part_12 ?_
    refine fx_neq (pc := 13) F 23 (by decide) dX6_part_13 (fun c10 => ?_) (fun c10 => ?_)
    · have e8 := (if_pos c10).symm.trans e8
      refine fx_aload_n (pc := 16) (t := 6) F 0 rfl rfl dX6_part_16 ?_
      refine fx_gL (pc := 17) F 6 5 1000005 rfl kC_X6 rfl wF_X6_23 dX6_part_17 ?_
      cases e8
      refine fx_goto (pc := 20) F 30 (by decide) dX6_part_20 ?_
      exact hJ9
    · have e8 := (if_neg c10).symm.trans e8
      refine fx_aload_n (pc := 23) (t := 6) F 0 rfl rfl dX6_part_23 ?_
      refine fx_bipush (pc := 24) F ⟨by decide, by decide⟩ (by decide) dX6_part_24 ?_
      obtain ⟨⟨v11, h12⟩, e13, e8⟩ := fx_bnd e8
      refine fx_cV (pc := 26) F 6 kC_X6 [(0, (-2))] this_0 [] (m_X6_bad Fu Λ this_0 (-2) h _ _ e13) kD_X6_bad kI_X6_bad rfl wM_X6_88 ⟨rfl, rfl⟩ ⟨by decide, by decide⟩ (Nat.le_of_ble_eq_true rfl) rfl dX6_part_26 ?_
      refine fx_ri2l (pc := 29) F dX6_part_29 ?_
      cases e8
      exact hJ9
def s_X6_image_1 (Fu : Nat) (Λ : fx_L) (this_9 : Int) (i_10 : Int) : Int × fx_H → Option ((Int × fx_H) ⊕ (Int × fx_H)) := fun (k_7, h8) =>
  if k_7 < 125 then
    (fx_rd Λ h8 (fx_tg Λ this_9 0) k_7).bind fun v13 =>
    (fx_wr Λ h8 (fx_tg Λ this_9 1) (fx_w ((fx_w (125 * i_10)) + k_7)) v13).bind fun h15 =>
    some (.inl ((fx_w (k_7 + 1)), h15))
  else
    some (.inr (k_7, h8))
def f_X6_image (Fu : Nat) (Λ : fx_L) (this_0 : Int) (i_0 : Int) (h : fx_H) : Option (Int × fx_H) :=
  (f_X6_in Fu Λ i_0 0 1 h).bind fun v1 =>
  if v1 = 0 then
    (f_X6_bad Fu Λ this_0 (-2) h).bind fun (v4, h5) =>
    some (v4, h5)
  else
    Option.bind (fx_loop (s_X6_image_1 Fu Λ this_0 i_0) Fu (0, h)) fun (k_25, h26) =>
    (fx_wr Λ h26 (fx_tg Λ this_0 2) i_0 1).bind fun h29 =>
    some (1, h29)
abbrev rm_X6_image : Room := { frames := 1, cells := 0, slots := 0, locals := 25 }
set_option maxRecDepth 100000 in
set_option maxHeartbeats 4000000 in
theorem m_X6_image (Fu : Nat) (Λ : fx_L) (this_0 : Int) (i_0 : Int) (h : fx_H) (r : Int) (ho : fx_H) (hf : f_X6_image Fu Λ this_0 i_0 h = some (r, ho)) : fx_Met yX6_image cX6_image 3 (some .int) rm_X6_image Λ [(8, this_0), (0, i_0)] h (some (0, r)) ho := by
  unfold f_X6_image at hf
  refine fx_enter (ls := [some (8, this_0), some (0, i_0), none]) (by decide) (Nat.le_of_ble_eq_true rfl) rfl (fun M G F K => ?_)
  refine fx_iload_n (pc := 0) F 1 rfl rfl dX6_image_0 ?_
  refine fx_ri2l (pc := 1) F dX6_image_1 ?_
  refine fx_lconst (pc := 2) (z := 0) F rfl ⟨by decide, by decide⟩ (by decide) dX6_image_2 ?_
  refine fx_lconst (pc := 3) (z := 1) F rfl ⟨by decide, by decide⟩ (by decide) dX6_image_3 ?_
  obtain ⟨v1, e2, hf⟩ := fx_bnd hf
  refine fx_cS (pc := 4) F [(1, i_0), (1, 0), (1, 1)] [] (m_X6_in Fu Λ i_0 0 1 h _ e2) kD_X6_in wSt_X6_in wM_X6_74 ⟨rfl, rfl⟩ ⟨by decide, by decide⟩ (Nat.le_of_ble_eq_true rfl) rfl dX6_image_4 ?_
  refine fx_nzeq (pc := 7) F 17 (by decide) dX6_image_7 (fun c3 => ?_) (fun c3 => ?_)
  · have hf := (if_pos c3).symm.trans hf
    refine fx_aload_n (pc := 10) (t := 6) F 0 rfl rfl dX6_image_10 ?_
    refine fx_bipush (pc := 11) F ⟨by decide, by decide⟩ (by decide) dX6_image_11 ?_
    obtain ⟨⟨v4, h5⟩, e6, hf⟩ := fx_bnd hf
    refine fx_cV (pc := 13) F 6 kC_X6 [(0, (-2))] this_0 [] (m_X6_bad Fu Λ this_0 (-2) h _ _ e6) kD_X6_bad kI_X6_bad rfl wM_X6_88 ⟨rfl, rfl⟩ ⟨by decide, by decide⟩ (Nat.le_of_ble_eq_true rfl) rfl dX6_image_13 ?_
    cases hf
    exact fx_ireturn (pc := 16) F K dX6_image_16
  · have hf := (if_neg c3).symm.trans hf
    refine fx_iconst (pc := 17) F ⟨by decide, by decide⟩ dX6_image_17 ?_
    refine fx_istore_n (pc := 18) (ls' := [some (8, this_0), some (0, i_0), some (0, 0)]) F 2 rfl (by decide) rfl rfl dX6_image_18 ?_
    obtain ⟨⟨k_25, h26⟩, e27, hf⟩ := fx_bnd hf
    have hE28 : fx_J M G Λ 3 48 [some (8, this_0), some (0, i_0), some (0, k_25)] [] h26 := by
      refine fx_aload_n (pc := 48) (t := 6) F 0 rfl rfl dX6_image_48 ?_
      refine fx_gR (pc := 49) F 6 2 2 9 rfl kC_X6 (by decide) rfl wF_X6_16 dX6_image_49 ?_
      refine fx_iload_n (pc := 52) F 1 rfl rfl dX6_image_52 ?_
      refine fx_iconst (pc := 53) F ⟨by decide, by decide⟩ dX6_image_53 ?_
      obtain ⟨h29, e30, hf⟩ := fx_bnd hf
      refine fx_rastZ (pc := 54) F e30 (Or.inr rfl) dX6_image_54 ?_
      refine fx_iconst (pc := 55) F ⟨by decide, by decide⟩ dX6_image_55 ?_
      cases hf
      exact fx_ireturn (pc := 56) F K dX6_image_56
    refine fx_loop_J (Hd := (fun z : Int × fx_H => fx_J M G Λ 3 19 [some (8, this_0), some (0, i_0), some (0, z.1)] [] z.2)) (Ex := (fun z : Int × fx_H => fx_J M G Λ 3 48 [some (8, this_0), some (0, i_0), some (0, z.1)] [] z.2)) ?_ Fu _ _ e27 hE28
    rintro ⟨k_17, h18⟩ o9 eq19 ih ex
    unfold s_X6_image_1 at eq19
    show fx_J M G Λ 3 19 [some (8, this_0), some (0, i_0), some (0, k_17)] [] h18
    refine fx_iload_n (pc := 19) F 2 rfl rfl dX6_image_19 ?_
    refine fx_bipush (pc := 20) F ⟨by decide, by decide⟩ (by decide) dX6_image_20 ?_
    refine fx_nlt (pc := 22) F 48 (by decide) dX6_image_22 (fun c20 => ?_) (fun c20 => ?_)
    · have eq19 := (if_pos c20).symm.trans eq19
      refine fx_aload_n (pc := 25) (t := 6) F 0 rfl rfl dX6_image_25 ?_
      refine fx_gR (pc := 26) F 6 1 1 8 rfl kC_X6 (by decide) rfl wF_X6_13 dX6_image_26 ?_
      refine fx_bipush (pc := 29) F ⟨by decide, by decide⟩ (by decide) dX6_image_29 ?_
      refine fx_iload_n (pc := 31) F 1 rfl rfl dX6_image_31 ?_
      refine fx_imul (pc := 32) F dX6_image_32 ?_
      refine fx_iload_n (pc := 33) F 2 rfl rfl dX6_image_33 ?_
      refine fx_iadd (pc := 34) F dX6_image_34 ?_
      refine fx_aload_n (pc := 35) (t := 6) F 0 rfl rfl dX6_image_35 ?_
      refine fx_gR (pc := 36) F 6 0 0 8 rfl kC_X6 (by decide) rfl wF_X6_7 dX6_image_36 ?_
      refine fx_iload_n (pc := 39) F 2 rfl rfl dX6_image_39 ?_
      obtain ⟨v21, e22, eq19⟩ := fx_bnd eq19
      refine fx_raldI (pc := 40) F e22 dX6_image_40 ?_
      obtain ⟨h23, e24, eq19⟩ := fx_bnd eq19
      refine fx_rastI (pc := 41) F e24 dX6_image_41 ?_
      refine fx_iinc (pc := 42) (ls' := [some (8, this_0), some (0, i_0), some (0, (fx_w (k_17 + 1)))]) F (by decide) rfl rfl rfl dX6_image_42 ?_
      refine fx_goto (pc := 45) F 19 (by decide) dX6_image_45 ?_
      cases eq19
      exact ih _ rfl
    · have eq19 := (if_neg c20).symm.trans eq19
      cases eq19
      exact ex _ rfl
def s_X6_from_1 (Fu : Nat) (Λ : fx_L) (this_15 : Int) (i_16 : Int) : Int × fx_H → Option ((Int × fx_H) ⊕ (Int × fx_H)) := fun (k_13, h14) =>
  if k_13 < 125 then
    (fx_rd Λ h14 (fx_tg Λ this_15 1) (fx_w ((fx_w (125 * i_16)) + k_13))).bind fun v19 =>
    (fx_wr Λ h14 (fx_tg Λ this_15 0) k_13 v19).bind fun h21 =>
    some (.inl ((fx_w (k_13 + 1)), h21))
  else
    some (.inr (k_13, h14))
def f_X6_from (Fu : Nat) (Λ : fx_L) (this_0 : Int) (i_0 : Int) (h : fx_H) : Option (Int × fx_H) :=
  (f_X6_in Fu Λ i_0 0 1 h).bind fun v1 =>
  if v1 = 0 then
    (f_X6_bad Fu Λ this_0 (-2) h).bind fun (v4, h5) =>
    some (v4, h5)
  else
    (fx_rd Λ h (fx_tg Λ this_0 2) i_0).bind fun v7 =>
    if v7 = 0 then
      (f_X6_no Fu Λ this_0 h).bind fun (v10, h11) =>
      some (v10, h11)
    else
      Option.bind (fx_loop (s_X6_from_1 Fu Λ this_0 i_0) Fu (0, h)) fun (k_31, h32) =>
      some (1, h32)
abbrev rm_X6_from : Room := { frames := 1, cells := 0, slots := 0, locals := 25 }
set_option maxRecDepth 100000 in
set_option maxHeartbeats 4000000 in
theorem m_X6_from (Fu : Nat) (Λ : fx_L) (this_0 : Int) (i_0 : Int) (h : fx_H) (r : Int) (ho : fx_H) (hf : f_X6_from Fu Λ this_0 i_0 h = some (r, ho)) : fx_Met yX6_from cX6_from 3 (some .int) rm_X6_from Λ [(8, this_0), (0, i_0)] h (some (0, r)) ho := by
  unfold f_X6_from at hf
  refine fx_enter (ls := [some (8, this_0), some (0, i_0), none]) (by decide) (Nat.le_of_ble_eq_true rfl) rfl (fun M G F K => ?_)
  refine fx_iload_n (pc := 0) F 1 rfl rfl dX6_from_0 ?_
  refine fx_ri2l (pc := 1) F dX6_from_1 ?_
  refine fx_lconst (pc := 2) (z := 0) F rfl ⟨by decide, by decide⟩ (by decide) dX6_from_2 ?_
  refine fx_lconst (pc := 3) (z := 1) F rfl ⟨by decide, by decide⟩ (by decide) dX6_from_3 ?_
  obtain ⟨v1, e2, hf⟩ := fx_bnd hf
  refine fx_cS (pc := 4) F [(1, i_0), (1, 0), (1, 1)] [] (m_X6_in Fu Λ i_0 0 1 h _ e2) kD_X6_in wSt_X6_in wM_X6_74 ⟨rfl, rfl⟩ ⟨by decide, by decide⟩ (Nat.le_of_ble_eq_true rfl) rfl dX6_from_4 ?_
  refine fx_nzeq (pc := 7) F 17 (by decide) dX6_from_7 (fun c3 => ?_) (fun c3 => ?_)
  · have hf := (if_pos c3).symm.trans hf
    refine fx_aload_n (pc := 10) (t := 6) F 0 rfl rfl dX6_from_10 ?_
    refine fx_bipush (pc := 11) F ⟨by decide, by decide⟩ (by decide) dX6_from_11 ?_
    obtain ⟨⟨v4, h5⟩, e6, hf⟩ := fx_bnd hf
    refine fx_cV (pc := 13) F 6 kC_X6 [(0, (-2))] this_0 [] (m_X6_bad Fu Λ this_0 (-2) h _ _ e6) kD_X6_bad kI_X6_bad rfl wM_X6_88 ⟨rfl, rfl⟩ ⟨by decide, by decide⟩ (Nat.le_of_ble_eq_true rfl) rfl dX6_from_13 ?_
    cases hf
    exact fx_ireturn (pc := 16) F K dX6_from_16
  · have hf := (if_neg c3).symm.trans hf
    refine fx_aload_n (pc := 17) (t := 6) F 0 rfl rfl dX6_from_17 ?_
    refine fx_gR (pc := 18) F 6 2 2 9 rfl kC_X6 (by decide) rfl wF_X6_16 dX6_from_18 ?_
    refine fx_iload_n (pc := 21) F 1 rfl rfl dX6_from_21 ?_
    obtain ⟨v7, e8, hf⟩ := fx_bnd hf
    refine fx_raldZ (pc := 22) F e8 dX6_from_22 ?_
    refine fx_nzeq (pc := 23) F 31 (by decide) dX6_from_23 (fun c9 => ?_) (fun c9 => ?_)
    · have hf := (if_pos c9).symm.trans hf
      refine fx_aload_n (pc := 26) (t := 6) F 0 rfl rfl dX6_from_26 ?_
      obtain ⟨⟨v10, h11⟩, e12, hf⟩ := fx_bnd hf
      refine fx_cV (pc := 27) F 6 kC_X6 [] this_0 [] (m_X6_no Fu Λ this_0 h _ _ e12) kD_X6_no kI_X6_no rfl wM_X6_105 ⟨rfl, rfl⟩ ⟨by decide, by decide⟩ (Nat.le_of_ble_eq_true rfl) rfl dX6_from_27 ?_
      cases hf
      exact fx_ireturn (pc := 30) F K dX6_from_30
    · have hf := (if_neg c9).symm.trans hf
      refine fx_iconst (pc := 31) F ⟨by decide, by decide⟩ dX6_from_31 ?_
      refine fx_istore_n (pc := 32) (ls' := [some (8, this_0), some (0, i_0), some (0, 0)]) F 2 rfl (by decide) rfl rfl dX6_from_32 ?_
      obtain ⟨⟨k_31, h32⟩, e33, hf⟩ := fx_bnd hf
      have hE34 : fx_J M G Λ 3 62 [some (8, this_0), some (0, i_0), some (0, k_31)] [] h32 := by
        refine fx_iconst (pc := 62) F ⟨by decide, by decide⟩ dX6_from_62 ?_
        cases hf
        exact fx_ireturn (pc := 63) F K dX6_from_63
      refine fx_loop_J (Hd := (fun z : Int × fx_H => fx_J M G Λ 3 33 [some (8, this_0), some (0, i_0), some (0, z.1)] [] z.2)) (Ex := (fun z : Int × fx_H => fx_J M G Λ 3 62 [some (8, this_0), some (0, i_0), some (0, z.1)] [] z.2)) ?_ Fu _ _ e33 hE34
      rintro ⟨k_23, h24⟩ o9 eq25 ih ex
      unfold s_X6_from_1 at eq25
      show fx_J M G Λ 3 33 [some (8, this_0), some (0, i_0), some (0, k_23)] [] h24
      refine fx_iload_n (pc := 33) F 2 rfl rfl dX6_from_33 ?_
      refine fx_bipush (pc := 34) F ⟨by decide, by decide⟩ (by decide) dX6_from_34 ?_
      refine fx_nlt (pc := 36) F 62 (by decide) dX6_from_36 (fun c26 => ?_) (fun c26 => ?_)
      · have eq25 := (if_pos c26).symm.trans eq25
        refine fx_aload_n (pc := 39) (t := 6) F 0 rfl rfl dX6_from_39 ?_
        refine fx_gR (pc := 40) F 6 0 0 8 rfl kC_X6 (by decide) rfl wF_X6_7 dX6_from_40 ?_
        refine fx_iload_n (pc := 43) F 2 rfl rfl dX6_from_43 ?_
        refine fx_aload_n (pc := 44) (t := 6) F 0 rfl rfl dX6_from_44 ?_
        refine fx_gR (pc := 45) F 6 1 1 8 rfl kC_X6 (by decide) rfl wF_X6_13 dX6_from_45 ?_
        refine fx_bipush (pc := 48) F ⟨by decide, by decide⟩ (by decide) dX6_from_48 ?_
        refine fx_iload_n (pc := 50) F 1 rfl rfl dX6_from_50 ?_
        refine fx_imul (pc := 51) F dX6_from_51 ?_
        refine fx_iload_n (pc := 52) F 2 rfl rfl dX6_from_52 ?_
        refine fx_iadd (pc := 53) F dX6_from_53 ?_
        obtain ⟨v27, e28, eq25⟩ := fx_bnd eq25
        refine fx_raldI (pc := 54) F e28 dX6_from_54 ?_
        obtain ⟨h29, e30, eq25⟩ := fx_bnd eq25
        refine fx_rastI (pc := 55) F e30 dX6_from_55 ?_
        refine fx_iinc (pc := 56) (ls' := [some (8, this_0), some (0, i_0), some (0, (fx_w (k_23 + 1)))]) F (by decide) rfl rfl rfl dX6_from_56 ?_
        refine fx_goto (pc := 59) F 33 (by decide) dX6_from_59 ?_
        cases eq25
        exact ih _ rfl
      · have eq25 := (if_neg c26).symm.trans eq25
        cases eq25
        exact ex _ rfl
def f_X6_status (Fu : Nat) (Λ : fx_L) (this_0 : Int) (what_0 : Int) (h : fx_H) : Option (Int × fx_H) :=
  Option.bind (
    (f_X6_in Fu Λ what_0 0 2 h).bind fun v5 =>
    if ¬ v5 = 0 then
      (fx_rd Λ h (fx_tg Λ this_0 3) what_0).bind fun v8 =>
      some (v8, h)
    else
      (f_X6_bad Fu Λ this_0 (-1) h).bind fun (v10, h11) =>
      some (v10, h11)
  ) fun (v1, h2) =>
  some (v1, h2)
abbrev rm_X6_status : Room := { frames := 1, cells := 0, slots := 0, locals := 25 }
set_option maxRecDepth 100000 in
set_option maxHeartbeats 4000000 in
theorem m_X6_status (Fu : Nat) (Λ : fx_L) (this_0 : Int) (what_0 : Int) (h : fx_H) (r : Int) (ho : fx_H) (hf : f_X6_status Fu Λ this_0 what_0 h = some (r, ho)) : fx_Met yX6_status cX6_status 2 (some .int) rm_X6_status Λ [(8, this_0), (0, what_0)] h (some (0, r)) ho := by
  unfold f_X6_status at hf
  refine fx_enter (ls := [some (8, this_0), some (0, what_0)]) (by decide) (Nat.le_of_ble_eq_true rfl) rfl (fun M G F K => ?_)
  obtain ⟨⟨v1, h2⟩, e3, hf⟩ := fx_bnd hf
  have hJ4 : fx_J M G Λ 2 26 [some (8, this_0), some (0, what_0)] [(0, v1)] h2 := by
    cases hf
    exact fx_ireturn (pc := 26) F K dX6_status_26
  refine fx_iload_n (pc := 0) F 1 rfl rfl dX6_status_0 ?_
  refine fx_ri2l (pc := 1) F dX6_status_1 ?_
  refine fx_lconst (pc := 2) (z := 0) F rfl ⟨by decide, by decide⟩ (by decide) dX6_status_2 ?_
  refine fx_ldc2 (pc := 3) (z := 2) F (by decide) ⟨by decide, by decide⟩ wK_X6_271 dX6_status_3 ?_
  obtain ⟨v5, e6, e3⟩ := fx_bnd e3
  refine fx_cS (pc := 6) F [(1, what_0), (1, 0), (1, 2)] [] (m_X6_in Fu Λ what_0 0 2 h _ e6) kD_X6_in wSt_X6_in wM_X6_74 ⟨rfl, rfl⟩ ⟨by decide, by decide⟩ (Nat.le_of_ble_eq_true rfl) rfl dX6_status_6 ?_
  refine fx_nzne (pc := 9) F 21 (by decide) dX6_status_9 (fun c7 => ?_) (fun c7 => ?_)
  · have e3 := (if_pos c7).symm.trans e3
    refine fx_aload_n (pc := 12) (t := 6) F 0 rfl rfl dX6_status_12 ?_
    refine fx_gR (pc := 13) F 6 3 3 8 rfl kC_X6 (by decide) rfl wF_X6_20 dX6_status_13 ?_
    refine fx_iload_n (pc := 16) F 1 rfl rfl dX6_status_16 ?_
    obtain ⟨v8, e9, e3⟩ := fx_bnd e3
    refine fx_raldI (pc := 17) F e9 dX6_status_17 ?_
    cases e3
    refine fx_goto (pc := 18) F 26 (by decide) dX6_status_18 ?_
    exact hJ4
  · have e3 := (if_neg c7).symm.trans e3
    refine fx_aload_n (pc := 21) (t := 6) F 0 rfl rfl dX6_status_21 ?_
    refine fx_iconst (pc := 22) F ⟨by decide, by decide⟩ dX6_status_22 ?_
    obtain ⟨⟨v10, h11⟩, e12, e3⟩ := fx_bnd e3
    refine fx_cV (pc := 23) F 6 kC_X6 [(0, (-1))] this_0 [] (m_X6_bad Fu Λ this_0 (-1) h _ _ e12) kD_X6_bad kI_X6_bad rfl wM_X6_88 ⟨rfl, rfl⟩ ⟨by decide, by decide⟩ (Nat.le_of_ble_eq_true rfl) rfl dX6_status_23 ?_
    cases e3
    exact hJ4
def f_X6_counted (Fu : Nat) (Λ : fx_L) (this_0 : Int) (what_0 : Int) (h : fx_H) : Option (Int) :=
  Option.bind (
    if what_0 = 0 then
      (f_X6_things Fu Λ this_0 h).bind fun v5 =>
      some v5
    else
      Option.bind (
        if what_0 = 1 then
          (f_X6_people Fu Λ this_0 h).bind fun v11 =>
          some v11
        else
          Option.bind (
            if what_0 = 2 then
              (f_X6_hours Fu Λ this_0 h).bind fun v17 =>
              some v17
            else
              Option.bind (
                if what_0 = 3 then
                  (fx_rd Λ h (fx_tg Λ this_0 0) 94).bind fun v23 =>
                  some v23
                else
                  some (h this_0 17)
              ) fun v19 =>
              some v19
          ) fun v13 =>
          some v13
      ) fun v7 =>
      some v7
  ) fun v1 =>
  some v1
abbrev rm_X6_counted : Room := { frames := 1, cells := 0, slots := 0, locals := 20 }
set_option maxRecDepth 100000 in
set_option maxHeartbeats 4000000 in
theorem m_X6_counted (Fu : Nat) (Λ : fx_L) (this_0 : Int) (what_0 : Int) (h : fx_H) (r : Int) (hf : f_X6_counted Fu Λ this_0 what_0 h = some r) : fx_Met yX6_counted cX6_counted 2 (some .int) rm_X6_counted Λ [(8, this_0), (0, what_0)] h (some (0, r)) h := by
  unfold f_X6_counted at hf
  refine fx_enter (ls := [some (8, this_0), some (0, what_0)]) (by decide) (Nat.le_of_ble_eq_true rfl) rfl (fun M G F K => ?_)
  obtain ⟨v1, e2, hf⟩ := fx_bnd hf
  have hJ3 : fx_J M G Λ 2 54 [some (8, this_0), some (0, what_0)] [(0, v1)] h := by
    cases hf
    exact fx_ireturn (pc := 54) F K dX6_counted_54
  refine fx_iload_n (pc := 0) F 1 rfl rfl dX6_counted_0 ?_
  refine fx_nzeq (pc := 1) F 11 (by decide) dX6_counted_1 (fun c4 => ?_) (fun c4 => ?_)
  · have e2 := (if_pos c4).symm.trans e2
    refine fx_aload_n (pc := 4) (t := 6) F 0 rfl rfl dX6_counted_4 ?_
    obtain ⟨v5, e6, e2⟩ := fx_bnd e2
    refine fx_cV (pc := 5) F 6 kC_X6 [] this_0 [] (m_X6_things Fu Λ this_0 h _ e6) kD_X6_things kI_X6_things rfl wM_X6_70 ⟨rfl, rfl⟩ ⟨by decide, by decide⟩ (Nat.le_of_ble_eq_true rfl) rfl dX6_counted_5 ?_
    cases e2
    refine fx_goto (pc := 8) F 54 (by decide) dX6_counted_8 ?_
    exact hJ3
  · have e2 := (if_neg c4).symm.trans e2
    obtain ⟨v7, e8, e2⟩ := fx_bnd e2
    have hJ9 : fx_J M G Λ 2 54 [some (8, this_0), some (0, what_0)] [(0, v7)] h := by
      cases e2
      exact hJ3
    refine fx_iload_n (pc := 11) F 1 rfl rfl dX6_counted_11 ?_
    refine fx_iconst (pc := 12) F ⟨by decide, by decide⟩ dX6_counted_12 ?_
    refine fx_neq (pc := 13) F 23 (by decide) dX6_counted_13 (fun c10 => ?_) (fun c10 => ?_)
    · have e8 := (if_pos c10).symm.trans e8
      refine fx_aload_n (pc := 16) (t := 6) F 0 rfl rfl dX6_counted_16 ?_
      obtain ⟨v11, e12, e8⟩ := fx_bnd e8
      refine fx_cV (pc := 17) F 6 kC_X6 [] this_0 [] (m_X6_people Fu Λ this_0 h _ e12) kD_X6_people kI_X6_people rfl wM_X6_78 ⟨rfl, rfl⟩ ⟨by decide, by decide⟩ (Nat.le_of_ble_eq_true rfl) rfl dX6_counted_17 ?_
      cases e8
      refine fx_goto (pc := 20) F 54 (by decide) dX6_counted_20 ?_
      exact hJ9
    · have e8 := (if_neg c10).symm.trans e8
      obtain ⟨v13, e14, e8⟩ := fx_bnd e8
      have hJ15 : fx_J M G Λ 2 54 [some (8, this_0), some (0, what_0)] [(0, v13)] h := by
        cases e8
        exact hJ9
      refine fx_iload_n (pc := 23) F 1 rfl rfl dX6_counted_23 ?_
      refine fx_iconst (pc := 24) F ⟨by decide, by decide⟩ dX6_counted_24 ?_
      refine fx_neq (pc := 25) F 35 (by decide) dX6_counted_25 (fun c16 => ?_) (fun c16 => ?_)
      · have e14 := (if_pos c16).symm.trans e14
        refine fx_aload_n (pc := 28) (t := 6) F 0 rfl rfl dX6_counted_28 ?_
        obtain ⟨v17, e18, e14⟩ := fx_bnd e14
        refine fx_cV (pc := 29) F 6 kC_X6 [] this_0 [] (m_X6_hours Fu Λ this_0 h _ e18) kD_X6_hours kI_X6_hours rfl wM_X6_81 ⟨rfl, rfl⟩ ⟨by decide, by decide⟩ (Nat.le_of_ble_eq_true rfl) rfl dX6_counted_29 ?_
        cases e14
        refine fx_goto (pc := 32) F 54 (by decide) dX6_counted_32 ?_
        exact hJ15
      · have e14 := (if_neg c16).symm.trans e14
        obtain ⟨v19, e20, e14⟩ := fx_bnd e14
        have hJ21 : fx_J M G Λ 2 54 [some (8, this_0), some (0, what_0)] [(0, v19)] h := by
          cases e14
          exact hJ15
        refine fx_iload_n (pc := 35) F 1 rfl rfl dX6_counted_35 ?_
        refine fx_iconst (pc := 36) F ⟨by decide, by decide⟩ dX6_counted_36 ?_
        refine fx_neq (pc := 37) F 50 (by decide) dX6_counted_37 (fun c22 => ?_) (fun c22 => ?_)
        · have e20 := (if_pos c22).symm.trans e20
          refine fx_aload_n (pc := 40) (t := 6) F 0 rfl rfl dX6_counted_40 ?_
          refine fx_gR (pc := 41) F 6 0 0 8 rfl kC_X6 (by decide) rfl wF_X6_7 dX6_counted_41 ?_
          refine fx_bipush (pc := 44) F ⟨by decide, by decide⟩ (by decide) dX6_counted_44 ?_
          obtain ⟨v23, e24, e20⟩ := fx_bnd e20
          refine fx_raldI (pc := 46) F e24 dX6_counted_46 ?_
          cases e20
          refine fx_goto (pc := 47) F 54 (by decide) dX6_counted_47 ?_
          exact hJ21
        · have e20 := (if_neg c22).symm.trans e20
          refine fx_aload_n (pc := 50) (t := 6) F 0 rfl rfl dX6_counted_50 ?_
          refine fx_gI (pc := 51) F 6 17 17 rfl kC_X6 rfl wF_X6_202 dX6_counted_51 ?_
          cases e20
          exact hJ21
def f_X6_count (Fu : Nat) (Λ : fx_L) (this_0 : Int) (what_0 : Int) (h : fx_H) : Option (Int × fx_H) :=
  Option.bind (
    (f_X6_in Fu Λ what_0 0 4 h).bind fun v5 =>
    if ¬ v5 = 0 then
      (f_X6_counted Fu Λ this_0 what_0 h).bind fun v8 =>
      some (v8, h)
    else
      (f_X6_bad Fu Λ this_0 (-2) h).bind fun (v10, h11) =>
      some (v10, h11)
  ) fun (v1, h2) =>
  some (v1, h2)
abbrev rm_X6_count : Room := { frames := 2, cells := 0, slots := 0, locals := 41 }
set_option maxRecDepth 100000 in
set_option maxHeartbeats 4000000 in
theorem m_X6_count (Fu : Nat) (Λ : fx_L) (this_0 : Int) (what_0 : Int) (h : fx_H) (r : Int) (ho : fx_H) (hf : f_X6_count Fu Λ this_0 what_0 h = some (r, ho)) : fx_Met yX6_count cX6_count 2 (some .int) rm_X6_count Λ [(8, this_0), (0, what_0)] h (some (0, r)) ho := by
  unfold f_X6_count at hf
  refine fx_enter (ls := [some (8, this_0), some (0, what_0)]) (by decide) (Nat.le_of_ble_eq_true rfl) rfl (fun M G F K => ?_)
  obtain ⟨⟨v1, h2⟩, e3, hf⟩ := fx_bnd hf
  have hJ4 : fx_J M G Λ 2 26 [some (8, this_0), some (0, what_0)] [(0, v1)] h2 := by
    cases hf
    exact fx_ireturn (pc := 26) F K dX6_count_26
  refine fx_iload_n (pc := 0) F 1 rfl rfl dX6_count_0 ?_
  refine fx_ri2l (pc := 1) F dX6_count_1 ?_
  refine fx_lconst (pc := 2) (z := 0) F rfl ⟨by decide, by decide⟩ (by decide) dX6_count_2 ?_
  refine fx_ldc2 (pc := 3) (z := 4) F (by decide) ⟨by decide, by decide⟩ wK_X6_100 dX6_count_3 ?_
  obtain ⟨v5, e6, e3⟩ := fx_bnd e3
  refine fx_cS (pc := 6) F [(1, what_0), (1, 0), (1, 4)] [] (m_X6_in Fu Λ what_0 0 4 h _ e6) kD_X6_in wSt_X6_in wM_X6_74 ⟨rfl, rfl⟩ ⟨by decide, by decide⟩ (Nat.le_of_ble_eq_true rfl) rfl dX6_count_6 ?_
  refine fx_nzne (pc := 9) F 20 (by decide) dX6_count_9 (fun c7 => ?_) (fun c7 => ?_)
  · have e3 := (if_pos c7).symm.trans e3
    refine fx_aload_n (pc := 12) (t := 6) F 0 rfl rfl dX6_count_12 ?_
    refine fx_iload_n (pc := 13) F 1 rfl rfl dX6_count_13 ?_
    obtain ⟨v8, e9, e3⟩ := fx_bnd e3
    refine fx_cV (pc := 14) F 6 kC_X6 [(0, what_0)] this_0 [] (m_X6_counted Fu Λ this_0 what_0 h _ e9) kD_X6_counted kI_X6_counted rfl wM_X6_273 ⟨rfl, rfl⟩ ⟨by decide, by decide⟩ (Nat.le_of_ble_eq_true rfl) rfl dX6_count_14 ?_
    cases e3
    refine fx_goto (pc := 17) F 26 (by decide) dX6_count_17 ?_
    exact hJ4
  · have e3 := (if_neg c7).symm.trans e3
    refine fx_aload_n (pc := 20) (t := 6) F 0 rfl rfl dX6_count_20 ?_
    refine fx_bipush (pc := 21) F ⟨by decide, by decide⟩ (by decide) dX6_count_21 ?_
    obtain ⟨⟨v10, h11⟩, e12, e3⟩ := fx_bnd e3
    refine fx_cV (pc := 23) F 6 kC_X6 [(0, (-2))] this_0 [] (m_X6_bad Fu Λ this_0 (-2) h _ _ e12) kD_X6_bad kI_X6_bad rfl wM_X6_88 ⟨rfl, rfl⟩ ⟨by decide, by decide⟩ (Nat.le_of_ble_eq_true rfl) rfl dX6_count_23 ?_
    cases e3
    exact hJ4
def s_X6_sums_1 (Fu : Nat) (Λ : fx_L) (this_3 : Int) (first_4 : Int) (n_5 : Int) (h : fx_H) : Int × Int → Option ((Int × Int) ⊕ (Int × Int)) := fun (h_1, k_2) =>
  if k_2 < n_5 then
    (fx_rd Λ h (fx_tg Λ this_3 0) (fx_w (first_4 + k_2))).bind fun v8 =>
    some (.inl ((fx_wl ((fx_wl (31 * h_1)) + v8)), (fx_w (k_2 + 1))))
  else
    some (.inr (h_1, k_2))
def f_X6_sums (Fu : Nat) (Λ : fx_L) (this_0 : Int) (from0_0 : Int) (first_0 : Int) (n_0 : Int) (h : fx_H) : Option (Int) :=
  Option.bind (fx_loop (s_X6_sums_1 Fu Λ this_0 first_0 n_0 h) Fu (from0_0, 0)) fun (h_16, k_17) =>
  some h_16
abbrev rm_X6_sums : Room := { frames := 0, cells := 0, slots := 0, locals := 0 }
set_option maxRecDepth 100000 in
set_option maxHeartbeats 4000000 in
theorem m_X6_sums (Fu : Nat) (Λ : fx_L) (this_0 : Int) (from0_0 : Int) (first_0 : Int) (n_0 : Int) (h : fx_H) (r : Int) (hf : f_X6_sums Fu Λ this_0 from0_0 first_0 n_0 h = some r) : fx_Met yX6_sums cX6_sums 8 (some .long) rm_X6_sums Λ [(8, this_0), (1, from0_0), (0, first_0), (0, n_0)] h (some (1, r)) h := by
  unfold f_X6_sums at hf
  refine fx_enter (ls := [some (8, this_0), some (1, from0_0), none, some (0, first_0), some (0, n_0), none, none, none]) (by decide) (Nat.le_of_ble_eq_true rfl) rfl (fun M G F K => ?_)
  refine fx_lload_n (pc := 0) F 1 rfl rfl dX6_sums_0 ?_
  refine fx_lstore (pc := 1) (ls' := [some (8, this_0), some (1, from0_0), none, some (0, first_0), some (0, n_0), some (1, from0_0), none, none]) F (by decide) rfl rfl dX6_sums_1 ?_
  refine fx_iconst (pc := 3) F ⟨by decide, by decide⟩ dX6_sums_3 ?_
  refine fx_istore (pc := 4) (ls' := [some (8, this_0), some (1, from0_0), none, some (0, first_0), some (0, n_0), some (1, from0_0), none, some (0, 0)]) F (by decide) rfl rfl dX6_sums_4 ?_
  obtain ⟨⟨h_16, k_17⟩, e18, hf⟩ := fx_bnd hf
  have hE19 : fx_J M G Λ 8 38 [some (8, this_0), some (1, from0_0), none, some (0, first_0), some (0, n_0), some (1, h_16), none, some (0, k_17)] [] h := by
    refine fx_lload (pc := 38) F rfl dX6_sums_38 ?_
    cases hf
    exact fx_lreturn (pc := 40) F K dX6_sums_40
  refine fx_loop_J (Hd := (fun z : Int × Int => fx_J M G Λ 8 6 [some (8, this_0), some (1, from0_0), none, some (0, first_0), some (0, n_0), some (1, z.1), none, some (0, z.2)] [] h)) (Ex := (fun z : Int × Int => fx_J M G Λ 8 38 [some (8, this_0), some (1, from0_0), none, some (0, first_0), some (0, n_0), some (1, z.1), none, some (0, z.2)] [] h)) ?_ Fu _ _ e18 hE19
  rintro ⟨h_10, k_11⟩ o9 eq12 ih ex
  unfold s_X6_sums_1 at eq12
  show fx_J M G Λ 8 6 [some (8, this_0), some (1, from0_0), none, some (0, first_0), some (0, n_0), some (1, h_10), none, some (0, k_11)] [] h
  refine fx_iload (pc := 6) F rfl dX6_sums_6 ?_
  refine fx_iload (pc := 8) F rfl dX6_sums_8 ?_
  refine fx_nlt (pc := 10) F 38 (by decide) dX6_sums_10 (fun c13 => ?_) (fun c13 => ?_)
  · have eq12 := (if_pos c13).symm.trans eq12
    refine fx_ldc2 (pc := 13) (z := 31) F (by decide) ⟨by decide, by decide⟩ wK_X6_276 dX6_sums_13 ?_
    refine fx_lload (pc := 16) F rfl dX6_sums_16 ?_
    refine fx_lmul (pc := 18) F dX6_sums_18 ?_
    refine fx_aload_n (pc := 19) (t := 6) F 0 rfl rfl dX6_sums_19 ?_
    refine fx_gR (pc := 20) F 6 0 0 8 rfl kC_X6 (by decide) rfl wF_X6_7 dX6_sums_20 ?_
    refine fx_iload_n (pc := 23) F 3 rfl rfl dX6_sums_23 ?_
    refine fx_iload (pc := 24) F rfl dX6_sums_24 ?_
    refine fx_iadd (pc := 26) F dX6_sums_26 ?_
    obtain ⟨v14, e15, eq12⟩ := fx_bnd eq12
    refine fx_raldI (pc := 27) F e15 dX6_sums_27 ?_
    refine fx_ri2l (pc := 28) F dX6_sums_28 ?_
    refine fx_ladd (pc := 29) F dX6_sums_29 ?_
    refine fx_lstore (pc := 30) (ls' := [some (8, this_0), some (1, from0_0), none, some (0, first_0), some (0, n_0), some (1, (fx_wl ((fx_wl (31 * h_10)) + v14))), none, some (0, k_11)]) F (by decide) rfl rfl dX6_sums_30 ?_
    refine fx_iinc (pc := 32) (ls' := [some (8, this_0), some (1, from0_0), none, some (0, first_0), some (0, n_0), some (1, (fx_wl ((fx_wl (31 * h_10)) + v14))), none, some (0, (fx_w (k_11 + 1)))]) F (by decide) rfl rfl rfl dX6_sums_32 ?_
    refine fx_goto (pc := 35) F 6 (by decide) dX6_sums_35 ?_
    cases eq12
    exact ih _ rfl
  · have eq12 := (if_neg c13).symm.trans eq12
    cases eq12
    exact ex _ rfl
def s_X6_digest_1 (Fu : Nat) (Λ : fx_L) (this_3 : Int) (h : fx_H) : Int × Int → Option ((Int × Int) ⊕ (Int × Int)) := fun (h_1, what_2) =>
  if what_2 < 5 then
    (f_X6_counted Fu Λ this_3 what_2 h).bind fun v6 =>
    some (.inl ((fx_wl ((fx_wl (31 * h_1)) + v6)), (fx_w (what_2 + 1))))
  else
    some (.inr (h_1, what_2))
def s_X6_digest_2 (Fu : Nat) (Λ : fx_L) (this_30 : Int) (h : fx_H) : Int × Int → Option ((Int × Int) ⊕ (Int × Int)) := fun (h_28, p_29) =>
  (f_X6_people Fu Λ this_30 h).bind fun v32 =>
  if p_29 < v32 then
    (f_X6_hours Fu Λ this_30 h).bind fun v35 =>
    (f_X6_sums Fu Λ this_30 h_28 (fx_w (19 + (fx_w (5 * p_29)))) v35 h).bind fun v37 =>
    (f_X6_things Fu Λ this_30 h).bind fun v39 =>
    (f_X6_sums Fu Λ this_30 v37 (fx_w (44 + (fx_w (9 * p_29)))) v39 h).bind fun v41 =>
    (fx_rd Λ h (fx_tg Λ this_30 0) (fx_w (89 + p_29))).bind fun v43 =>
    some (.inl ((fx_wl ((fx_wl (31 * v41)) + v43)), (fx_w (p_29 + 1))))
  else
    some (.inr (h_28, p_29))
def f_X6_digest (Fu : Nat) (Λ : fx_L) (this_0 : Int) (h : fx_H) : Option (Int) :=
  Option.bind (fx_loop (s_X6_digest_1 Fu Λ this_0 h) Fu (751, 0)) fun (h_14, what_15) =>
  (f_X6_things Fu Λ this_0 h).bind fun v18 =>
  (f_X6_sums Fu Λ this_0 h_14 1 v18 h).bind fun v20 =>
  (f_X6_sums Fu Λ this_0 v20 12 2 h).bind fun v22 =>
  (f_X6_hours Fu Λ this_0 h).bind fun v24 =>
  (f_X6_sums Fu Λ this_0 v22 14 v24 h).bind fun v26 =>
  Option.bind (fx_loop (s_X6_digest_2 Fu Λ this_0 h) Fu (v26, 0)) fun (h_61, p_62) =>
  some (fx_wl ((fx_wl (31 * (fx_wl ((fx_wl (31 * h_61)) + (h this_0 1000004))))) + (h this_0 1000005)))
abbrev rm_X6_digest : Room := { frames := 2, cells := 0, slots := 0, locals := 41 }
set_option maxRecDepth 100000 in
set_option maxHeartbeats 4000000 in
theorem m_X6_digest (Fu : Nat) (Λ : fx_L) (this_0 : Int) (h : fx_H) (r : Int) (hf : f_X6_digest Fu Λ this_0 h = some r) : fx_Met yX6_digest cX6_digest 4 (some .long) rm_X6_digest Λ [(8, this_0)] h (some (1, r)) h := by
  unfold f_X6_digest at hf
  refine fx_enter (ls := [some (8, this_0), none, none, none]) (by decide) (Nat.le_of_ble_eq_true rfl) rfl (fun M G F K => ?_)
  refine fx_ldc2 (pc := 0) (z := 751) F (by decide) ⟨by decide, by decide⟩ wK_X6_278 dX6_digest_0 ?_
  refine fx_lstore_n (pc := 3) (ls' := [some (8, this_0), some (1, 751), none, none]) F 1 rfl (by decide) rfl rfl dX6_digest_3 ?_
  refine fx_iconst (pc := 4) F ⟨by decide, by decide⟩ dX6_digest_4 ?_
  refine fx_istore_n (pc := 5) (ls' := [some (8, this_0), some (1, 751), none, some (0, 0)]) F 3 rfl (by decide) rfl rfl dX6_digest_5 ?_
  obtain ⟨⟨h_14, what_15⟩, e16, hf⟩ := fx_bnd hf
  have hE17 : fx_J M G Λ 4 30 [some (8, this_0), some (1, h_14), none, some (0, what_15)] [] h := by
    refine fx_aload_n (pc := 30) (t := 6) F 0 rfl rfl dX6_digest_30 ?_
    refine fx_lload_n (pc := 31) F 1 rfl rfl dX6_digest_31 ?_
    refine fx_iconst (pc := 32) F ⟨by decide, by decide⟩ dX6_digest_32 ?_
    refine fx_aload_n (pc := 33) (t := 6) F 0 rfl rfl dX6_digest_33 ?_
    obtain ⟨v18, e19, hf⟩ := fx_bnd hf
    refine fx_cV (pc := 34) F 6 kC_X6 [] this_0 [(0, 1), (1, h_14), (8, this_0)] (m_X6_things Fu Λ this_0 h _ e19) kD_X6_things kI_X6_things rfl wM_X6_70 ⟨rfl, rfl⟩ ⟨by decide, by decide⟩ (Nat.le_of_ble_eq_true rfl) rfl dX6_digest_34 ?_
    obtain ⟨v20, e21, hf⟩ := fx_bnd hf
    refine fx_cV (pc := 37) F 6 kC_X6 [(1, h_14), (0, 1), (0, v18)] this_0 [] (m_X6_sums Fu Λ this_0 h_14 1 v18 h _ e21) kD_X6_sums kI_X6_sums rfl wM_X6_280 ⟨rfl, rfl⟩ ⟨by decide, by decide⟩ (Nat.le_of_ble_eq_true rfl) rfl dX6_digest_37 ?_
    refine fx_lstore_n (pc := 40) (ls' := [some (8, this_0), some (1, v20), none, some (0, what_15)]) F 1 rfl (by decide) rfl rfl dX6_digest_40 ?_
    refine fx_aload_n (pc := 41) (t := 6) F 0 rfl rfl dX6_digest_41 ?_
    refine fx_lload_n (pc := 42) F 1 rfl rfl dX6_digest_42 ?_
    refine fx_bipush (pc := 43) F ⟨by decide, by decide⟩ (by decide) dX6_digest_43 ?_
    refine fx_iconst (pc := 45) F ⟨by decide, by decide⟩ dX6_digest_45 ?_
    obtain ⟨v22, e23, hf⟩ := fx_bnd hf
    refine fx_cV (pc := 46) F 6 kC_X6 [(1, v20), (0, 12), (0, 2)] this_0 [] (m_X6_sums Fu Λ this_0 v20 12 2 h _ e23) kD_X6_sums kI_X6_sums rfl wM_X6_280 ⟨rfl, rfl⟩ ⟨by decide, by decide⟩ (Nat.le_of_ble_eq_true rfl) rfl dX6_digest_46 ?_
    refine fx_lstore_n (pc := 49) (ls' := [some (8, this_0), some (1, v22), none, some (0, what_15)]) F 1 rfl (by decide) rfl rfl dX6_digest_49 ?_
    refine fx_aload_n (pc := 50) (t := 6) F 0 rfl rfl dX6_digest_50 ?_
    refine fx_lload_n (pc := 51) F 1 rfl rfl dX6_digest_51 ?_
    refine fx_bipush (pc := 52) F ⟨by decide, by decide⟩ (by decide) dX6_digest_52 ?_
    refine fx_aload_n (pc := 54) (t := 6) F 0 rfl rfl dX6_digest_54 ?_
    obtain ⟨v24, e25, hf⟩ := fx_bnd hf
    refine fx_cV (pc := 55) F 6 kC_X6 [] this_0 [(0, 14), (1, v22), (8, this_0)] (m_X6_hours Fu Λ this_0 h _ e25) kD_X6_hours kI_X6_hours rfl wM_X6_81 ⟨rfl, rfl⟩ ⟨by decide, by decide⟩ (Nat.le_of_ble_eq_true rfl) rfl dX6_digest_55 ?_
    obtain ⟨v26, e27, hf⟩ := fx_bnd hf
    refine fx_cV (pc := 58) F 6 kC_X6 [(1, v22), (0, 14), (0, v24)] this_0 [] (m_X6_sums Fu Λ this_0 v22 14 v24 h _ e27) kD_X6_sums kI_X6_sums rfl wM_X6_280 ⟨rfl, rfl⟩ ⟨by decide, by decide⟩ (Nat.le_of_ble_eq_true rfl) rfl dX6_digest_58 ?_
    refine fx_lstore_n (pc := 61) (ls' := [some (8, this_0), some (1, v26), none, some (0, what_15)]) F 1 rfl (by decide) rfl rfl dX6_digest_61 ?_
    refine fx_iconst (pc := 62) F ⟨by decide, by decide⟩ dX6_digest_62 ?_
    refine fx_istore_n (pc := 63) (ls' := [some (8, this_0), some (1, v26), none, some (0, 0)]) F 3 rfl (by decide) rfl rfl dX6_digest_63 ?_
    obtain ⟨⟨h_61, p_62⟩, e63, hf⟩ := fx_bnd hf
    have hE64 : fx_J M G Λ 4 128 [some (8, this_0), some (1, h_61), none, some (0, p_62)] [] h := by
      refine fx_ldc2 (pc := 128) (z := 31) F (by decide) ⟨by decide, by decide⟩ wK_X6_276 dX6_digest_128 ?_
      refine fx_ldc2 (pc := 131) (z := 31) F (by decide) ⟨by decide, by decide⟩ wK_X6_276 dX6_digest_131 ?_
      refine fx_lload_n (pc := 134) F 1 rfl rfl dX6_digest_134 ?_
      refine fx_lmul (pc := 135) F dX6_digest_135 ?_
      refine fx_aload_n (pc := 136) (t := 6) F 0 rfl rfl dX6_digest_136 ?_
      refine fx_gL (pc := 137) F 6 4 1000004 rfl kC_X6 rfl wF_X6_197 dX6_digest_137 ?_
      refine fx_ladd (pc := 140) F dX6_digest_140 ?_
      refine fx_lmul (pc := 141) F dX6_digest_141 ?_
      refine fx_aload_n (pc := 142) (t := 6) F 0 rfl rfl dX6_digest_142 ?_
      refine fx_gL (pc := 143) F 6 5 1000005 rfl kC_X6 rfl wF_X6_23 dX6_digest_143 ?_
      refine fx_ladd (pc := 146) F dX6_digest_146 ?_
      cases hf
      exact fx_lreturn (pc := 147) F K dX6_digest_147
    refine fx_loop_J (Hd := (fun z : Int × Int => fx_J M G Λ 4 64 [some (8, this_0), some (1, z.1), none, some (0, z.2)] [] h)) (Ex := (fun z : Int × Int => fx_J M G Λ 4 128 [some (8, this_0), some (1, z.1), none, some (0, z.2)] [] h)) ?_ Fu _ _ e63 hE64
    rintro ⟨h_45, p_46⟩ o9 eq47 ih ex
    unfold s_X6_digest_2 at eq47
    show fx_J M G Λ 4 64 [some (8, this_0), some (1, h_45), none, some (0, p_46)] [] h
    refine fx_iload_n (pc := 64) F 3 rfl rfl dX6_digest_64 ?_
    refine fx_aload_n (pc := 65) (t := 6) F 0 rfl rfl dX6_digest_65 ?_
    obtain ⟨v48, e49, eq47⟩ := fx_bnd eq47
    refine fx_cV (pc := 66) F 6 kC_X6 [] this_0 [(0, p_46)] (m_X6_people Fu Λ this_0 h _ e49) kD_X6_people kI_X6_people rfl wM_X6_78 ⟨rfl, rfl⟩ ⟨by decide, by decide⟩ (Nat.le_of_ble_eq_true rfl) rfl dX6_digest_66 ?_
    refine fx_nlt (pc := 69) F 128 (by decide) dX6_digest_69 (fun c50 => ?_) (fun c50 => ?_)
    · have eq47 := (if_pos c50).symm.trans eq47
      refine fx_aload_n (pc := 72) (t := 6) F 0 rfl rfl dX6_digest_72 ?_
      refine fx_lload_n (pc := 73) F 1 rfl rfl dX6_digest_73 ?_
      refine fx_bipush (pc := 74) F ⟨by decide, by decide⟩ (by decide) dX6_digest_74 ?_
      refine fx_iconst (pc := 76) F ⟨by decide, by decide⟩ dX6_digest_76 ?_
      refine fx_iload_n (pc := 77) F 3 rfl rfl dX6_digest_77 ?_
      refine fx_imul (pc := 78) F dX6_digest_78 ?_
      refine fx_iadd (pc := 79) F dX6_digest_79 ?_
      refine fx_aload_n (pc := 80) (t := 6) F 0 rfl rfl dX6_digest_80 ?_
      obtain ⟨v51, e52, eq47⟩ := fx_bnd eq47
      refine fx_cV (pc := 81) F 6 kC_X6 [] this_0 [(0, (fx_w (19 + (fx_w (5 * p_46))))), (1, h_45), (8, this_0)] (m_X6_hours Fu Λ this_0 h _ e52) kD_X6_hours kI_X6_hours rfl wM_X6_81 ⟨rfl, rfl⟩ ⟨by decide, by decide⟩ (Nat.le_of_ble_eq_true rfl) rfl dX6_digest_81 ?_
      obtain ⟨v53, e54, eq47⟩ := fx_bnd eq47
      refine fx_cV (pc := 84) F 6 kC_X6 [(1, h_45), (0, (fx_w (19 + (fx_w (5 * p_46))))), (0, v51)] this_0 [] (m_X6_sums Fu Λ this_0 h_45 (fx_w (19 + (fx_w (5 * p_46)))) v51 h _ e54) kD_X6_sums kI_X6_sums rfl wM_X6_280 ⟨rfl, rfl⟩ ⟨by decide, by decide⟩ (Nat.le_of_ble_eq_true rfl) rfl dX6_digest_84 ?_
      refine fx_lstore_n (pc := 87) (ls' := [some (8, this_0), some (1, v53), none, some (0, p_46)]) F 1 rfl (by decide) rfl rfl dX6_digest_87 ?_
      refine fx_aload_n (pc := 88) (t := 6) F 0 rfl rfl dX6_digest_88 ?_
      refine fx_lload_n (pc := 89) F 1 rfl rfl dX6_digest_89 ?_
      refine fx_bipush (pc := 90) F ⟨by decide, by decide⟩ (by decide) dX6_digest_90 ?_
      refine fx_bipush (pc := 92) F ⟨by decide, by decide⟩ (by decide) dX6_digest_92 ?_
      refine fx_iload_n (pc := 94) F 3 rfl rfl dX6_digest_94 ?_
      refine fx_imul (pc := 95) F dX6_digest_95 ?_
      refine fx_iadd (pc := 96) F dX6_digest_96 ?_
      refine fx_aload_n (pc := 97) (t := 6) F 0 rfl rfl dX6_digest_97 ?_
      obtain ⟨v55, e56, eq47⟩ := fx_bnd eq47
      refine fx_cV (pc := 98) F 6 kC_X6 [] this_0 [(0, (fx_w (44 + (fx_w (9 * p_46))))), (1, v53), (8, this_0)] (m_X6_things Fu Λ this_0 h _ e56) kD_X6_things kI_X6_things rfl wM_X6_70 ⟨rfl, rfl⟩ ⟨by decide, by decide⟩ (Nat.le_of_ble_eq_true rfl) rfl dX6_digest_98 ?_
      obtain ⟨v57, e58, eq47⟩ := fx_bnd eq47
      refine fx_cV (pc := 101) F 6 kC_X6 [(1, v53), (0, (fx_w (44 + (fx_w (9 * p_46))))), (0, v55)] this_0 [] (m_X6_sums Fu Λ this_0 v53 (fx_w (44 + (fx_w (9 * p_46)))) v55 h _ e58) kD_X6_sums kI_X6_sums rfl wM_X6_280 ⟨rfl, rfl⟩ ⟨by decide, by decide⟩ (Nat.le_of_ble_eq_true rfl) rfl dX6_digest_101 ?_
      refine fx_lstore_n (pc := 104) (ls' := [some (8, this_0), some (1, v57), none, some (0, p_46)]) F 1 rfl (by decide) rfl rfl dX6_digest_104 ?_
      refine fx_ldc2 (pc := 105) (z := 31) F (by decide) ⟨by decide, by decide⟩ wK_X6_276 dX6_digest_105 ?_
      refine fx_lload_n (pc := 108) F 1 rfl rfl dX6_digest_108 ?_
      refine fx_lmul (pc := 109) F dX6_digest_109 ?_
      refine fx_aload_n (pc := 110) (t := 6) F 0 rfl rfl dX6_digest_110 ?_
      refine fx_gR (pc := 111) F 6 0 0 8 rfl kC_X6 (by decide) rfl wF_X6_7 dX6_digest_111 ?_
      refine fx_bipush (pc := 114) F ⟨by decide, by decide⟩ (by decide) dX6_digest_114 ?_
      refine fx_iload_n (pc := 116) F 3 rfl rfl dX6_digest_116 ?_
      refine fx_iadd (pc := 117) F dX6_digest_117 ?_
      obtain ⟨v59, e60, eq47⟩ := fx_bnd eq47
      refine fx_raldI (pc := 118) F e60 dX6_digest_118 ?_
      refine fx_ri2l (pc := 119) F dX6_digest_119 ?_
      refine fx_ladd (pc := 120) F dX6_digest_120 ?_
      refine fx_lstore_n (pc := 121) (ls' := [some (8, this_0), some (1, (fx_wl ((fx_wl (31 * v57)) + v59))), none, some (0, p_46)]) F 1 rfl (by decide) rfl rfl dX6_digest_121 ?_
      refine fx_iinc (pc := 122) (ls' := [some (8, this_0), some (1, (fx_wl ((fx_wl (31 * v57)) + v59))), none, some (0, (fx_w (p_46 + 1)))]) F (by decide) rfl rfl rfl dX6_digest_122 ?_
      refine fx_goto (pc := 125) F 64 (by decide) dX6_digest_125 ?_
      cases eq47
      exact ih _ rfl
    · have eq47 := (if_neg c50).symm.trans eq47
      cases eq47
      exact ex _ rfl
  refine fx_loop_J (Hd := (fun z : Int × Int => fx_J M G Λ 4 6 [some (8, this_0), some (1, z.1), none, some (0, z.2)] [] h)) (Ex := (fun z : Int × Int => fx_J M G Λ 4 30 [some (8, this_0), some (1, z.1), none, some (0, z.2)] [] h)) ?_ Fu _ _ e16 hE17
  rintro ⟨h_8, what_9⟩ o9 eq10 ih ex
  unfold s_X6_digest_1 at eq10
  show fx_J M G Λ 4 6 [some (8, this_0), some (1, h_8), none, some (0, what_9)] [] h
  refine fx_iload_n (pc := 6) F 3 rfl rfl dX6_digest_6 ?_
  refine fx_iconst (pc := 7) F ⟨by decide, by decide⟩ dX6_digest_7 ?_
  refine fx_nlt (pc := 8) F 30 (by decide) dX6_digest_8 (fun c11 => ?_) (fun c11 => ?_)
  · have eq10 := (if_pos c11).symm.trans eq10
    refine fx_ldc2 (pc := 11) (z := 31) F (by decide) ⟨by decide, by decide⟩ wK_X6_276 dX6_digest_11 ?_
    refine fx_lload_n (pc := 14) F 1 rfl rfl dX6_digest_14 ?_
    refine fx_lmul (pc := 15) F dX6_digest_15 ?_
    refine fx_aload_n (pc := 16) (t := 6) F 0 rfl rfl dX6_digest_16 ?_
    refine fx_iload_n (pc := 17) F 3 rfl rfl dX6_digest_17 ?_
    obtain ⟨v12, e13, eq10⟩ := fx_bnd eq10
    refine fx_cV (pc := 18) F 6 kC_X6 [(0, what_9)] this_0 [(1, (fx_wl (31 * h_8)))] (m_X6_counted Fu Λ this_0 what_9 h _ e13) kD_X6_counted kI_X6_counted rfl wM_X6_273 ⟨rfl, rfl⟩ ⟨by decide, by decide⟩ (Nat.le_of_ble_eq_true rfl) rfl dX6_digest_18 ?_
    refine fx_ri2l (pc := 21) F dX6_digest_21 ?_
    refine fx_ladd (pc := 22) F dX6_digest_22 ?_
    refine fx_lstore_n (pc := 23) (ls' := [some (8, this_0), some (1, (fx_wl ((fx_wl (31 * h_8)) + v12))), none, some (0, what_9)]) F 1 rfl (by decide) rfl rfl dX6_digest_23 ?_
    refine fx_iinc (pc := 24) (ls' := [some (8, this_0), some (1, (fx_wl ((fx_wl (31 * h_8)) + v12))), none, some (0, (fx_w (what_9 + 1)))]) F (by decide) rfl rfl rfl dX6_digest_24 ?_
    refine fx_goto (pc := 27) F 6 (by decide) dX6_digest_27 ?_
    cases eq10
    exact ih _ rfl
  · have eq10 := (if_neg c11).symm.trans eq10
    cases eq10
    exact ex _ rfl
