def f_X6_readsNeed (Fu : Nat) (Λ : fx_L) (this_0 : Int) (h : fx_H) : Option (Int × fx_H) :=
  (f_X6_goOn Fu Λ this_0 (fx_up h this_0 23 1)).bind fun h1 =>
  Option.bind (
    (fx_rd Λ h1 (fx_tg Λ this_0 22) 10).bind fun v8 =>
    (f_X6_takes Fu Λ this_0 0 0 (fx_w (v8 - 1)) h1).bind fun (v10, h11) =>
    if v10 = 0 then
      some (true, h11)
    else
      (fx_rd Λ h11 (fx_tg Λ this_0 22) 0).bind fun v14 =>
      (f_X6_takes Fu Λ this_0 1 0 (fx_w (v14 - 1)) h11).bind fun (v16, h17) =>
      if v16 = 0 then
        some (true, h17)
      else
        some (false, h17)
  ) fun (b3, h7) =>
  if b3 = true then
    some (0, h7)
  else
    (fx_rd Λ h7 (fx_tg Λ this_0 24) 0).bind fun v21 =>
    (fx_rd Λ h7 (fx_tg Λ this_0 24) 1).bind fun v23 =>
    (fx_rd Λ h7 (fx_tg Λ this_0 22) 11).bind fun v25 =>
    (fx_rd Λ h7 (fx_tg Λ this_0 24) 0).bind fun v27 =>
    (f_X6_needsOf Fu Λ (fx_tg Λ this_0 22) v27 h7).bind fun v29 =>
    (fx_rd Λ h7 (fx_tg Λ this_0 22) (fx_w ((fx_w (44 + (fx_w (9 * v21)))) + v23))).bind fun v31 =>
    (f_X6_takes Fu Λ this_0 2 0 (fx_w ((fx_w (v25 - v29)) + v31)) h7).bind fun (v33, h34) =>
    if v33 = 0 then
      some (0, h34)
    else
      (fx_rd Λ h34 (fx_tg Λ this_0 24) 2).bind fun v37 =>
      (fx_wr Λ h34 (fx_tg Λ this_0 22) (fx_w ((fx_w (44 + (fx_w (9 * v21)))) + v23)) v37).bind fun h39 =>
      some (1, h39)
abbrev rm_X6_readsNeed : Room := { frames := 5, cells := 0, slots := 0, locals := 112 }
set_option maxRecDepth 100000 in
set_option maxHeartbeats 4000000 in
theorem m_X6_readsNeed (Fu : Nat) (Λ : fx_L) (this_0 : Int) (h : fx_H) (r : Int) (ho : fx_H) (hf : f_X6_readsNeed Fu Λ this_0 h = some (r, ho)) : fx_Met yX6_readsNeed cX6_readsNeed 3 (some .boolean) rm_X6_readsNeed Λ [(8, this_0)] h (some (0, r)) ho := by
  unfold f_X6_readsNeed at hf
  refine fx_enter (ls := [some (8, this_0), none, none]) (by decide) (Nat.le_of_ble_eq_true rfl) rfl (fun M G F K => ?_)
  refine fx_aload_n (pc := 0) (t := 6) F 0 rfl rfl dX6_readsNeed_0 ?_
  refine fx_iconst (pc := 1) F ⟨by decide, by decide⟩ dX6_readsNeed_1 ?_
  refine fx_pZ (pc := 2) F 6 23 23 rfl kC_X6 rfl rfl (by decide +kernel) wF_X6_244 (Or.inr rfl) dX6_readsNeed_2 ?_
  refine fx_aload_n (pc := 5) (t := 6) F 0 rfl rfl dX6_readsNeed_5 ?_
  obtain ⟨h1, e2, hf⟩ := fx_bnd hf
  refine fx_cVv (pc := 6) F 6 kC_X6 [] this_0 [] (m_X6_goOn Fu Λ this_0 (fx_up h this_0 23 1) _ e2) kD_X6_goOn kI_X6_goOn rfl wM_X6_237 ⟨rfl, rfl⟩ ⟨by decide, by decide⟩ (Nat.le_of_ble_eq_true rfl) rfl dX6_readsNeed_6 ?_
  obtain ⟨⟨b3, h7⟩, e4, hf⟩ := fx_bnd hf
  have hT5 : b3 = true → fx_J M G Λ 3 44 [some (8, this_0), none, none] [] h7 := fun c20 => by
    have hf := (if_pos c20).symm.trans hf
    refine fx_iconst (pc := 44) F ⟨by decide, by decide⟩ dX6_readsNeed_44 ?_
    cases hf
    exact fx_zreturn (pc := 45) F (Or.inl rfl) K dX6_readsNeed_45
  have hF6 : ¬ b3 = true → fx_J M G Λ 3 46 [some (8, this_0), none, none] [] h7 := fun c20 => by
    have hf := (if_neg c20).symm.trans hf
    refine fx_bipush (pc := 46) F ⟨by decide, by decide⟩ (by decide) dX6_readsNeed_46 ?_
    refine fx_bipush (pc := 48) F ⟨by decide, by decide⟩ (by decide) dX6_readsNeed_48 ?_
    refine fx_aload_n (pc := 50) (t := 6) F 0 rfl rfl dX6_readsNeed_50 ?_
    refine fx_gR (pc := 51) F 6 24 24 8 rfl kC_X6 (by decide) rfl wF_X6_63 dX6_readsNeed_51 ?_
    refine fx_iconst (pc := 54) F ⟨by decide, by decide⟩ dX6_readsNeed_54 ?_
    obtain ⟨v21, e22, hf⟩ := fx_bnd hf
    refine fx_raldI (pc := 55) F e22 dX6_readsNeed_55 ?_
    refine fx_imul (pc := 56) F dX6_readsNeed_56 ?_
    refine fx_iadd (pc := 57) F dX6_readsNeed_57 ?_
    refine fx_aload_n (pc := 58) (t := 6) F 0 rfl rfl dX6_readsNeed_58 ?_
    refine fx_gR (pc := 59) F 6 24 24 8 rfl kC_X6 (by decide) rfl wF_X6_63 dX6_readsNeed_59 ?_
    refine fx_iconst (pc := 62) F ⟨by decide, by decide⟩ dX6_readsNeed_62 ?_
    obtain ⟨v23, e24, hf⟩ := fx_bnd hf
    refine fx_raldI (pc := 63) F e24 dX6_readsNeed_63 ?_
    refine fx_iadd (pc := 64) F dX6_readsNeed_64 ?_
    refine fx_istore_n (pc := 65) (ls' := [some (8, this_0), some (0, (fx_w ((fx_w (44 + (fx_w (9 * v21)))) + v23))), none]) F 1 rfl (by decide) rfl rfl dX6_readsNeed_65 ?_
    refine fx_aload_n (pc := 66) (t := 6) F 0 rfl rfl dX6_readsNeed_66 ?_
    refine fx_gR (pc := 67) F 6 22 22 8 rfl kC_X6 (by decide) rfl wF_X6_60 dX6_readsNeed_67 ?_
    refine fx_bipush (pc := 70) F ⟨by decide, by decide⟩ (by decide) dX6_readsNeed_70 ?_
    obtain ⟨v25, e26, hf⟩ := fx_bnd hf
    refine fx_raldI (pc := 72) F e26 dX6_readsNeed_72 ?_
    refine fx_aload_n (pc := 73) (t := 6) F 0 rfl rfl dX6_readsNeed_73 ?_
    refine fx_gR (pc := 74) F 6 22 22 8 rfl kC_X6 (by decide) rfl wF_X6_60 dX6_readsNeed_74 ?_
    refine fx_aload_n (pc := 77) (t := 6) F 0 rfl rfl dX6_readsNeed_77 ?_
    refine fx_gR (pc := 78) F 6 24 24 8 rfl kC_X6 (by decide) rfl wF_X6_63 dX6_readsNeed_78 ?_
    refine fx_iconst (pc := 81) F ⟨by decide, by decide⟩ dX6_readsNeed_81 ?_
    obtain ⟨v27, e28, hf⟩ := fx_bnd hf
    refine fx_raldI (pc := 82) F e28 dX6_readsNeed_82 ?_
    obtain ⟨v29, e30, hf⟩ := fx_bnd hf
    refine fx_cS (pc := 83) F [(10, (fx_tg Λ this_0 22)), (0, v27)] [(0, v25)] (m_X6_needsOf Fu Λ (fx_tg Λ this_0 22) v27 h7 _ e30) kD_X6_needsOf wSt_X6_needsOf wM_X6_108 ⟨rfl, rfl⟩ ⟨by decide, by decide⟩ (Nat.le_of_ble_eq_true rfl) rfl dX6_readsNeed_83 ?_
    refine fx_isub (pc := 86) F dX6_readsNeed_86 ?_
    refine fx_aload_n (pc := 87) (t := 6) F 0 rfl rfl dX6_readsNeed_87 ?_
    refine fx_gR (pc := 88) F 6 22 22 8 rfl kC_X6 (by decide) rfl wF_X6_60 dX6_readsNeed_88 ?_
    refine fx_iload_n (pc := 91) F 1 rfl rfl dX6_readsNeed_91 ?_
    obtain ⟨v31, e32, hf⟩ := fx_bnd hf
    refine fx_raldI (pc := 92) F e32 dX6_readsNeed_92 ?_
    refine fx_iadd (pc := 93) F dX6_readsNeed_93 ?_
    refine fx_istore_n (pc := 94) (ls' := [some (8, this_0), some (0, (fx_w ((fx_w (44 + (fx_w (9 * v21)))) + v23))), some (0, (fx_w ((fx_w (v25 - v29)) + v31)))]) F 2 rfl (by decide) rfl rfl dX6_readsNeed_94 ?_
    refine fx_aload_n (pc := 95) (t := 6) F 0 rfl rfl dX6_readsNeed_95 ?_
    refine fx_iconst (pc := 96) F ⟨by decide, by decide⟩ dX6_readsNeed_96 ?_
    refine fx_iconst (pc := 97) F ⟨by decide, by decide⟩ dX6_readsNeed_97 ?_
    refine fx_iload_n (pc := 98) F 2 rfl rfl dX6_readsNeed_98 ?_
    obtain ⟨⟨v33, h34⟩, e35, hf⟩ := fx_bnd hf
    refine fx_cV (pc := 99) F 6 kC_X6 [(0, 2), (0, 0), (0, (fx_w ((fx_w (v25 - v29)) + v31)))] this_0 [] (m_X6_takes Fu Λ this_0 2 0 (fx_w ((fx_w (v25 - v29)) + v31)) h7 _ _ e35) kD_X6_takes kI_X6_takes rfl wM_X6_240 ⟨rfl, rfl⟩ ⟨by decide, by decide⟩ (Nat.le_of_ble_eq_true rfl) rfl dX6_readsNeed_99 ?_
    refine fx_nzeq (pc := 102) F 107 (by decide) dX6_readsNeed_102 (fun c36 => ?_) (fun c36 => ?_)
    · have hf := (if_pos c36).symm.trans hf
      refine fx_iconst (pc := 105) F ⟨by decide, by decide⟩ dX6_readsNeed_105 ?_
      cases hf
      exact fx_zreturn (pc := 106) F (Or.inl rfl) K dX6_readsNeed_106
    · have hf := (if_neg c36).symm.trans hf
      refine fx_aload_n (pc := 107) (t := 6) F 0 rfl rfl dX6_readsNeed_107 ?_
      refine fx_gR (pc := 108) F 6 22 22 8 rfl kC_X6 (by decide) rfl wF_X6_60 dX6_readsNeed_108 ?_
      refine fx_iload_n (pc := 111) F 1 rfl rfl dX6_readsNeed_111 ?_
      refine fx_aload_n (pc := 112) (t := 6) F 0 rfl rfl dX6_readsNeed_112 ?_
      refine fx_gR (pc := 113) F 6 24 24 8 rfl kC_X6 (by decide) rfl wF_X6_63 dX6_readsNeed_113 ?_
      refine fx_iconst (pc := 116) F ⟨by decide, by decide⟩ dX6_readsNeed_116 ?_
      obtain ⟨v37, e38, hf⟩ := fx_bnd hf
      refine fx_raldI (pc := 117) F e38 dX6_readsNeed_117 ?_
      obtain ⟨h39, e40, hf⟩ := fx_bnd hf
      refine fx_rastI (pc := 118) F e40 dX6_readsNeed_118 ?_
      refine fx_iconst (pc := 119) F ⟨by decide, by decide⟩ dX6_readsNeed_119 ?_
      cases hf
      exact fx_zreturn (pc := 120) F (Or.inr rfl) K dX6_readsNeed_120
  refine fx_aload_n (pc := 9) (t := 6) F 0 rfl rfl dX6_readsNeed_9 ?_
  refine fx_iconst (pc := 10) F ⟨by decide, by decide⟩ dX6_readsNeed_10 ?_
  refine fx_iconst (pc := 11) F ⟨by decide, by decide⟩ dX6_readsNeed_11 ?_
  refine fx_aload_n (pc := 12) (t := 6) F 0 rfl rfl dX6_readsNeed_12 ?_
  refine fx_gR (pc := 13) F 6 22 22 8 rfl kC_X6 (by decide) rfl wF_X6_60 dX6_readsNeed_13 ?_
  refine fx_bipush (pc := 16) F ⟨by decide, by decide⟩ (by decide) dX6_readsNeed_16 ?_
  obtain ⟨v8, e9, e4⟩ := fx_bnd e4
  refine fx_raldI (pc := 18) F e9 dX6_readsNeed_18 ?_
  refine fx_iconst (pc := 19) F ⟨by decide, by decide⟩ dX6_readsNeed_19 ?_
  refine fx_isub (pc := 20) F dX6_readsNeed_20 ?_
  obtain ⟨⟨v10, h11⟩, e12, e4⟩ := fx_bnd e4
  refine fx_cV (pc := 21) F 6 kC_X6 [(0, 0), (0, 0), (0, (fx_w (v8 - 1)))] this_0 [] (m_X6_takes Fu Λ this_0 0 0 (fx_w (v8 - 1)) h1 _ _ e12) kD_X6_takes kI_X6_takes rfl wM_X6_240 ⟨rfl, rfl⟩ ⟨by decide, by decide⟩ (Nat.le_of_ble_eq_true rfl) rfl dX6_readsNeed_21 ?_
  refine fx_jzeq (pc := 24) F 44 (by decide) dX6_readsNeed_24 (fun c13 => ?_) (fun c13 => ?_)
  · have e4 := (if_pos c13).symm.trans e4
    cases e4
    exact hT5 (by decide)
  · have e4 := (if_neg c13).symm.trans e4
    refine fx_aload_n (pc := 27) (t := 6) F 0 rfl rfl dX6_readsNeed_27 ?_
    refine fx_iconst (pc := 28) F ⟨by decide, by decide⟩ dX6_readsNeed_28 ?_
    refine fx_iconst (pc := 29) F ⟨by decide, by decide⟩ dX6_readsNeed_29 ?_
    refine fx_aload_n (pc := 30) (t := 6) F 0 rfl rfl dX6_readsNeed_30 ?_
    refine fx_gR (pc := 31) F 6 22 22 8 rfl kC_X6 (by decide) rfl wF_X6_60 dX6_readsNeed_31 ?_
    refine fx_iconst (pc := 34) F ⟨by decide, by decide⟩ dX6_readsNeed_34 ?_
    obtain ⟨v14, e15, e4⟩ := fx_bnd e4
    refine fx_raldI (pc := 35) F e15 dX6_readsNeed_35 ?_
    refine fx_iconst (pc := 36) F ⟨by decide, by decide⟩ dX6_readsNeed_36 ?_
    refine fx_isub (pc := 37) F dX6_readsNeed_37 ?_
    obtain ⟨⟨v16, h17⟩, e18, e4⟩ := fx_bnd e4
    refine fx_cV (pc := 38) F 6 kC_X6 [(0, 1), (0, 0), (0, (fx_w (v14 - 1)))] this_0 [] (m_X6_takes Fu Λ this_0 1 0 (fx_w (v14 - 1)) h11 _ _ e18) kD_X6_takes kI_X6_takes rfl wM_X6_240 ⟨rfl, rfl⟩ ⟨by decide, by decide⟩ (Nat.le_of_ble_eq_true rfl) rfl dX6_readsNeed_38 ?_
    refine fx_nzeq (pc := 41) F 46 (by decide) dX6_readsNeed_41 (fun c19 => ?_) (fun c19 => ?_)
    · have e4 := (if_pos c19).symm.trans e4
      cases e4
      exact hT5 (by decide)
    · have e4 := (if_neg c19).symm.trans e4
      cases e4
      exact hF6 (by decide)
def f_X6_readsItem (Fu : Nat) (Λ : fx_L) (this_0 : Int) (h : fx_H) : Option (Int × fx_H) :=
  (f_X6_isWord Fu Λ this_0 116 104 105 110 103 0 h).bind fun v1 =>
  if ¬ v1 = 0 then
    (f_X6_readsThing Fu Λ this_0 h).bind fun (v4, h5) =>
    (fx_zb v4).bind fun z7 =>
    some (z7, h5)
  else
    (f_X6_isWord Fu Λ this_0 112 101 111 112 108 101 h).bind fun v9 =>
    if ¬ v9 = 0 then
      (f_X6_readsSize Fu Λ this_0 10 h).bind fun (v12, h13) =>
      (fx_zb v12).bind fun z15 =>
      some (z15, h13)
    else
      (f_X6_isWord Fu Λ this_0 104 111 117 114 115 0 h).bind fun v17 =>
      if ¬ v17 = 0 then
        (f_X6_readsSize Fu Λ this_0 11 h).bind fun (v20, h21) =>
        (fx_zb v20).bind fun z23 =>
        some (z23, h21)
      else
        (f_X6_isWord Fu Λ this_0 104 111 117 114 0 0 h).bind fun v25 =>
        if ¬ v25 = 0 then
          (f_X6_readsHour Fu Λ this_0 h).bind fun (v28, h29) =>
          (fx_zb v28).bind fun z31 =>
          some (z31, h29)
        else
          (f_X6_isWord Fu Λ this_0 100 111 101 115 0 0 h).bind fun v33 =>
          if ¬ v33 = 0 then
            (f_X6_readsDoes Fu Λ this_0 h).bind fun (v36, h37) =>
            (fx_zb v36).bind fun z39 =>
            some (z39, h37)
          else
            (f_X6_isWord Fu Λ this_0 110 101 101 100 0 0 h).bind fun v41 =>
            if ¬ v41 = 0 then
              (f_X6_readsNeed Fu Λ this_0 h).bind fun (v44, h45) =>
              (fx_zb v44).bind fun z47 =>
              some (z47, h45)
            else
              (f_X6_isWord Fu Λ this_0 108 105 110 101 0 0 h).bind fun v49 =>
              Option.bind (
                if v49 = 0 then
                  (f_X6_isWord Fu Λ this_0 114 105 99 104 0 0 h).bind fun v56 =>
                  if v56 = 0 then
                    some true
                  else
                    some false
                else
                  some false
              ) fun b51 =>
              if b51 = true then
                some (0, h)
              else
                Option.bind (
                  if ((¬ (h this_0 23) = 0) ∨ (v49 = 0)) then
                    some (1 : Int)
                  else
                    some (0 : Int)
                ) fun v60 =>
                (fx_zb v60).bind fun z68 =>
                (f_X6_goOn Fu Λ this_0 (fx_up h this_0 23 z68)).bind fun h70 =>
                Option.bind (
                  if ¬ v49 = 0 then
                    some (4 : Int)
                  else
                    (fx_rd Λ h70 (fx_tg Λ this_0 22) 10).bind fun v76 =>
                    some (fx_w (v76 - 1))
                ) fun v72 =>
                (f_X6_takes Fu Λ this_0 0 0 v72 h70).bind fun (v78, h79) =>
                Option.bind (
                  if ¬ v49 = 0 then
                    some (12 : Int)
                  else
                    some (13 : Int)
                ) fun v81 =>
                (fx_rd Λ h79 (fx_tg Λ this_0 24) 0).bind fun v85 =>
                (fx_wr Λ h79 (fx_tg Λ this_0 22) v81 v85).bind fun h87 =>
                (fx_zb v78).bind fun z89 =>
                some (z89, h87)
abbrev rm_X6_readsItem : Room := { frames := 6, cells := 0, slots := 0, locals := 134 }
set_option maxRecDepth 100000 in
set_option maxHeartbeats 4000000 in
theorem m_X6_readsItem (Fu : Nat) (Λ : fx_L) (this_0 : Int) (h : fx_H) (r : Int) (ho : fx_H) (hf : f_X6_readsItem Fu Λ this_0 h = some (r, ho)) : fx_Met yX6_readsItem cX6_readsItem 3 (some .boolean) rm_X6_readsItem Λ [(8, this_0)] h (some (0, r)) ho := by
  unfold f_X6_readsItem at hf
  refine fx_enter (ls := [some (8, this_0), none, none]) (by decide) (Nat.le_of_ble_eq_true rfl) rfl (fun M G F K => ?_)
  refine fx_aload_n (pc := 0) (t := 6) F 0 rfl rfl dX6_readsItem_0 ?_
  refine fx_bipush (pc := 1) F ⟨by decide, by decide⟩ (by decide) dX6_readsItem_1 ?_
  refine fx_bipush (pc := 3) F ⟨by decide, by decide⟩ (by decide) dX6_readsItem_3 ?_
  refine fx_bipush (pc := 5) F ⟨by decide, by decide⟩ (by decide) dX6_readsItem_5 ?_
  refine fx_bipush (pc := 7) F ⟨by decide, by decide⟩ (by decide) dX6_readsItem_7 ?_
  refine fx_bipush (pc := 9) F ⟨by decide, by decide⟩ (by decide) dX6_readsItem_9 ?_
  refine fx_iconst (pc := 11) F ⟨by decide, by decide⟩ dX6_readsItem_11 ?_
  obtain ⟨v1, e2, hf⟩ := fx_bnd hf
  refine fx_cV (pc := 12) F 6 kC_X6 [(0, 116), (0, 104), (0, 105), (0, 110), (0, 103), (0, 0)] this_0 [] (m_X6_isWord Fu Λ this_0 116 104 105 110 103 0 h _ e2) kD_X6_isWord kI_X6_isWord rfl wM_X6_248 ⟨rfl, rfl⟩ ⟨by decide, by decide⟩ (Nat.le_of_ble_eq_true rfl) rfl dX6_readsItem_12 ?_
  refine fx_nzne (pc := 15) F 23 (by decide) dX6_readsItem_15 (fun c3 => ?_) (fun c3 => ?_)
  · have hf := (if_pos c3).symm.trans hf
    refine fx_aload_n (pc := 18) (t := 6) F 0 rfl rfl dX6_readsItem_18 ?_
    obtain ⟨⟨v4, h5⟩, e6, hf⟩ := fx_bnd hf
    refine fx_cV (pc := 19) F 6 kC_X6 [] this_0 [] (m_X6_readsThing Fu Λ this_0 h _ _ e6) kD_X6_readsThing kI_X6_readsThing rfl wM_X6_252 ⟨rfl, rfl⟩ ⟨by decide, by decide⟩ (Nat.le_of_ble_eq_true rfl) rfl dX6_readsItem_19 ?_
    obtain ⟨z7, e8, hf⟩ := fx_bnd hf
    obtain ⟨e8, hzz7⟩ := fx_zb_use e8
    refine fx_top (X := fx_X) e8 ?_
    cases hf
    exact fx_zreturn (pc := 22) F hzz7 K dX6_readsItem_22
  · have hf := (if_neg c3).symm.trans hf
    refine fx_aload_n (pc := 23) (t := 6) F 0 rfl rfl dX6_readsItem_23 ?_
    refine fx_bipush (pc := 24) F ⟨by decide, by decide⟩ (by decide) dX6_readsItem_24 ?_
    refine fx_bipush (pc := 26) F ⟨by decide, by decide⟩ (by decide) dX6_readsItem_26 ?_
    refine fx_bipush (pc := 28) F ⟨by decide, by decide⟩ (by decide) dX6_readsItem_28 ?_
    refine fx_bipush (pc := 30) F ⟨by decide, by decide⟩ (by decide) dX6_readsItem_30 ?_
    refine fx_bipush (pc := 32) F ⟨by decide, by decide⟩ (by decide) dX6_readsItem_32 ?_
    refine fx_bipush (pc := 34) F ⟨by decide, by decide⟩ (by decide) dX6_readsItem_34 ?_
    obtain ⟨v9, e10, hf⟩ := fx_bnd hf
    refine fx_cV (pc := 36) F 6 kC_X6 [(0, 112), (0, 101), (0, 111), (0, 112), (0, 108), (0, 101)] this_0 [] (m_X6_isWord Fu Λ this_0 112 101 111 112 108 101 h _ e10) kD_X6_isWord kI_X6_isWord rfl wM_X6_248 ⟨rfl, rfl⟩ ⟨by decide, by decide⟩ (Nat.le_of_ble_eq_true rfl) rfl dX6_readsItem_36 ?_
    refine fx_nzne (pc := 39) F 49 (by decide) dX6_readsItem_39 (fun c11 => ?_) (fun c11 => ?_)
    · have hf := (if_pos c11).symm.trans hf
      refine fx_aload_n (pc := 42) (t := 6) F 0 rfl rfl dX6_readsItem_42 ?_
      refine fx_bipush (pc := 43) F ⟨by decide, by decide⟩ (by decide) dX6_readsItem_43 ?_
      obtain ⟨⟨v12, h13⟩, e14, hf⟩ := fx_bnd hf
      refine fx_cV (pc := 45) F 6 kC_X6 [(0, 10)] this_0 [] (m_X6_readsSize Fu Λ this_0 10 h _ _ e14) kD_X6_readsSize kI_X6_readsSize rfl wM_X6_256 ⟨rfl, rfl⟩ ⟨by decide, by decide⟩ (Nat.le_of_ble_eq_true rfl) rfl dX6_readsItem_45 ?_
      obtain ⟨z15, e16, hf⟩ := fx_bnd hf
      obtain ⟨e16, hzz15⟩ := fx_zb_use e16
      refine fx_top (X := fx_X) e16 ?_
      cases hf
      exact fx_zreturn (pc := 48) F hzz15 K dX6_readsItem_48
    · have hf := (if_neg c11).symm.trans hf
      refine fx_aload_n (pc := 49) (t := 6) F 0 rfl rfl dX6_readsItem_49 ?_
      refine fx_bipush (pc := 50) F ⟨by decide, by decide⟩ (by decide) dX6_readsItem_50 ?_
      refine fx_bipush (pc := 52) F ⟨by decide, by decide⟩ (by decide) dX6_readsItem_52 ?_
      refine fx_bipush (pc := 54) F ⟨by decide, by decide⟩ (by decide) dX6_readsItem_54 ?_
      refine fx_bipush (pc := 56) F ⟨by decide, by decide⟩ (by decide) dX6_readsItem_56 ?_
      refine fx_bipush (pc := 58) F ⟨by decide, by decide⟩ (by decide) dX6_readsItem_58 ?_
      refine fx_iconst (pc := 60) F ⟨by decide, by decide⟩ dX6_readsItem_60 ?_
      obtain ⟨v17, e18, hf⟩ := fx_bnd hf
      refine fx_cV (pc := 61) F 6 kC_X6 [(0, 104), (0, 111), (0, 117), (0, 114), (0, 115), (0, 0)] this_0 [] (m_X6_isWord Fu Λ this_0 104 111 117 114 115 0 h _ e18) kD_X6_isWord kI_X6_isWord rfl wM_X6_248 ⟨rfl, rfl⟩ ⟨by decide, by decide⟩ (Nat.le_of_ble_eq_true rfl) rfl dX6_readsItem_61 ?_
      refine fx_nzne (pc := 64) F 74 (by decide) dX6_readsItem_64 (fun c19 => ?_) (fun c19 => ?_)
      · have hf := (if_pos c19).symm.trans hf
        refine fx_aload_n (pc := 67) (t := 6) F 0 rfl rfl dX6_readsItem_67 ?_
        refine fx_bipush (pc := 68) F ⟨by decide, by decide⟩ (by decide) dX6_readsItem_68 ?_
        obtain ⟨⟨v20, h21⟩, e22, hf⟩ := fx_bnd hf
        refine fx_cV (pc := 70) F 6 kC_X6 [(0, 11)] this_0 [] (m_X6_readsSize Fu Λ this_0 11 h _ _ e22) kD_X6_readsSize kI_X6_readsSize rfl wM_X6_256 ⟨rfl, rfl⟩ ⟨by decide, by decide⟩ (Nat.le_of_ble_eq_true rfl) rfl dX6_readsItem_70 ?_
        obtain ⟨z23, e24, hf⟩ := fx_bnd hf
        obtain ⟨e24, hzz23⟩ := fx_zb_use e24
        refine fx_top (X := fx_X) e24 ?_
        cases hf
        exact fx_zreturn (pc := 73) F hzz23 K dX6_readsItem_73
      · have hf := (if_neg c19).symm.trans hf
        refine fx_aload_n (pc := 74) (t := 6) F 0 rfl rfl dX6_readsItem_74 ?_
        refine fx_bipush (pc := 75) F ⟨by decide, by decide⟩ (by decide) dX6_readsItem_75 ?_
        refine fx_bipush (pc := 77) F ⟨by decide, by decide⟩ (by decide) dX6_readsItem_77 ?_
        refine fx_bipush (pc := 79) F ⟨by decide, by decide⟩ (by decide) dX6_readsItem_79 ?_
        refine fx_bipush (pc := 81) F ⟨by decide, by decide⟩ (by decide) dX6_readsItem_81 ?_
        refine fx_iconst (pc := 83) F ⟨by decide, by decide⟩ dX6_readsItem_83 ?_
        refine fx_iconst (pc := 84) F ⟨by decide, by decide⟩ dX6_readsItem_84 ?_
        obtain ⟨v25, e26, hf⟩ := fx_bnd hf
        refine fx_cV (pc := 85) F 6 kC_X6 [(0, 104), (0, 111), (0, 117), (0, 114), (0, 0), (0, 0)] this_0 [] (m_X6_isWord Fu Λ this_0 104 111 117 114 0 0 h _ e26) kD_X6_isWord kI_X6_isWord rfl wM_X6_248 ⟨rfl, rfl⟩ ⟨by decide, by decide⟩ (Nat.le_of_ble_eq_true rfl) rfl dX6_readsItem_85 ?_
        refine fx_nzne (pc := 88) F 96 (by decide) dX6_readsItem_88 (fun c27 => ?_) (fun c27 => ?_)
        · have hf := (if_pos c27).symm.trans hf
          refine fx_aload_n (pc := 91) (t := 6) F 0 rfl rfl dX6_readsItem_91 ?_
          obtain ⟨⟨v28, h29⟩, e30, hf⟩ := fx_bnd hf
          refine fx_cV (pc := 92) F 6 kC_X6 [] this_0 [] (m_X6_readsHour Fu Λ this_0 h _ _ e30) kD_X6_readsHour kI_X6_readsHour rfl wM_X6_259 ⟨rfl, rfl⟩ ⟨by decide, by decide⟩ (Nat.le_of_ble_eq_true rfl) rfl dX6_readsItem_92 ?_
          obtain ⟨z31, e32, hf⟩ := fx_bnd hf
          obtain ⟨e32, hzz31⟩ := fx_zb_use e32
          refine fx_top (X := fx_X) e32 ?_
          cases hf
          exact fx_zreturn (pc := 95) F hzz31 K dX6_readsItem_95
        · have hf := (if_neg c27).symm.trans hf
          refine fx_aload_n (pc := 96) (t := 6) F 0 rfl rfl dX6_readsItem_96 ?_
          refine fx_bipush (pc := 97) F ⟨by decide, by decide⟩ (by decide) dX6_readsItem_97 ?_
          refine fx_bipush (pc := 99) F ⟨by decide, by decide⟩ (by decide) dX6_readsItem_99 ?_
          refine fx_bipush (pc := 101) F ⟨by decide, by decide⟩ (by decide) dX6_readsItem_101 ?_
          refine fx_bipush (pc := 103) F ⟨by decide, by decide⟩ (by decide) dX6_readsItem_103 ?_
          refine fx_iconst (pc := 105) F ⟨by decide, by decide⟩ dX6_readsItem_105 ?_
          refine fx_iconst (pc := 106) F ⟨by decide, by decide⟩ dX6_readsItem_106 ?_
          obtain ⟨v33, e34, hf⟩ := fx_bnd hf
          refine fx_cV (pc := 107) F 6 kC_X6 [(0, 100), (0, 111), (0, 101), (0, 115), (0, 0), (0, 0)] this_0 [] (m_X6_isWord Fu Λ this_0 100 111 101 115 0 0 h _ e34) kD_X6_isWord kI_X6_isWord rfl wM_X6_248 ⟨rfl, rfl⟩ ⟨by decide, by decide⟩ (Nat.le_of_ble_eq_true rfl) rfl dX6_readsItem_107 ?_
          refine fx_nzne (pc := 110) F 118 (by decide) dX6_readsItem_110 (fun c35 => ?_) (fun c35 => ?_)
          · have hf := (if_pos c35).symm.trans hf
            refine fx_aload_n (pc := 113) (t := 6) F 0 rfl rfl dX6_readsItem_113 ?_
            obtain ⟨⟨v36, h37⟩, e38, hf⟩ := fx_bnd hf
            refine fx_cV (pc := 114) F 6 kC_X6 [] this_0 [] (m_X6_readsDoes Fu Λ this_0 h _ _ e38) kD_X6_readsDoes kI_X6_readsDoes rfl wM_X6_262 ⟨rfl, rfl⟩ ⟨by decide, by decide⟩ (Nat.le_of_ble_eq_true rfl) rfl dX6_readsItem_114 ?_
            obtain ⟨z39, e40, hf⟩ := fx_bnd hf
            obtain ⟨e40, hzz39⟩ := fx_zb_use e40
            refine fx_top (X := fx_X) e40 ?_
            cases hf
            exact fx_zreturn (pc := 117) F hzz39 K dX6_readsItem_117
          · have hf := (if_neg c35).symm.trans hf
            refine fx_aload_n (pc := 118) (t := 6) F 0 rfl rfl dX6_readsItem_118 ?_
            refine fx_bipush (pc := 119) F ⟨by decide, by decide⟩ (by decide) dX6_readsItem_119 ?_
            refine fx_bipush (pc := 121) F ⟨by decide, by decide⟩ (by decide) dX6_readsItem_121 ?_
            refine fx_bipush (pc := 123) F ⟨by decide, by decide⟩ (by decide) dX6_readsItem_123 ?_
            refine fx_bipush (pc := 125) F ⟨by decide, by decide⟩ (by decide) dX6_readsItem_125 ?_
            refine fx_iconst (pc := 127) F ⟨by decide, by decide⟩ dX6_readsItem_127 ?_
            refine fx_iconst (pc := 128) F ⟨by decide, by decide⟩ dX6_readsItem_128 ?_
            obtain ⟨v41, e42, hf⟩ := fx_bnd hf
            refine fx_cV (pc := 129) F 6 kC_X6 [(0, 110), (0, 101), (0, 101), (0, 100), (0, 0), (0, 0)] this_0 [] (m_X6_isWord Fu Λ this_0 110 101 101 100 0 0 h _ e42) kD_X6_isWord kI_X6_isWord rfl wM_X6_248 ⟨rfl, rfl⟩ ⟨by decide, by decide⟩ (Nat.le_of_ble_eq_true rfl) rfl dX6_readsItem_129 ?_
            refine fx_nzne (pc := 132) F 140 (by decide) dX6_readsItem_132 (fun c43 => ?_) (fun c43 => ?_)
            · have hf := (if_pos c43).symm.trans hf
              refine fx_aload_n (pc := 135) (t := 6) F 0 rfl rfl dX6_readsItem_135 ?_
              obtain ⟨⟨v44, h45⟩, e46, hf⟩ := fx_bnd hf
              refine fx_cV (pc := 136) F 6 kC_X6 [] this_0 [] (m_X6_readsNeed Fu Λ this_0 h _ _ e46) kD_X6_readsNeed kI_X6_readsNeed rfl wM_X6_265 ⟨rfl, rfl⟩ ⟨by decide, by decide⟩ (Nat.le_of_ble_eq_true rfl) rfl dX6_readsItem_136 ?_
              obtain ⟨z47, e48, hf⟩ := fx_bnd hf
              obtain ⟨e48, hzz47⟩ := fx_zb_use e48
              refine fx_top (X := fx_X) e48 ?_
              cases hf
              exact fx_zreturn (pc := 139) F hzz47 K dX6_readsItem_139
            · have hf := (if_neg c43).symm.trans hf
              refine fx_aload_n (pc := 140) (t := 6) F 0 rfl rfl dX6_readsItem_140 ?_
              refine fx_bipush (pc := 141) F ⟨by decide, by decide⟩ (by decide) dX6_readsItem_141 ?_
              refine fx_bipush (pc := 143) F ⟨by decide, by decide⟩ (by decide) dX6_readsItem_143 ?_
              refine fx_bipush (pc := 145) F ⟨by decide, by decide⟩ (by decide) dX6_readsItem_145 ?_
              refine fx_bipush (pc := 147) F ⟨by decide, by decide⟩ (by decide) dX6_readsItem_147 ?_
              refine fx_iconst (pc := 149) F ⟨by decide, by decide⟩ dX6_readsItem_149 ?_
              refine fx_iconst (pc := 150) F ⟨by decide, by decide⟩ dX6_readsItem_150 ?_
              obtain ⟨v49, e50, hf⟩ := fx_bnd hf
              refine fx_cV (pc := 151) F 6 kC_X6 [(0, 108), (0, 105), (0, 110), (0, 101), (0, 0), (0, 0)] this_0 [] (m_X6_isWord Fu Λ this_0 108 105 110 101 0 0 h _ e50) kD_X6_isWord kI_X6_isWord rfl wM_X6_248 ⟨rfl, rfl⟩ ⟨by decide, by decide⟩ (Nat.le_of_ble_eq_true rfl) rfl dX6_readsItem_151 ?_
              refine fx_istore_n (pc := 154) (ls' := [some (8, this_0), some (0, v49), none]) F 1 rfl (by decide) rfl rfl dX6_readsItem_154 ?_
              obtain ⟨b51, e52, hf⟩ := fx_bnd hf
              have hT53 : b51 = true → fx_J M G Λ 3 176 [some (8, this_0), some (0, v49), none] [] h := fun c59 => by
                have hf := (if_pos c59).symm.trans hf
                refine fx_iconst (pc := 176) F ⟨by decide, by decide⟩ dX6_readsItem_176 ?_
                cases hf
                exact fx_zreturn (pc := 177) F (Or.inl rfl) K dX6_readsItem_177
              have hF54 : ¬ b51 = true → fx_J M G Λ 3 178 [some (8, this_0), some (0, v49), none] [] h := fun c59 => by
                have hf := (if_neg c59).symm.trans hf
                refine fx_aload_n (pc := 178) (t := 6) F 0 rfl rfl dX6_readsItem_178 ?_
                obtain ⟨v60, e61, hf⟩ := fx_bnd hf
                have hJ62 : fx_J M G Λ 3 195 [some (8, this_0), some (0, v49), none] [(0, v60), (8, this_0)] h := by
                  obtain ⟨z68, e69, hf⟩ := fx_bnd hf
                  obtain ⟨e69, hzz68⟩ := fx_zb_use e69
                  refine fx_top (X := fx_X) e69 ?_
                  refine fx_pZ (pc := 195) F 6 23 23 rfl kC_X6 rfl rfl (by decide +kernel) wF_X6_244 hzz68 dX6_readsItem_195 ?_
                  refine fx_aload_n (pc := 198) (t := 6) F 0 rfl rfl dX6_readsItem_198 ?_
                  obtain ⟨h70, e71, hf⟩ := fx_bnd hf
                  refine fx_cVv (pc := 199) F 6 kC_X6 [] this_0 [] (m_X6_goOn Fu Λ this_0 (fx_up h this_0 23 z68) _ e71) kD_X6_goOn kI_X6_goOn rfl wM_X6_237 ⟨rfl, rfl⟩ ⟨by decide, by decide⟩ (Nat.le_of_ble_eq_true rfl) rfl dX6_readsItem_199 ?_
                  refine fx_aload_n (pc := 202) (t := 6) F 0 rfl rfl dX6_readsItem_202 ?_
                  refine fx_iconst (pc := 203) F ⟨by decide, by decide⟩ dX6_readsItem_203 ?_
                  refine fx_iconst (pc := 204) F ⟨by decide, by decide⟩ dX6_readsItem_204 ?_
                  obtain ⟨v72, e73, hf⟩ := fx_bnd hf
                  have hJ74 : fx_J M G Λ 3 222 [some (8, this_0), some (0, v49), none] [(0, v72), (0, 0), (0, 0), (8, this_0)] h70 := by
                    obtain ⟨⟨v78, h79⟩, e80, hf⟩ := fx_bnd hf
                    refine fx_cV (pc := 222) F 6 kC_X6 [(0, 0), (0, 0), (0, v72)] this_0 [] (m_X6_takes Fu Λ this_0 0 0 v72 h70 _ _ e80) kD_X6_takes kI_X6_takes rfl wM_X6_240 ⟨rfl, rfl⟩ ⟨by decide, by decide⟩ (Nat.le_of_ble_eq_true rfl) rfl dX6_readsItem_222 ?_
                    refine fx_istore_n (pc := 225) (ls' := [some (8, this_0), some (0, v49), some (0, v78)]) F 2 rfl (by decide) rfl rfl dX6_readsItem_225 ?_
                    refine fx_aload_n (pc := 226) (t := 6) F 0 rfl rfl dX6_readsItem_226 ?_
                    refine fx_gR (pc := 227) F 6 22 22 8 rfl kC_X6 (by decide) rfl wF_X6_60 dX6_readsItem_227 ?_
                    obtain ⟨v81, e82, hf⟩ := fx_bnd hf
                    have hJ83 : fx_J M G Λ 3 241 [some (8, this_0), some (0, v49), some (0, v78)] [(0, v81), (10, (fx_tg Λ this_0 22))] h79 := by
                      refine fx_aload_n (pc := 241) (t := 6) F 0 rfl rfl dX6_readsItem_241 ?_
                      refine fx_gR (pc := 242) F 6 24 24 8 rfl kC_X6 (by decide) rfl wF_X6_63 dX6_readsItem_242 ?_
                      refine fx_iconst (pc := 245) F ⟨by decide, by decide⟩ dX6_readsItem_245 ?_
                      obtain ⟨v85, e86, hf⟩ := fx_bnd hf
                      refine fx_raldI (pc := 246) F e86 dX6_readsItem_246 ?_
                      obtain ⟨h87, e88, hf⟩ := fx_bnd hf
                      refine fx_rastI (pc := 247) F e88 dX6_readsItem_247 ?_
                      refine fx_iload_n (pc := 248) F 2 rfl rfl dX6_readsItem_248 ?_
                      obtain ⟨z89, e90, hf⟩ := fx_bnd hf
                      obtain ⟨e90, hzz89⟩ := fx_zb_use e90
                      refine fx_top (X := fx_X) e90 ?_
                      cases hf
                      exact fx_zreturn (pc := 249) F hzz89 K dX6_readsItem_249
                    refine fx_iload_n (pc := 230) F 1 rfl rfl dX6_readsItem_230 ?_
                    refine fx_nzne (pc := 231) F 239 (by decide) dX6_readsItem_231 (fun c84 => ?_) (fun c84 => ?_)
                    · have e82 := (if_pos c84).symm.trans e82
                      refine fx_bipush (pc := 234) F ⟨by decide, by decide⟩ (by decide) dX6_readsItem_234 ?_
                      cases e82
                      refine fx_goto (pc := 236) F 241 (by decide) dX6_readsItem_236 ?_
                      exact hJ83
                    · have e82 := (if_neg c84).symm.trans e82
                      refine fx_bipush (pc := 239) F ⟨by decide, by decide⟩ (by decide) dX6_readsItem_239 ?_
                      cases e82
                      exact hJ83
                  refine fx_iload_n (pc := 205) F 1 rfl rfl dX6_readsItem_205 ?_
                  refine fx_nzne (pc := 206) F 213 (by decide) dX6_readsItem_206 (fun c75 => ?_) (fun c75 => ?_)
                  · have e73 := (if_pos c75).symm.trans e73
                    refine fx_iconst (pc := 209) F ⟨by decide, by decide⟩ dX6_readsItem_209 ?_
                    cases e73
                    refine fx_goto (pc := 210) F 222 (by decide) dX6_readsItem_210 ?_
                    exact hJ74
                  · have e73 := (if_neg c75).symm.trans e73
                    refine fx_aload_n (pc := 213) (t := 6) F 0 rfl rfl dX6_readsItem_213 ?_
                    refine fx_gR (pc := 214) F 6 22 22 8 rfl kC_X6 (by decide) rfl wF_X6_60 dX6_readsItem_214 ?_
                    refine fx_bipush (pc := 217) F ⟨by decide, by decide⟩ (by decide) dX6_readsItem_217 ?_
                    obtain ⟨v76, e77, e73⟩ := fx_bnd e73
                    refine fx_raldI (pc := 219) F e77 dX6_readsItem_219 ?_
                    refine fx_iconst (pc := 220) F ⟨by decide, by decide⟩ dX6_readsItem_220 ?_
                    refine fx_isub (pc := 221) F dX6_readsItem_221 ?_
                    cases e73
                    exact hJ74
                refine fx_aload_n (pc := 179) (t := 6) F 0 rfl rfl dX6_readsItem_179 ?_
                refine fx_gI (pc := 180) F 6 23 23 rfl kC_X6 rfl wF_X6_244 dX6_readsItem_180 ?_
                have hT63 : (((¬ (h this_0 23) = 0) ∨ (v49 = 0))) → fx_J M G Λ 3 190 [some (8, this_0), some (0, v49), none] [(8, this_0)] h := fun c67 => by
                  have e61 := (if_pos c67).symm.trans e61
                  refine fx_iconst (pc := 190) F ⟨by decide, by decide⟩ dX6_readsItem_190 ?_
                  cases e61
                  refine fx_goto (pc := 191) F 195 (by decide) dX6_readsItem_191 ?_
                  exact hJ62
                have hF64 : ¬ (((¬ (h this_0 23) = 0) ∨ (v49 = 0))) → fx_J M G Λ 3 194 [some (8, this_0), some (0, v49), none] [(8, this_0)] h := fun c67 => by
                  have e61 := (if_neg c67).symm.trans e61
                  refine fx_iconst (pc := 194) F ⟨by decide, by decide⟩ dX6_readsItem_194 ?_
                  cases e61
                  exact hJ62
                refine fx_jzne (pc := 183) F 190 (by decide) dX6_readsItem_183 (fun c65 => ?_) (fun c65 => ?_)
                · exact hT63 (Or.inl c65)
                · refine fx_iload_n (pc := 186) F 1 rfl rfl dX6_readsItem_186 ?_
                  refine fx_nzeq (pc := 187) F 194 (by decide) dX6_readsItem_187 (fun c66 => ?_) (fun c66 => ?_)
                  · exact hT63 (Or.inr c66)
                  · exact hF64 (fun q => q.elim c65 c66)
              refine fx_iload_n (pc := 155) F 1 rfl rfl dX6_readsItem_155 ?_
              refine fx_nzeq (pc := 156) F 178 (by decide) dX6_readsItem_156 (fun c55 => ?_) (fun c55 => ?_)
              · have e52 := (if_pos c55).symm.trans e52
                refine fx_aload_n (pc := 159) (t := 6) F 0 rfl rfl dX6_readsItem_159 ?_
                refine fx_bipush (pc := 160) F ⟨by decide, by decide⟩ (by decide) dX6_readsItem_160 ?_
                refine fx_bipush (pc := 162) F ⟨by decide, by decide⟩ (by decide) dX6_readsItem_162 ?_
                refine fx_bipush (pc := 164) F ⟨by decide, by decide⟩ (by decide) dX6_readsItem_164 ?_
                refine fx_bipush (pc := 166) F ⟨by decide, by decide⟩ (by decide) dX6_readsItem_166 ?_
                refine fx_iconst (pc := 168) F ⟨by decide, by decide⟩ dX6_readsItem_168 ?_
                refine fx_iconst (pc := 169) F ⟨by decide, by decide⟩ dX6_readsItem_169 ?_
                obtain ⟨v56, e57, e52⟩ := fx_bnd e52
                refine fx_cV (pc := 170) F 6 kC_X6 [(0, 114), (0, 105), (0, 99), (0, 104), (0, 0), (0, 0)] this_0 [] (m_X6_isWord Fu Λ this_0 114 105 99 104 0 0 h _ e57) kD_X6_isWord kI_X6_isWord rfl wM_X6_248 ⟨rfl, rfl⟩ ⟨by decide, by decide⟩ (Nat.le_of_ble_eq_true rfl) rfl dX6_readsItem_170 ?_
                refine fx_nzeq (pc := 173) F 178 (by decide) dX6_readsItem_173 (fun c58 => ?_) (fun c58 => ?_)
                · have e52 := (if_pos c58).symm.trans e52
                  cases e52
                  exact hT53 (by decide)
                · have e52 := (if_neg c58).symm.trans e52
                  cases e52
                  exact hF54 (by decide)
              · have e52 := (if_neg c55).symm.trans e52
                cases e52
                exact hF54 (by decide)
def s_X6_read_1 (Fu : Nat) (Λ : fx_L) (this_11 : Int) : Int × fx_H → Option ((Int × fx_H) ⊕ ((Int × fx_H) ⊕ (Int × fx_H))) := fun (items_9, h10) =>
  if ¬ (h10 this_11 20) = 0 then
    (f_X6_readsItem Fu Λ this_11 h10).bind fun (v16, h17) =>
    if ((v16 = 0) ∨ (¬ (h17 this_11 20) = 3)) then
      some (.inr (.inr ((fx_w ((-10) - (h17 this_11 18))), h17)))
    else
      (f_X6_goOn Fu Λ this_11 h17).bind fun h22 =>
      some (.inl ((fx_w (items_9 + 1)), h22))
  else
    some (.inr (.inl (items_9, h10)))
def s_X6_read_2 (Fu : Nat) (Λ : fx_L) (this_44 : Int) : Int × fx_H → Option ((Int × fx_H) ⊕ (Int × fx_H)) := fun (k_42, h43) =>
  if k_42 < 95 then
    (fx_rd Λ h43 (fx_tg Λ this_44 22) k_42).bind fun v47 =>
    (fx_wr Λ h43 (fx_tg Λ this_44 0) k_42 v47).bind fun h49 =>
    some (.inl ((fx_w (k_42 + 1)), h49))
  else
    some (.inr (k_42, h43))
def f_X6_read (Fu : Nat) (Λ : fx_L) (this_0 : Int) (h : fx_H) : Option (Int × fx_H) :=
  (fx_wr Λ h (fx_tg Λ this_0 22) 0 0).bind fun h1 =>
  (fx_wr Λ h1 (fx_tg Λ this_0 22) 12 4).bind fun h3 =>
  (f_X6_begin Fu Λ (fx_tg Λ this_0 22) 3 4 h3).bind fun h5 =>
  (f_X6_look Fu Λ this_0 0 (fx_up h5 this_0 23 0)).bind fun h7 =>
  Option.bind (fx_loop (s_X6_read_1 Fu Λ this_0) Fu (0, h7)) fun x9 =>
  match x9 with
  | .inl (items_38, h39) =>
    Option.bind (fx_loop (s_X6_read_2 Fu Λ this_0) Fu (0, h39)) fun (k_59, h60) =>
    some (items_38, h60)
  | .inr r9 => some r9
abbrev rm_X6_read : Room := { frames := 7, cells := 0, slots := 0, locals := 156 }
set_option maxRecDepth 100000 in
set_option maxHeartbeats 4000000 in
theorem m_X6_read (Fu : Nat) (Λ : fx_L) (this_0 : Int) (h : fx_H) (r : Int) (ho : fx_H) (hf : f_X6_read Fu Λ this_0 h = some (r, ho)) : fx_Met yX6_read cX6_read 3 (some .int) rm_X6_read Λ [(8, this_0)] h (some (0, r)) ho := by
  unfold f_X6_read at hf
  refine fx_enter (ls := [some (8, this_0), none, none]) (by decide) (Nat.le_of_ble_eq_true rfl) rfl (fun M G F K => ?_)
  refine fx_aload_n (pc := 0) (t := 6) F 0 rfl rfl dX6_read_0 ?_
  refine fx_gR (pc := 1) F 6 22 22 8 rfl kC_X6 (by decide) rfl wF_X6_60 dX6_read_1 ?_
  refine fx_iconst (pc := 4) F ⟨by decide, by decide⟩ dX6_read_4 ?_
  refine fx_iconst (pc := 5) F ⟨by decide, by decide⟩ dX6_read_5 ?_
  obtain ⟨h1, e2, hf⟩ := fx_bnd hf
  refine fx_rastI (pc := 6) F e2 dX6_read_6 ?_
  refine fx_aload_n (pc := 7) (t := 6) F 0 rfl rfl dX6_read_7 ?_
  refine fx_gR (pc := 8) F 6 22 22 8 rfl kC_X6 (by decide) rfl wF_X6_60 dX6_read_8 ?_
  refine fx_bipush (pc := 11) F ⟨by decide, by decide⟩ (by decide) dX6_read_11 ?_
  refine fx_iconst (pc := 13) F ⟨by decide, by decide⟩ dX6_read_13 ?_
  obtain ⟨h3, e4, hf⟩ := fx_bnd hf
  refine fx_rastI (pc := 14) F e4 dX6_read_14 ?_
  refine fx_aload_n (pc := 15) (t := 6) F 0 rfl rfl dX6_read_15 ?_
  refine fx_gR (pc := 16) F 6 22 22 8 rfl kC_X6 (by decide) rfl wF_X6_60 dX6_read_16 ?_
  refine fx_iconst (pc := 19) F ⟨by decide, by decide⟩ dX6_read_19 ?_
  refine fx_iconst (pc := 20) F ⟨by decide, by decide⟩ dX6_read_20 ?_
  obtain ⟨h5, e6, hf⟩ := fx_bnd hf
  refine fx_cSv (pc := 21) F [(10, (fx_tg Λ this_0 22)), (0, 3), (0, 4)] [] (m_X6_begin Fu Λ (fx_tg Λ this_0 22) 3 4 h3 _ e6) kD_X6_begin wSt_X6_begin wM_X6_66 ⟨rfl, rfl⟩ ⟨by decide, by decide⟩ (Nat.le_of_ble_eq_true rfl) rfl dX6_read_21 ?_
  refine fx_aload_n (pc := 24) (t := 6) F 0 rfl rfl dX6_read_24 ?_
  refine fx_iconst (pc := 25) F ⟨by decide, by decide⟩ dX6_read_25 ?_
  refine fx_pZ (pc := 26) F 6 23 23 rfl kC_X6 rfl rfl (by decide +kernel) wF_X6_244 (Or.inl rfl) dX6_read_26 ?_
  refine fx_iconst (pc := 29) F ⟨by decide, by decide⟩ dX6_read_29 ?_
  refine fx_istore_n (pc := 30) (ls' := [some (8, this_0), some (0, 0), none]) F 1 rfl (by decide) rfl rfl dX6_read_30 ?_
  refine fx_aload_n (pc := 31) (t := 6) F 0 rfl rfl dX6_read_31 ?_
  refine fx_iconst (pc := 32) F ⟨by decide, by decide⟩ dX6_read_32 ?_
  obtain ⟨h7, e8, hf⟩ := fx_bnd hf
  refine fx_cVv (pc := 33) F 6 kC_X6 [(0, 0)] this_0 [] (m_X6_look Fu Λ this_0 0 (fx_up h5 this_0 23 0) _ e8) kD_X6_look kI_X6_look rfl wM_X6_234 ⟨rfl, rfl⟩ ⟨by decide, by decide⟩ (Nat.le_of_ble_eq_true rfl) rfl dX6_read_33 ?_
  obtain ⟨x9, e40, hf⟩ := fx_bnd hf
  have hE41 : (fun y : (Int × fx_H) ⊕ (Int × fx_H) => match y with | .inl z => fx_J M G Λ 3 76 [some (8, this_0), some (0, z.1), none] [] z.2 | .inr r9 => some r9 = some (r, ho)) x9 := by
    cases x9 with
    | inr r9 => exact hf
    | inl y9 =>
      obtain ⟨items_38, h39⟩ := y9
      show fx_J M G Λ 3 76 [some (8, this_0), some (0, items_38), none] [] h39
      refine fx_iconst (pc := 76) F ⟨by decide, by decide⟩ dX6_read_76 ?_
      refine fx_istore_n (pc := 77) (ls' := [some (8, this_0), some (0, items_38), some (0, 0)]) F 2 rfl (by decide) rfl rfl dX6_read_77 ?_
      obtain ⟨⟨k_59, h60⟩, e61, hf⟩ := fx_bnd hf
      have hE62 : fx_J M G Λ 3 102 [some (8, this_0), some (0, items_38), some (0, k_59)] [] h60 := by
        refine fx_iload_n (pc := 102) F 1 rfl rfl dX6_read_102 ?_
        cases hf
        exact fx_ireturn (pc := 103) F K dX6_read_103
      refine fx_loop_J (Hd := (fun z : Int × fx_H => fx_J M G Λ 3 78 [some (8, this_0), some (0, items_38), some (0, z.1)] [] z.2)) (Ex := (fun z : Int × fx_H => fx_J M G Λ 3 102 [some (8, this_0), some (0, items_38), some (0, z.1)] [] z.2)) ?_ Fu _ _ e61 hE62
      rintro ⟨k_51, h52⟩ o9 eq53 ih ex
      unfold s_X6_read_2 at eq53
      show fx_J M G Λ 3 78 [some (8, this_0), some (0, items_38), some (0, k_51)] [] h52
      refine fx_iload_n (pc := 78) F 2 rfl rfl dX6_read_78 ?_
      refine fx_bipush (pc := 79) F ⟨by decide, by decide⟩ (by decide) dX6_read_79 ?_
      refine fx_nlt (pc := 81) F 102 (by decide) dX6_read_81 (fun c54 => ?_) (fun c54 => ?_)
      · have eq53 := (if_pos c54).symm.trans eq53
        refine fx_aload_n (pc := 84) (t := 6) F 0 rfl rfl dX6_read_84 ?_
        refine fx_gR (pc := 85) F 6 0 0 8 rfl kC_X6 (by decide) rfl wF_X6_7 dX6_read_85 ?_
        refine fx_iload_n (pc := 88) F 2 rfl rfl dX6_read_88 ?_
        refine fx_aload_n (pc := 89) (t := 6) F 0 rfl rfl dX6_read_89 ?_
        refine fx_gR (pc := 90) F 6 22 22 8 rfl kC_X6 (by decide) rfl wF_X6_60 dX6_read_90 ?_
        refine fx_iload_n (pc := 93) F 2 rfl rfl dX6_read_93 ?_
        obtain ⟨v55, e56, eq53⟩ := fx_bnd eq53
        refine fx_raldI (pc := 94) F e56 dX6_read_94 ?_
        obtain ⟨h57, e58, eq53⟩ := fx_bnd eq53
        refine fx_rastI (pc := 95) F e58 dX6_read_95 ?_
        refine fx_iinc (pc := 96) (ls' := [some (8, this_0), some (0, items_38), some (0, (fx_w (k_51 + 1)))]) F (by decide) rfl rfl rfl dX6_read_96 ?_
        refine fx_goto (pc := 99) F 78 (by decide) dX6_read_99 ?_
        cases eq53
        exact ih _ rfl
      · have eq53 := (if_neg c54).symm.trans eq53
        cases eq53
        exact ex _ rfl
  refine fx_loop_J (Hd := (fun z : Int × fx_H => fx_J M G Λ 3 36 [some (8, this_0), some (0, z.1), none] [] z.2)) (Ex := (fun y : (Int × fx_H) ⊕ (Int × fx_H) => match y with | .inl z => fx_J M G Λ 3 76 [some (8, this_0), some (0, z.1), none] [] z.2 | .inr r9 => some r9 = some (r, ho))) ?_ Fu _ _ e40 hE41
  rintro ⟨items_24, h25⟩ o9 eq26 ih ex
  unfold s_X6_read_1 at eq26
  show fx_J M G Λ 3 36 [some (8, this_0), some (0, items_24), none] [] h25
  refine fx_aload_n (pc := 36) (t := 6) F 0 rfl rfl dX6_read_36 ?_
  refine fx_gI (pc := 37) F 6 20 20 rfl kC_X6 rfl wF_X6_222 dX6_read_37 ?_
  refine fx_nzne (pc := 40) F 76 (by decide) dX6_read_40 (fun c27 => ?_) (fun c27 => ?_)
  · have eq26 := (if_pos c27).symm.trans eq26
    refine fx_aload_n (pc := 43) (t := 6) F 0 rfl rfl dX6_read_43 ?_
    obtain ⟨⟨v30, h31⟩, e32, eq26⟩ := fx_bnd eq26
    refine fx_cV (pc := 44) F 6 kC_X6 [] this_0 [] (m_X6_readsItem Fu Λ this_0 h25 _ _ e32) kD_X6_readsItem kI_X6_readsItem rfl wM_X6_268 ⟨rfl, rfl⟩ ⟨by decide, by decide⟩ (Nat.le_of_ble_eq_true rfl) rfl dX6_read_44 ?_
    have hT28 : (((v30 = 0) ∨ (¬ (h31 this_0 20) = 3))) → fx_J M G Λ 3 58 [some (8, this_0), some (0, items_24), none] [] h31 := fun c35 => by
      have eq26 := (if_pos c35).symm.trans eq26
      refine fx_bipush (pc := 58) F ⟨by decide, by decide⟩ (by decide) dX6_read_58 ?_
      refine fx_aload_n (pc := 60) (t := 6) F 0 rfl rfl dX6_read_60 ?_
      refine fx_gI (pc := 61) F 6 18 18 rfl kC_X6 rfl wF_X6_216 dX6_read_61 ?_
      refine fx_isub (pc := 64) F dX6_read_64 ?_
      cases eq26
      have q9 := ex _ rfl
      cases q9
      exact fx_ireturn (pc := 65) F K dX6_read_65
    have hF29 : ¬ (((v30 = 0) ∨ (¬ (h31 this_0 20) = 3))) → fx_J M G Λ 3 66 [some (8, this_0), some (0, items_24), none] [] h31 := fun c35 => by
      have eq26 := (if_neg c35).symm.trans eq26
      refine fx_aload_n (pc := 66) (t := 6) F 0 rfl rfl dX6_read_66 ?_
      obtain ⟨h36, e37, eq26⟩ := fx_bnd eq26
      refine fx_cVv (pc := 67) F 6 kC_X6 [] this_0 [] (m_X6_goOn Fu Λ this_0 h31 _ e37) kD_X6_goOn kI_X6_goOn rfl wM_X6_237 ⟨rfl, rfl⟩ ⟨by decide, by decide⟩ (Nat.le_of_ble_eq_true rfl) rfl dX6_read_67 ?_
      refine fx_iinc (pc := 70) (ls' := [some (8, this_0), some (0, (fx_w (items_24 + 1))), none]) F (by decide) rfl rfl rfl dX6_read_70 ?_
      refine fx_goto (pc := 73) F 36 (by decide) dX6_read_73 ?_
      cases eq26
      exact ih _ rfl
    refine fx_jzeq (pc := 47) F 58 (by decide) dX6_read_47 (fun c33 => ?_) (fun c33 => ?_)
    · exact hT28 (Or.inl c33)
    · refine fx_aload_n (pc := 50) (t := 6) F 0 rfl rfl dX6_read_50 ?_
      refine fx_gI (pc := 51) F 6 20 20 rfl kC_X6 rfl wF_X6_222 dX6_read_51 ?_
      refine fx_iconst (pc := 54) F ⟨by decide, by decide⟩ dX6_read_54 ?_
      refine fx_nne (pc := 55) F 66 (by decide) dX6_read_55 (fun c34 => ?_) (fun c34 => ?_)
      · exact hT28 (Or.inr c34)
      · exact hF29 (fun q => q.elim c33 c34)
  · have eq26 := (if_neg c27).symm.trans eq26
    cases eq26
    exact ex _ rfl
def f_X6_part (Fu : Nat) (Λ : fx_L) (this_0 : Int) (what_0 : Int) (h : fx_H) : Option (Int × fx_H) :=
  Option.bind (
    if what_0 = 0 then
      some ((h this_0 1000004), h)
    else
      Option.bind (
        if what_0 = 1 then
          some ((h this_0 1000005), h)
        else
          (f_X6_bad Fu Λ this_0 (-2) h).bind fun (v11, h12) =>
          some (v11, h12)
      ) fun (v6, h7) =>
      some (v6, h7)
  ) fun (v1, h2) =>
  some (v1, h2)
abbrev rm_X6_part : Room := { frames := 1, cells := 0, slots := 0, locals := 21 }
set_option maxRecDepth 100000 in
set_option maxHeartbeats 4000000 in
theorem m_X6_part (Fu : Nat) (Λ : fx_L) (this_0 : Int) (what_0 : Int) (h : fx_H) (r : Int) (ho : fx_H) (hf : f_X6_part Fu Λ this_0 what_0 h = some (r, ho)) : fx_Met yX6_part cX6_part 2 (some .long) rm_X6_part Λ [(8, this_0), (0, what_0)] h (some (1, r)) ho := by
  unfold f_X6_part at hf
  refine fx_enter (ls := [some (8, this_0), some (0, what_0)]) (by decide) (Nat.le_of_ble_eq_true rfl) rfl (fun M G F K => ?_)
  obtain ⟨⟨v1, h2⟩, e3, hf⟩ := fx_bnd hf
  have hJ4 : fx_J M G Λ 2 30 [some (8, this_0), some (0, what_0)] [(1, v1)] h2 := by
    cases hf
    exact fx_lreturn (pc := 30) F K dX6_part_30
  refine fx_iload_n (pc := 0) F 1 rfl rfl dX6_part_0 ?_
  refine fx_nzeq (pc := 1) F 11 (by decide) dX6_part_1 (fun c5 => ?_) (fun c5 => ?_)
  · have e3 := (if_pos c5).symm.trans e3
    refine fx_aload_n (pc := 4) (t := 6) F 0 rfl rfl dX6_part_4 ?_
    refine fx_gL (pc := 5) F 6 4 1000004 rfl kC_X6 rfl wF_X6_197 dX6_part_5 ?_
    cases e3
    refine fx_goto (pc := 8) F 30 (by decide) dX6_part_8 ?_
    exact hJ4
  · have e3 := (if_neg c5).symm.trans e3
    obtain ⟨⟨v6, h7⟩, e8, e3⟩ := fx_bnd e3
    have hJ9 : fx_J M G Λ 2 30 [some (8, this_0), some (0, what_0)] [(1, v6)] h7 := by
      cases e3
      exact hJ4
    refine fx_iload_n (pc := 11) F 1 rfl rfl dX6_part_11 ?_
    refine fx_iconst (pc := 12) F ⟨by decide, by decide⟩ dX6_part_12 ?_
    refine fx_neq (pc := 13) F 23 (by decide) dX6_part_13 (fun c10 => ?_) (fun c10 => ?_)
    · have e8 := (if_pos c10).symm.trans e8
      refine fx_aload_n (pc := 16) (t := 6) F 0 rfl rfl dX6_part_16 ?_
      refine fx_gL (pc := 17) F 6 5 1000005 rfl kC_X6 rfl wF_X6_23 dX6_part_17 ?_
      cases e8
      refine fx_goto (pc := 20) F 30 (by decide) dX6_part_20 ?_
      exact hJ9
    · have e8 := (if_neg c10).symm.trans e8
      refine fx_aload_n (pc := 23) (t := 6) F 0 rfl rfl dX6_part_23 ?_
      refine fx_bipush (pc := 24) F ⟨by decide, by decide⟩ (by decide) dX6_part_24 ?_
      obtain ⟨⟨v11, h12⟩, e13, e8⟩ := fx_bnd e8
      refine fx_cV (pc := 26) F 6 kC_X6 [(0, (-2))] this_0 [] (m_X6_bad Fu Λ this_0 (-2) h _ _ e13) kD_X6_bad kI_X6_bad rfl wM_X6_88 ⟨rfl, rfl⟩ ⟨by decide, by decide⟩ (Nat.le_of_ble_eq_true rfl) rfl dX6_part_26 ?_
      refine fx_ri2l (pc := 29) F dX6_part_29 ?_
      cases e8
      exact hJ9
def s_X6_image_1 (Fu : Nat) (Λ : fx_L) (this_9 : Int) (i_10 : Int) : Int × fx_H → Option ((Int × fx_H) ⊕ (Int × fx_H)) := fun (k_7, h8) =>
  if k_7 < 125 then
    (fx_rd Λ h8 (fx_tg Λ this_9 0) k_7).bind fun v13 =>
    (fx_wr Λ h8 (fx_tg Λ this_9 1) (fx_w ((fx_w (125 * i_10)) + k_7)) v13).bind fun h15 =>
    some (.inl ((fx_w (k_7 + 1)), h15))
  else
    some (.inr (k_7, h8))
def f_X6_image (Fu : Nat) (Λ : fx_L) (this_0 : Int) (i_0 : Int) (h : fx_H) : Option (Int × fx_H) :=
  (f_X6_in Fu Λ i_0 0 1 h).bind fun v1 =>
  if v1 = 0 then
    (f_X6_bad Fu Λ this_0 (-2) h).bind fun (v4, h5) =>
    some (v4, h5)
  else
    Option.bind (fx_loop (s_X6_image_1 Fu Λ this_0 i_0) Fu (0, h)) fun (k_25, h26) =>
    (fx_wr Λ h26 (fx_tg Λ this_0 2) i_0 1).bind fun h29 =>
    some (1, h29)
abbrev rm_X6_image : Room := { frames := 1, cells := 0, slots := 0, locals := 25 }
set_option maxRecDepth 100000 in
set_option maxHeartbeats 4000000 in
theorem m_X6_image (Fu : Nat) (Λ : fx_L) (this_0 : Int) (i_0 : Int) (h : fx_H) (r : Int) (ho : fx_H) (hf : f_X6_image Fu Λ this_0 i_0 h = some (r, ho)) : fx_Met yX6_image cX6_image 3 (some .int) rm_X6_image Λ [(8, this_0), (0, i_0)] h (some (0, r)) ho := by
  unfold f_X6_image at hf
  refine fx_enter (ls := [some (8, this_0), some (0, i_0), none]) (by decide) (Nat.le_of_ble_eq_true rfl) rfl (fun M G F K => ?_)
  refine fx_iload_n (pc := 0) F 1 rfl rfl dX6_image_0 ?_
  refine fx_ri2l (pc := 1) F dX6_image_1 ?_
  refine fx_lconst (pc := 2) (z := 0) F rfl ⟨by decide, by decide⟩ (by decide) dX6_image_2 ?_
  refine fx_lconst (pc := 3) (z := 1) F rfl ⟨by decide, by decide⟩ (by decide) dX6_image_3 ?_
  obtain ⟨v1, e2, hf⟩ := fx_bnd hf
  refine fx_cS (pc := 4) F [(1, i_0), (1, 0), (1, 1)] [] (m_X6_in Fu Λ i_0 0 1 h _ e2) kD_X6_in wSt_X6_in wM_X6_74 ⟨rfl, rfl⟩ ⟨by decide, by decide⟩ (Nat.le_of_ble_eq_true rfl) rfl dX6_image_4 ?_
  refine fx_nzeq (pc := 7) F 17 (by decide) dX6_image_7 (fun c3 => ?_) (fun c3 => ?_)
  · have hf := (if_pos c3).symm.trans hf
    refine fx_aload_n (pc := 10) (t := 6) F 0 rfl rfl dX6_image_10 ?_
    refine fx_bipush (pc := 11) F ⟨by decide, by decide⟩ (by decide) dX6_image_11 ?_
    obtain ⟨⟨v4, h5⟩, e6, hf⟩ := fx_bnd hf
    refine fx_cV (pc := 13) F 6 kC_X6 [(0, (-2))] this_0 [] (m_X6_bad Fu Λ this_0 (-2) h _ _ e6) kD_X6_bad kI_X6_bad rfl wM_X6_88 ⟨rfl, rfl⟩ ⟨by decide, by decide⟩ (Nat.le_of_ble_eq_true rfl) rfl dX6_image_13 ?_
    cases hf
    exact fx_ireturn (pc := 16) F K dX6_image_16
  · have hf := (if_neg c3).symm.trans hf
    refine fx_iconst (pc := 17) F ⟨by decide, by decide⟩ dX6_image_17 ?_
    refine fx_istore_n (pc := 18) (ls' := [some (8, this_0), some (0, i_0), some (0, 0)]) F 2 rfl (by decide) rfl rfl dX6_image_18 ?_
    obtain ⟨⟨k_25, h26⟩, e27, hf⟩ := fx_bnd hf
    have hE28 : fx_J M G Λ 3 48 [some (8, this_0), some (0, i_0), some (0, k_25)] [] h26 := by
      refine fx_aload_n (pc := 48) (t := 6) F 0 rfl rfl dX6_image_48 ?_
      refine fx_gR (pc := 49) F 6 2 2 9 rfl kC_X6 (by decide) rfl wF_X6_16 dX6_image_49 ?_
      refine fx_iload_n (pc := 52) F 1 rfl rfl dX6_image_52 ?_
      refine fx_iconst (pc := 53) F ⟨by decide, by decide⟩ dX6_image_53 ?_
      obtain ⟨h29, e30, hf⟩ := fx_bnd hf
      refine fx_rastZ (pc := 54) F e30 (Or.inr rfl) dX6_image_54 ?_
      refine fx_iconst (pc := 55) F ⟨by decide, by decide⟩ dX6_image_55 ?_
      cases hf
      exact fx_ireturn (pc := 56) F K dX6_image_56
    refine fx_loop_J (Hd := (fun z : Int × fx_H => fx_J M G Λ 3 19 [some (8, this_0), some (0, i_0), some (0, z.1)] [] z.2)) (Ex := (fun z : Int × fx_H => fx_J M G Λ 3 48 [some (8, this_0), some (0, i_0), some (0, z.1)] [] z.2)) ?_ Fu _ _ e27 hE28
    rintro ⟨k_17, h18⟩ o9 eq19 ih ex
    unfold s_X6_image_1 at eq19
    show fx_J M G Λ 3 19 [some (8, this_0), some (0, i_0), some (0, k_17)] [] h18
    refine fx_iload_n (pc := 19) F 2 rfl rfl dX6_image_19 ?_
    refine fx_bipush (pc := 20) F ⟨by decide, by decide⟩ (by decide) dX6_image_20 ?_
    refine fx_nlt (pc := 22) F 48 (by decide) dX6_image_22 (fun c20 => ?_) (fun c20 => ?_)
    · have eq19 := (if_pos c20).symm.trans eq19
      refine fx_aload_n (pc := 25) (t := 6) F 0 rfl rfl dX6_image_25 ?_
      refine fx_gR (pc := 26) F 6 1 1 8 rfl kC_X6 (by decide) rfl wF_X6_13 dX6_image_26 ?_
      refine fx_bipush (pc := 29) F ⟨by decide, by decide⟩ (by decide) dX6_image_29 ?_
      refine fx_iload_n (pc := 31) F 1 rfl rfl dX6_image_31 ?_
      refine fx_imul (pc := 32) F dX6_image_32 ?_
      refine fx_iload_n (pc := 33) F 2 rfl rfl dX6_image_33 ?_
      refine fx_iadd (pc := 34) F dX6_image_34 ?_
      refine fx_aload_n (pc := 35) (t := 6) F 0 rfl rfl dX6_image_35 ?_
      refine fx_gR (pc := 36) F 6 0 0 8 rfl kC_X6 (by decide) rfl wF_X6_7 dX6_image_36 ?_
      refine fx_iload_n (pc := 39) F 2 rfl rfl dX6_image_39 ?_
      obtain ⟨v21, e22, eq19⟩ := fx_bnd eq19
      refine fx_raldI (pc := 40) F e22 dX6_image_40 ?_
      obtain ⟨h23, e24, eq19⟩ := fx_bnd eq19
      refine fx_rastI (pc := 41) F e24 dX6_image_41 ?_
      refine fx_iinc (pc := 42) (ls' := [some (8, this_0), some (0, i_0), some (0, (fx_w (k_17 + 1)))]) F (by decide) rfl rfl rfl dX6_image_42 ?_
      refine fx_goto (pc := 45) F 19 (by decide) dX6_image_45 ?_
      cases eq19
      exact ih _ rfl
    · have eq19 := (if_neg c20).symm.trans eq19
      cases eq19
      exact ex _ rfl
def s_X6_from_1 (Fu : Nat) (Λ : fx_L) (this_15 : Int) (i_16 : Int) : Int × fx_H → Option ((Int × fx_H) ⊕ (Int × fx_H)) := fun (k_13, h14) =>
  if k_13 < 125 then
    (fx_rd Λ h14 (fx_tg Λ this_15 1) (fx_w ((fx_w (125 * i_16)) + k_13))).bind fun v19 =>
    (fx_wr Λ h14 (fx_tg Λ this_15 0) k_13 v19).bind fun h21 =>
    some (.inl ((fx_w (k_13 + 1)), h21))
  else
    some (.inr (k_13, h14))
def f_X6_from (Fu : Nat) (Λ : fx_L) (this_0 : Int) (i_0 : Int) (h : fx_H) : Option (Int × fx_H) :=
  (f_X6_in Fu Λ i_0 0 1 h).bind fun v1 =>
  if v1 = 0 then
    (f_X6_bad Fu Λ this_0 (-2) h).bind fun (v4, h5) =>
    some (v4, h5)
  else
    (fx_rd Λ h (fx_tg Λ this_0 2) i_0).bind fun v7 =>
    if v7 = 0 then
      (f_X6_no Fu Λ this_0 h).bind fun (v10, h11) =>
      some (v10, h11)
    else
      Option.bind (fx_loop (s_X6_from_1 Fu Λ this_0 i_0) Fu (0, h)) fun (k_31, h32) =>
      some (1, h32)
abbrev rm_X6_from : Room := { frames := 1, cells := 0, slots := 0, locals := 25 }
set_option maxRecDepth 100000 in
set_option maxHeartbeats 4000000 in
theorem m_X6_from (Fu : Nat) (Λ : fx_L) (this_0 : Int) (i_0 : Int) (h : fx_H) (r : Int) (ho : fx_H) (hf : f_X6_from Fu Λ this_0 i_0 h = some (r, ho)) : fx_Met yX6_from cX6_from 3 (some .int) rm_X6_from Λ [(8, this_0), (0, i_0)] h (some (0, r)) ho := by
  unfold f_X6_from at hf
  refine fx_enter (ls := [some (8, this_0), some (0, i_0), none]) (by decide) (Nat.le_of_ble_eq_true rfl) rfl (fun M G F K => ?_)
  refine fx_iload_n (pc := 0) F 1 rfl rfl dX6_from_0 ?_
  refine fx_ri2l (pc := 1) F dX6_from_1 ?_
  refine fx_lconst (pc := 2) (z := 0) F rfl ⟨by decide, by decide⟩ (by decide) dX6_from_2 ?_
  refine fx_lconst (pc := 3) (z := 1) F rfl ⟨by decide, by decide⟩ (by decide) dX6_from_3 ?_
  obtain ⟨v1, e2, hf⟩ := fx_bnd hf
  refine fx_cS (pc := 4) F [(1, i_0), (1, 0), (1, 1)] [] (m_X6_in Fu Λ i_0 0 1 h _ e2) kD_X6_in wSt_X6_in wM_X6_74 ⟨rfl, rfl⟩ ⟨by decide, by decide⟩ (Nat.le_of_ble_eq_true rfl) rfl dX6_from_4 ?_
  refine fx_nzeq (pc := 7) F 17 (by decide) dX6_from_7 (fun c3 => ?_) (fun c3 => ?_)
  · have hf := (if_pos c3).symm.trans hf
    refine fx_aload_n (pc := 10) (t := 6) F 0 rfl rfl dX6_from_10 ?_
    refine fx_bipush (pc := 11) F ⟨by decide, by decide⟩ (by decide) dX6_from_11 ?_
    obtain ⟨⟨v4, h5⟩, e6, hf⟩ := fx_bnd hf
    refine fx_cV (pc := 13) F 6 kC_X6 [(0, (-2))] this_0 [] (m_X6_bad Fu Λ this_0 (-2) h _ _ e6) kD_X6_bad kI_X6_bad rfl wM_X6_88 ⟨rfl, rfl⟩ ⟨by decide, by decide⟩ (Nat.le_of_ble_eq_true rfl) rfl dX6_from_13 ?_
    cases hf
    exact fx_ireturn (pc := 16) F K dX6_from_16
  · have hf := (if_neg c3).symm.trans hf
    refine fx_aload_n (pc := 17) (t := 6) F 0 rfl rfl dX6_from_17 ?_
    refine fx_gR (pc := 18) F 6 2 2 9 rfl kC_X6 (by decide) rfl wF_X6_16 dX6_from_18 ?_
    refine fx_iload_n (pc := 21) F 1 rfl rfl dX6_from_21 ?_
    obtain ⟨v7, e8, hf⟩ := fx_bnd hf
    refine fx_raldZ (pc := 22) F e8 dX6_from_22 ?_
    refine fx_nzeq (pc := 23) F 31 (by decide) dX6_from_23 (fun c9 => ?_) (fun c9 => ?_)
    · have hf := (if_pos c9).symm.trans hf
      refine fx_aload_n (pc := 26) (t := 6) F 0 rfl rfl dX6_from_26 ?_
      obtain ⟨⟨v10, h11⟩, e12, hf⟩ := fx_bnd hf
      refine fx_cV (pc := 27) F 6 kC_X6 [] this_0 [] (m_X6_no Fu Λ this_0 h _ _ e12) kD_X6_no kI_X6_no rfl wM_X6_105 ⟨rfl, rfl⟩ ⟨by decide, by decide⟩ (Nat.le_of_ble_eq_true rfl) rfl dX6_from_27 ?_
      cases hf
      exact fx_ireturn (pc := 30) F K dX6_from_30
    · have hf := (if_neg c9).symm.trans hf
      refine fx_iconst (pc := 31) F ⟨by decide, by decide⟩ dX6_from_31 ?_
      refine fx_istore_n (pc := 32) (ls' := [some (8, this_0), some (0, i_0), some (0, 0)]) F 2 rfl (by decide) rfl rfl dX6_from_32 ?_
      obtain ⟨⟨k_31, h32⟩, e33, hf⟩ := fx_bnd hf
      have hE34 : fx_J M G Λ 3 62 [some (8, this_0), some (0, i_0), some (0, k_31)] [] h32 := by
        refine fx_iconst (pc := 62) F ⟨by decide, by decide⟩ dX6_from_62 ?_
        cases hf
        exact fx_ireturn (pc := 63) F K dX6_from_63
      refine fx_loop_J (Hd := (fun z : Int × fx_H => fx_J M G Λ 3 33 [some (8, this_0), some (0, i_0), some (0, z.1)] [] z.2)) (Ex := (fun z : Int × fx_H => fx_J M G Λ 3 62 [some (8, this_0), some (0, i_0), some (0, z.1)] [] z.2)) ?_ Fu _ _ e33 hE34
      rintro ⟨k_23, h24⟩ o9 eq25 ih ex
      unfold s_X6_from_1 at eq25
      show fx_J M G Λ 3 33 [some (8, this_0), some (0, i_0), some (0, k_23)] [] h24
      refine fx_iload_n (pc := 33) F 2 rfl rfl dX6_from_33 ?_
      refine fx_bipush (pc := 34) F ⟨by decide, by decide⟩ (by decide) dX6_from_34 ?_
      refine fx_nlt (pc := 36) F 62 (by decide) dX6_from_36 (fun c26 => ?_) (fun c26 => ?_)
      · have eq25 := (if_pos c26).symm.trans eq25
        refine fx_aload_n (pc := 39) (t := 6) F 0 rfl rfl dX6_from_39 ?_
        refine fx_gR (pc := 40) F 6 0 0 8 rfl kC_X6 (by decide) rfl wF_X6_7 dX6_from_40 ?_
        refine fx_iload_n (pc := 43) F 2 rfl rfl dX6_from_43 ?_
        refine fx_aload_n (pc := 44) (t := 6) F 0 rfl rfl dX6_from_44 ?_
        refine fx_gR (pc := 45) F 6 1 1 8 rfl kC_X6 (by decide) rfl wF_X6_13 dX6_from_45 ?_
        refine fx_bipush (pc := 48) F ⟨by decide, by decide⟩ (by decide) dX6_from_48 ?_
        refine fx_iload_n (pc := 50) F 1 rfl rfl dX6_from_50 ?_
        refine fx_imul (pc := 51) F dX6_from_51 ?_
        refine fx_iload_n (pc := 52) F 2 rfl rfl dX6_from_52 ?_
        refine fx_iadd (pc := 53) F dX6_from_53 ?_
        obtain ⟨v27, e28, eq25⟩ := fx_bnd eq25
        refine fx_raldI (pc := 54) F e28 dX6_from_54 ?_
        obtain ⟨h29, e30, eq25⟩ := fx_bnd eq25
        refine fx_rastI (pc := 55) F e30 dX6_from_55 ?_
        refine fx_iinc (pc := 56) (ls' := [some (8, this_0), some (0, i_0), some (0, (fx_w (k_23 + 1)))]) F (by decide) rfl rfl rfl dX6_from_56 ?_
        refine fx_goto (pc := 59) F 33 (by decide) dX6_from_59 ?_
        cases eq25
        exact ih _ rfl
      · have eq25 := (if_neg c26).symm.trans eq25
        cases eq25
        exact ex _ rfl
def f_X6_status (Fu : Nat) (Λ : fx_L) (this_0 : Int) (what_0 : Int) (h : fx_H) : Option (Int × fx_H) :=
  Option.bind (
    (f_X6_in Fu Λ what_0 0 2 h).bind fun v5 =>
    if ¬ v5 = 0 then
      (fx_rd Λ h (fx_tg Λ this_0 3) what_0).bind fun v8 =>
      some (v8, h)
    else
      (f_X6_bad Fu Λ this_0 (-1) h).bind fun (v10, h11) =>
      some (v10, h11)
  ) fun (v1, h2) =>
  some (v1, h2)
abbrev rm_X6_status : Room := { frames := 1, cells := 0, slots := 0, locals := 25 }
set_option maxRecDepth 100000 in
set_option maxHeartbeats 4000000 in
theorem m_X6_status (Fu : Nat) (Λ : fx_L) (this_0 : Int) (what_0 : Int) (h : fx_H) (r : Int) (ho : fx_H) (hf : f_X6_status Fu Λ this_0 what_0 h = some (r, ho)) : fx_Met yX6_status cX6_status 2 (some .int) rm_X6_status Λ [(8, this_0), (0, what_0)] h (some (0, r)) ho := by
  unfold f_X6_status at hf
  refine fx_enter (ls := [some (8, this_0), some (0, what_0)]) (by decide) (Nat.le_of_ble_eq_true rfl) rfl (fun M G F K => ?_)
  obtain ⟨⟨v1, h2⟩, e3, hf⟩ := fx_bnd hf
  have hJ4 : fx_J M G Λ 2 26 [some (8, this_0), some (0, what_0)] [(0, v1)] h2 := by
    cases hf
    exact fx_ireturn (pc := 26) F K dX6_status_26
  refine fx_iload_n (pc := 0) F 1 rfl rfl dX6_status_0 ?_
  refine fx_ri2l (pc := 1) F dX6_status_1 ?_
  refine fx_lconst (pc := 2) (z := 0) F rfl ⟨by decide, by decide⟩ (by decide) dX6_status_2 ?_
  refine fx_ldc2 (pc := 3) (z := 2) F (by decide) ⟨by decide, by decide⟩ wK_X6_271 dX6_status_3 ?_
  obtain ⟨v5, e6, e3⟩ := fx_bnd e3
  refine fx_cS (pc := 6) F [(1, what_0), (1, 0), (1, 2)] [] (m_X6_in Fu Λ what_0 0 2 h _ e6) kD_X6_in wSt_X6_in wM_X6_74 ⟨rfl, rfl⟩ ⟨by decide, by decide⟩ (Nat.le_of_ble_eq_true rfl) rfl dX6_status_6 ?_
  refine fx_nzne (pc := 9) F 21 (by decide) dX6_status_9 (fun c7 => ?_) (fun c7 => ?_)
  · have e3 := (if_pos c7).symm.trans e3
    refine fx_aload_n (pc := 12) (t := 6) F 0 rfl rfl dX6_status_12 ?_
    refine fx_gR (pc := 13) F 6 3 3 8 rfl kC_X6 (by decide) rfl wF_X6_20 dX6_status_13 ?_
    refine fx_iload_n (pc := 16) F 1 rfl rfl dX6_status_16 ?_
    obtain ⟨v8, e9, e3⟩ := fx_bnd e3
    refine fx_raldI (pc := 17) F e9 dX6_status_17 ?_
    cases e3
    refine fx_goto (pc := 18) F 26 (by decide) dX6_status_18 ?_
    exact hJ4
  · have e3 := (if_neg c7).symm.trans e3
    refine fx_aload_n (pc := 21) (t := 6) F 0 rfl rfl dX6_status_21 ?_
    refine fx_iconst (pc := 22) F ⟨by decide, by decide⟩ dX6_status_22 ?_
    obtain ⟨⟨v10, h11⟩, e12, e3⟩ := fx_bnd e3
    refine fx_cV (pc := 23) F 6 kC_X6 [(0, (-1))] this_0 [] (m_X6_bad Fu Λ this_0 (-1) h _ _ e12) kD_X6_bad kI_X6_bad rfl wM_X6_88 ⟨rfl, rfl⟩ ⟨by decide, by decide⟩ (Nat.le_of_ble_eq_true rfl) rfl dX6_status_23 ?_
    cases e3
    exact hJ4
def f_X6_counted (Fu : Nat) (Λ : fx_L) (this_0 : Int) (what_0 : Int) (h : fx_H) : Option (Int) :=
  Option.bind (
    if what_0 = 0 then
      (f_X6_things Fu Λ this_0 h).bind fun v5 =>
      some v5
    else
      Option.bind (
        if what_0 = 1 then
          (f_X6_people Fu Λ this_0 h).bind fun v11 =>
          some v11
        else
          Option.bind (
            if what_0 = 2 then
              (f_X6_hours Fu Λ this_0 h).bind fun v17 =>
              some v17
            else
              Option.bind (
                if what_0 = 3 then
                  (fx_rd Λ h (fx_tg Λ this_0 0) 94).bind fun v23 =>
                  some v23
                else
                  some (h this_0 17)
              ) fun v19 =>
              some v19
          ) fun v13 =>
          some v13
      ) fun v7 =>
      some v7
  ) fun v1 =>
  some v1
abbrev rm_X6_counted : Room := { frames := 1, cells := 0, slots := 0, locals := 20 }
set_option maxRecDepth 100000 in
set_option maxHeartbeats 4000000 in
theorem m_X6_counted (Fu : Nat) (Λ : fx_L) (this_0 : Int) (what_0 : Int) (h : fx_H) (r : Int) (hf : f_X6_counted Fu Λ this_0 what_0 h = some r) : fx_Met yX6_counted cX6_counted 2 (some .int) rm_X6_counted Λ [(8, this_0), (0, what_0)] h (some (0, r)) h := by
  unfold f_X6_counted at hf
  refine fx_enter (ls := [some (8, this_0), some (0, what_0)]) (by decide) (Nat.le_of_ble_eq_true rfl) rfl (fun M G F K => ?_)
  obtain ⟨v1, e2, hf⟩ := fx_bnd hf
  have hJ3 : fx_J M G Λ 2 54 [some (8, this_0), some (0, what_0)] [(0, v1)] h := by
    cases hf
    exact fx_ireturn (pc := 54) F K dX6_counted_54
  refine fx_iload_n (pc := 0) F 1 rfl rfl dX6_counted_0 ?_
  refine fx_nzeq (pc := 1) F 11 (by decide) dX6_counted_1 (fun c4 => ?_) (fun c4 => ?_)
  · have e2 := (if_pos c4).symm.trans e2
    refine fx_aload_n (pc := 4) (t := 6) F 0 rfl rfl dX6_counted_4 ?_
    obtain ⟨v5, e6, e2⟩ := fx_bnd e2
    refine fx_cV (pc := 5) F 6 kC_X6 [] this_0 [] (m_X6_things Fu Λ this_0 h _ e6) kD_X6_things kI_X6_things rfl wM_X6_70 ⟨rfl, rfl⟩ ⟨by decide, by decide⟩ (Nat.le_of_ble_eq_true rfl) rfl dX6_counted_5 ?_
    cases e2
    refine fx_goto (pc := 8) F 54 (by decide) dX6_counted_8 ?_
    exact hJ3
  · have e2 := (if_neg c4).symm.trans e2
    obtain ⟨v7, e8, e2⟩ := fx_bnd e2
    have hJ9 : fx_J M G Λ 2 54 [some (8, this_0), some (0, what_0)] [(0, v7)] h := by
      cases e2
      exact hJ3
    refine fx_iload_n (pc := 11) F 1 rfl rfl dX6_counted_11 ?_
    refine fx_iconst (pc := 12) F ⟨by decide, by decide⟩ dX6_counted_12 ?_
    refine fx_neq (pc := 13) F 23 (by decide) dX6_counted_13 (fun c10 => ?_) (fun c10 => ?_)
    · have e8 := (if_pos c10).symm.trans e8
      refine fx_aload_n (pc := 16) (t := 6) F 0 rfl rfl dX6_counted_16 ?_
      obtain ⟨v11, e12, e8⟩ := fx_bnd e8
      refine fx_cV (pc := 17) F 6 kC_X6 [] this_0 [] (m_X6_people Fu Λ this_0 h _ e12) kD_X6_people kI_X6_people rfl wM_X6_78 ⟨rfl, rfl⟩ ⟨by decide, by decide⟩ (Nat.le_of_ble_eq_true rfl) rfl dX6_counted_17 ?_
      cases e8
      refine fx_goto (pc := 20) F 54 (by decide) dX6_counted_20 ?_
      exact hJ9
    · have e8 := (if_neg c10).symm.trans e8
      obtain ⟨v13, e14, e8⟩ := fx_bnd e8
      have hJ15 : fx_J M G Λ 2 54 [some (8, this_0), some (0, what_0)] [(0, v13)] h := by
        cases e8
        exact hJ9
      refine fx_iload_n (pc := 23) F 1 rfl rfl dX6_counted_23 ?_
      refine fx_iconst (pc := 24) F ⟨by decide, by decide⟩ dX6_counted_24 ?_
      refine fx_neq (pc := 25) F 35 (by decide) dX6_counted_25 (fun c16 => ?_) (fun c16 => ?_)
      · have e14 := (if_pos c16).symm.trans e14
        refine fx_aload_n (pc := 28) (t := 6) F 0 rfl rfl dX6_counted_28 ?_
        obtain ⟨v17, e18, e14⟩ := fx_bnd e14
        refine fx_cV (pc := 29) F 6 kC_X6 [] this_0 [] (m_X6_hours Fu Λ this_0 h _ e18) kD_X6_hours kI_X6_hours rfl wM_X6_81 ⟨rfl, rfl⟩ ⟨by decide, by decide⟩ (Nat.le_of_ble_eq_true rfl) rfl dX6_counted_29 ?_
        cases e14
        refine fx_goto (pc := 32) F 54 (by decide) dX6_counted_32 ?_
        exact hJ15
      · have e14 := (if_neg c16).symm.trans e14
        obtain ⟨v19, e20, e14⟩ := fx_bnd e14
        have hJ21 : fx_J M G Λ 2 54 [some (8, this_0), some (0, what_0)] [(0, v19)] h := by
          cases e14
          exact hJ15
        refine fx_iload_n (pc := 35) F 1 rfl rfl dX6_counted_35 ?_
        refine fx_iconst (pc := 36) F ⟨by decide, by decide⟩ dX6_counted_36 ?_
        refine fx_neq (pc := 37) F 50 (by decide) dX6_counted_37 (fun c22 => ?_) (fun c22 => ?_)
        · have e20 := (if_pos c22).symm.trans e20
          refine fx_aload_n (pc := 40) (t := 6) F 0 rfl rfl dX6_counted_40 ?_
          refine fx_gR (pc := 41) F 6 0 0 8 rfl kC_X6 (by decide) rfl wF_X6_7 dX6_counted_41 ?_
          refine fx_bipush (pc := 44) F ⟨by decide, by decide⟩ (by decide) dX6_counted_44 ?_
          obtain ⟨v23, e24, e20⟩ := fx_bnd e20
          refine fx_raldI (pc := 46) F e24 dX6_counted_46 ?_
          cases e20
          refine fx_goto (pc := 47) F 54 (by decide) dX6_counted_47 ?_
          exact hJ21
        · have e20 := (if_neg c22).symm.trans e20
          refine fx_aload_n (pc := 50) (t := 6) F 0 rfl rfl dX6_counted_50 ?_
          refine fx_gI (pc := 51) F 6 17 17 rfl kC_X6 rfl wF_X6_202 dX6_counted_51 ?_
          cases e20
          exact hJ21
def f_X6_count (Fu : Nat) (Λ : fx_L) (this_0 : Int) (what_0 : Int) (h : fx_H) : Option (Int × fx_H) :=
  Option.bind (
    (f_X6_in Fu Λ what_0 0 4 h).bind fun v5 =>
    if ¬ v5 = 0 then
      (f_X6_counted Fu Λ this_0 what_0 h).bind fun v8 =>
      some (v8, h)
    else
      (f_X6_bad Fu Λ this_0 (-2) h).bind fun (v10, h11) =>
      some (v10, h11)
  ) fun (v1, h2) =>
  some (v1, h2)
abbrev rm_X6_count : Room := { frames := 2, cells := 0, slots := 0, locals := 41 }
set_option maxRecDepth 100000 in
set_option maxHeartbeats 4000000 in
theorem m_X6_count (Fu : Nat) (Λ : fx_L) (this_0 : Int) (what_0 : Int) (h : fx_H) (r : Int) (ho : fx_H) (hf : f_X6_count Fu Λ this_0 what_0 h = some (r, ho)) : fx_Met yX6_count cX6_count 2 (some .int) rm_X6_count Λ [(8, this_0), (0, what_0)] h (some (0, r)) ho := by
  unfold f_X6_count at hf
  refine fx_enter (ls := [some (8, this_0), some (0, what_0)]) (by decide) (Nat.le_of_ble_eq_true rfl) rfl (fun M G F K => ?_)
  obtain ⟨⟨v1, h2⟩, e3, hf⟩ := fx_bnd hf
  have hJ4 : fx_J M G Λ 2 26 [some (8, this_0), some (0, what_0)] [(0, v1)] h2 := by
    cases hf
    exact fx_ireturn (pc := 26) F K dX6_count_26
  refine fx_iload_n (pc := 0) F 1 rfl rfl dX6_count_0 ?_
  refine fx_ri2l (pc := 1) F dX6_count_1 ?_
  refine fx_lconst (pc := 2) (z := 0) F rfl ⟨by decide, by decide⟩ (by decide) dX6_count_2 ?_
  refine fx_ldc2 (pc := 3) (z := 4) F (by decide) ⟨by decide, by decide⟩ wK_X6_100 dX6_count_3 ?_
  obtain ⟨v5, e6, e3⟩ := fx_bnd e3
  refine fx_cS (pc := 6) F [(1, what_0), (1, 0), (1, 4)] [] (m_X6_in Fu Λ what_0 0 4 h _ e6) kD_X6_in wSt_X6_in wM_X6_74 ⟨rfl, rfl⟩ ⟨by decide, by decide⟩ (Nat.le_of_ble_eq_true rfl) rfl dX6_count_6 ?_
  refine fx_nzne (pc := 9) F 20 (by decide) dX6_count_9 (fun c7 => ?_) (fun c7 => ?_)
  · have e3 := (if_pos c7).symm.trans e3
    refine fx_aload_n (pc := 12) (t := 6) F 0 rfl rfl dX6_count_12 ?_
    refine fx_iload_n (pc := 13) F 1 rfl rfl dX6_count_13 ?_
    obtain ⟨v8, e9, e3⟩ := fx_bnd e3
    refine fx_cV (pc := 14) F 6 kC_X6 [(0, what_0)] this_0 [] (m_X6_counted Fu Λ this_0 what_0 h _ e9) kD_X6_counted kI_X6_counted rfl wM_X6_273 ⟨rfl, rfl⟩ ⟨by decide, by decide⟩ (Nat.le_of_ble_eq_true rfl) rfl dX6_count_14 ?_
    cases e3
    refine fx_goto (pc := 17) F 26 (by decide) dX6_count_17 ?_
    exact hJ4
  · have e3 := (if_neg c7).symm.trans e3
    refine fx_aload_n (pc := 20) (t := 6) F 0 rfl rfl dX6_count_20 ?_
    refine fx_bipush (pc := 21) F ⟨by decide, by decide⟩ (by decide) dX6_count_21 ?_
    obtain ⟨⟨v10, h11⟩, e12, e3⟩ := fx_bnd e3
    refine fx_cV (pc := 23) F 6 kC_X6 [(0, (-2))] this_0 [] (m_X6_bad Fu Λ this_0 (-2) h _ _ e12) kD_X6_bad kI_X6_bad rfl wM_X6_88 ⟨rfl, rfl⟩ ⟨by decide, by decide⟩ (Nat.le_of_ble_eq_true rfl) rfl dX6_count_23 ?_
    cases e3
    exact hJ4
def s_X6_sums_1 (Fu : Nat) (Λ : fx_L) (this_3 : Int) (first_4 : Int) (n_5 : Int) (h : fx_H) : Int × Int → Option ((Int × Int) ⊕ (Int × Int)) := fun (h_1, k_2) =>
  if k_2 < n_5 then
    (fx_rd Λ h (fx_tg Λ this_3 0) (fx_w (first_4 + k_2))).bind fun v8 =>
    some (.inl ((fx_wl ((fx_wl (31 * h_1)) + v8)), (fx_w (k_2 + 1))))
  else
    some (.inr (h_1, k_2))
def f_X6_sums (Fu : Nat) (Λ : fx_L) (this_0 : Int) (from0_0 : Int) (first_0 : Int) (n_0 : Int) (h : fx_H) : Option (Int) :=
  Option.bind (fx_loop (s_X6_sums_1 Fu Λ this_0 first_0 n_0 h) Fu (from0_0, 0)) fun (h_16, k_17) =>
  some h_16
abbrev rm_X6_sums : Room := { frames := 0, cells := 0, slots := 0, locals := 0 }
set_option maxRecDepth 100000 in
set_option maxHeartbeats 4000000 in
theorem m_X6_sums (Fu : Nat) (Λ : fx_L) (this_0 : Int) (from0_0 : Int) (first_0 : Int) (n_0 : Int) (h : fx_H) (r : Int) (hf : f_X6_sums Fu Λ this_0 from0_0 first_0 n_0 h = some r) : fx_Met yX6_sums cX6_sums 8 (some .long) rm_X6_sums Λ [(8, this_0), (1, from0_0), (0, first_0), (0, n_0)] h (some (1, r)) h := by
  unfold f_X6_sums at hf
  refine fx_enter (ls := [some (8, this_0), some (1, from0_0), none, some (0, first_0), some (0, n_0), none, none, none]) (by decide) (Nat.le_of_ble_eq_true rfl) rfl (fun M G F K => ?_)
  refine fx_lload_n (pc := 0) F 1 rfl rfl dX6_sums_0 ?_
  refine fx_lstore (pc := 1) (ls' := [some (8, this_0), some (1, from0_0), none, some (0, first_0), some (0, n_0), some (1, from0_0), none, none]) F (by decide) rfl rfl dX6_sums_1 ?_
  refine fx_iconst (pc := 3) F ⟨by decide, by decide⟩ dX6_sums_3 ?_
  refine fx_istore (pc := 4) (ls' := [some (8, this_0), some (1, from0_0), none, some (0, first_0), some (0, n_0), some (1, from0_0), none, some (0, 0)]) F (by decide) rfl rfl dX6_sums_4 ?_
  obtain ⟨⟨h_16, k_17⟩, e18, hf⟩ := fx_bnd hf
  have hE19 : fx_J M G Λ 8 38 [some (8, this_0), some (1, from0_0), none, some (0, first_0), some (0, n_0), some (1, h_16), none, some (0, k_17)] [] h := by
    refine fx_lload (pc := 38) F rfl dX6_sums_38 ?_
    cases hf
    exact fx_lreturn (pc := 40) F K dX6_sums_40
  refine fx_loop_J (Hd := (fun z : Int × Int => fx_J M G Λ 8 6 [some (8, this_0), some (1, from0_0), none, some (0, first_0), some (0, n_0), some (1, z.1), none, some (0, z.2)] [] h)) (Ex := (fun z : Int × Int => fx_J M G Λ 8 38 [some (8, this_0), some (1, from0_0), none, some (0, first_0), some (0, n_0), some (1, z.1), none, some (0, z.2)] [] h)) ?_ Fu _ _ e18 hE19
  rintro ⟨h_10, k_11⟩ o9 eq12 ih ex
  unfold s_X6_sums_1 at eq12
  show fx_J M G Λ 8 6 [some (8, this_0), some (1, from0_0), none, some (0, first_0), some (0, n_0), some (1, h_10), none, some (0, k_11)] [] h
  refine fx_iload (pc := 6) F rfl dX6_sums_6 ?_
  refine fx_iload (pc := 8) F rfl dX6_sums_8 ?_
  refine fx_nlt (pc := 10) F 38 (by decide) dX6_sums_10 (fun c13 => ?_) (fun c13 => ?_)
  · have eq12 := (if_pos c13).symm.trans eq12
    refine fx_ldc2 (pc := 13) (z := 31) F (by decide) ⟨by decide, by decide⟩ wK_X6_276 dX6_sums_13 ?_
    refine fx_lload (pc := 16) F rfl dX6_sums_16 ?_
    refine fx_lmul (pc := 18) F dX6_sums_18 ?_
    refine fx_aload_n (pc := 19) (t := 6) F 0 rfl rfl dX6_sums_19 ?_
    refine fx_gR (pc := 20) F 6 0 0 8 rfl kC_X6 (by decide) rfl wF_X6_7 dX6_sums_20 ?_
    refine fx_iload_n (pc := 23) F 3 rfl rfl dX6_sums_23 ?_
    refine fx_iload (pc := 24) F rfl dX6_sums_24 ?_
    refine fx_iadd (pc := 26) F dX6_sums_26 ?_
    obtain ⟨v14, e15, eq12⟩ := fx_bnd eq12
    refine fx_raldI (pc := 27) F e15 dX6_sums_27 ?_
    refine fx_ri2l (pc := 28) F dX6_sums_28 ?_
    refine fx_ladd (pc := 29) F dX6_sums_29 ?_
    refine fx_lstore (pc := 30) (ls' := [some (8, this_0), some (1, from0_0), none, some (0, first_0), some (0, n_0), some (1, (fx_wl ((fx_wl (31 * h_10)) + v14))), none, some (0, k_11)]) F (by decide) rfl rfl dX6_sums_30 ?_
    refine fx_iinc (pc := 32) (ls' := [some (8, this_0), some (1, from0_0), none, some (0, first_0), some (0, n_0), some (1, (fx_wl ((fx_wl (31 * h_10)) + v14))), none, some (0, (fx_w (k_11 + 1)))]) F (by decide) rfl rfl rfl dX6_sums_32 ?_
    refine fx_goto (pc := 35) F 6 (by decide) dX6_sums_35 ?_
    cases eq12
    exact ih _ rfl
  · have eq12 := (if_neg c13).symm.trans eq12
    cases eq12
    exact ex _ rfl
def s_X6_digest_1 (Fu : Nat) (Λ : fx_L) (this_3 : Int) (h : fx_H) : Int × Int → Option ((Int × Int) ⊕ (Int × Int)) := fun (h_1, what_2) =>
  if what_2 < 5 then
    (f_X6_counted Fu Λ this_3 what_2 h).bind fun v6 =>
    some (.inl ((fx_wl ((fx_wl (31 * h_1)) + v6)), (fx_w (what_2 + 1))))
  else
    some (.inr (h_1, what_2))
def s_X6_digest_2 (Fu : Nat) (Λ : fx_L) (this_30 : Int) (h : fx_H) : Int × Int → Option ((Int × Int) ⊕ (Int × Int)) := fun (h_28, p_29) =>
  (f_X6_people Fu Λ this_30 h).bind fun v32 =>
  if p_29 < v32 then
    (f_X6_hours Fu Λ this_30 h).bind fun v35 =>
    (f_X6_sums Fu Λ this_30 h_28 (fx_w (19 + (fx_w (5 * p_29)))) v35 h).bind fun v37 =>
    (f_X6_things Fu Λ this_30 h).bind fun v39 =>
    (f_X6_sums Fu Λ this_30 v37 (fx_w (44 + (fx_w (9 * p_29)))) v39 h).bind fun v41 =>
    (fx_rd Λ h (fx_tg Λ this_30 0) (fx_w (89 + p_29))).bind fun v43 =>
    some (.inl ((fx_wl ((fx_wl (31 * v41)) + v43)), (fx_w (p_29 + 1))))
  else
    some (.inr (h_28, p_29))
def f_X6_digest (Fu : Nat) (Λ : fx_L) (this_0 : Int) (h : fx_H) : Option (Int) :=
  Option.bind (fx_loop (s_X6_digest_1 Fu Λ this_0 h) Fu (751, 0)) fun (h_14, what_15) =>
  (f_X6_things Fu Λ this_0 h).bind fun v18 =>
  (f_X6_sums Fu Λ this_0 h_14 1 v18 h).bind fun v20 =>
  (f_X6_sums Fu Λ this_0 v20 12 2 h).bind fun v22 =>
  (f_X6_hours Fu Λ this_0 h).bind fun v24 =>
  (f_X6_sums Fu Λ this_0 v22 14 v24 h).bind fun v26 =>
  Option.bind (fx_loop (s_X6_digest_2 Fu Λ this_0 h) Fu (v26, 0)) fun (h_61, p_62) =>
  some (fx_wl ((fx_wl (31 * (fx_wl ((fx_wl (31 * h_61)) + (h this_0 1000004))))) + (h this_0 1000005)))
abbrev rm_X6_digest : Room := { frames := 2, cells := 0, slots := 0, locals := 41 }
set_option maxRecDepth 100000 in
set_option maxHeartbeats 4000000 in
theorem m_X6_digest (Fu : Nat) (Λ : fx_L) (this_0 : Int) (h : fx_H) (r : Int) (hf : f_X6_digest Fu Λ this_0 h = some r) : fx_Met yX6_digest cX6_digest 4 (some .long) rm_X6_digest Λ [(8, this_0)] h (some (1, r)) h := by
  unfold f_X6_digest at hf
  refine fx_enter (ls := [some (8, this_0), none, none, none]) (by decide) (Nat.le_of_ble_eq_true rfl) rfl (fun M G F K => ?_)
  refine fx_ldc2 (pc := 0) (z := 751) F (by decide) ⟨by decide, by decide⟩ wK_X6_278 dX6_digest_0 ?_
  refine fx_lstore_n (pc := 3) (ls' := [some (8, this_0), some (1, 751), none, none]) F 1 rfl (by decide) rfl rfl dX6_digest_3 ?_
  refine fx_iconst (pc := 4) F ⟨by decide, by decide⟩ dX6_digest_4 ?_
  refine fx_istore_n (pc := 5) (ls' := [some (8, this_0), some (1, 751), none, some (0, 0)]) F 3 rfl (by decide) rfl rfl dX6_digest_5 ?_
  obtain ⟨⟨h_14, what_15⟩, e16, hf⟩ := fx_bnd hf
  have hE17 : fx_J M G Λ 4 30 [some (8, this_0), some (1, h_14), none, some (0, what_15)] [] h := by
    refine fx_aload_n (pc := 30) (t := 6) F 0 rfl rfl dX6_digest_30 ?_
    refine fx_lload_n (pc := 31) F 1 rfl rfl dX6_digest_31 ?_
    refine fx_iconst (pc := 32) F ⟨by decide, by decide⟩ dX6_digest_32 ?_
    refine fx_aload_n (pc := 33) (t := 6) F 0 rfl rfl dX6_digest_33 ?_
    obtain ⟨v18, e19, hf⟩ := fx_bnd hf
    refine fx_cV (pc := 34) F 6 kC_X6 [] this_0 [(0, 1), (1, h_14), (8, this_0)] (m_X6_things Fu Λ this_0 h _ e19) kD_X6_things kI_X6_things rfl wM_X6_70 ⟨rfl, rfl⟩ ⟨by decide, by decide⟩ (Nat.le_of_ble_eq_true rfl) rfl dX6_digest_34 ?_
    obtain ⟨v20, e21, hf⟩ := fx_bnd hf
    refine fx_cV (pc := 37) F 6 kC_X6 [(1, h_14), (0, 1), (0, v18)] this_0 [] (m_X6_sums Fu Λ this_0 h_14 1 v18 h _ e21) kD_X6_sums kI_X6_sums rfl wM_X6_280 ⟨rfl, rfl⟩ ⟨by decide, by decide⟩ (Nat.le_of_ble_eq_true rfl) rfl dX6_digest_37 ?_
    refine fx_lstore_n (pc := 40) (ls' := [some (8, this_0), some (1, v20), none, some (0, what_15)]) F 1 rfl (by decide) rfl rfl dX6_digest_40 ?_
    refine fx_aload_n (pc := 41) (t := 6) F 0 rfl rfl dX6_digest_41 ?_
    refine fx_lload_n (pc := 42) F 1 rfl rfl dX6_digest_42 ?_
    refine fx_bipush (pc := 43) F ⟨by decide, by decide⟩ (by decide) dX6_digest_43 ?_
    refine fx_iconst (pc := 45) F ⟨by decide, by decide⟩ dX6_digest_45 ?_
    obtain ⟨v22, e23, hf⟩ := fx_bnd hf
    refine fx_cV (pc := 46) F 6 kC_X6 [(1, v20), (0, 12), (0, 2)] this_0 [] (m_X6_sums Fu Λ this_0 v20 12 2 h _ e23) kD_X6_sums kI_X6_sums rfl wM_X6_280 ⟨rfl, rfl⟩ ⟨by decide, by decide⟩ (Nat.le_of_ble_eq_true rfl) rfl dX6_digest_46 ?_
    refine fx_lstore_n (pc := 49) (ls' := [some (8, this_0), some (1, v22), none, some (0, what_15)]) F 1 rfl (by decide) rfl rfl dX6_digest_49 ?_
    refine fx_aload_n (pc := 50) (t := 6) F 0 rfl rfl dX6_digest_50 ?_
    refine fx_lload_n (pc := 51) F 1 rfl rfl dX6_digest_51 ?_
    refine fx_bipush (pc := 52) F ⟨by decide, by decide⟩ (by decide) dX6_digest_52 ?_
    refine fx_aload_n (pc := 54) (t := 6) F 0 rfl rfl dX6_digest_54 ?_
    obtain ⟨v24, e25, hf⟩ := fx_bnd hf
    refine fx_cV (pc := 55) F 6 kC_X6 [] this_0 [(0, 14), (1, v22), (8, this_0)] (m_X6_hours Fu Λ this_0 h _ e25) kD_X6_hours kI_X6_hours rfl wM_X6_81 ⟨rfl, rfl⟩ ⟨by decide, by decide⟩ (Nat.le_of_ble_eq_true rfl) rfl dX6_digest_55 ?_
    obtain ⟨v26, e27, hf⟩ := fx_bnd hf
    refine fx_cV (pc := 58) F 6 kC_X6 [(1, v22), (0, 14), (0, v24)] this_0 [] (m_X6_sums Fu Λ this_0 v22 14 v24 h _ e27) kD_X6_sums kI_X6_sums rfl wM_X6_280 ⟨rfl, rfl⟩ ⟨by decide, by decide⟩ (Nat.le_of_ble_eq_true rfl) rfl dX6_digest_58 ?_
    refine fx_lstore_n (pc := 61) (ls' := [some (8, this_0), some (1, v26), none, some (0, what_15)]) F 1 rfl (by decide) rfl rfl dX6_digest_61 ?_
    refine fx_iconst (pc := 62) F ⟨by decide, by decide⟩ dX6_digest_62 ?_
    refine fx_istore_n (pc := 63) (ls' := [some (8, this_0), some (1, v26), none, some (0, 0)]) F 3 rfl (by decide) rfl rfl dX6_digest_63 ?_
    obtain ⟨⟨h_61, p_62⟩, e63, hf⟩ := fx_bnd hf
    have hE64 : fx_J M G Λ 4 128 [some (8, this_0), some (1, h_61), none, some (0, p_62)] [] h := by
      refine fx_ldc2 (pc := 128) (z := 31) F (by decide) ⟨by decide, by decide⟩ wK_X6_276 dX6_digest_128 ?_
      refine fx_ldc2 (pc := 131) (z := 31) F (by decide) ⟨by decide, by decide⟩ wK_X6_276 dX6_digest_131 ?_
      refine fx_lload_n (pc := 134) F 1 rfl rfl dX6_digest_134 ?_
      refine fx_lmul (pc := 135) F dX6_digest_135 ?_
      refine fx_aload_n (pc := 136) (t := 6) F 0 rfl rfl dX6_digest_136 ?_
      refine fx_gL (pc := 137) F 6 4 1000004 rfl kC_X6 rfl wF_X6_197 dX6_digest_137 ?_
      refine fx_ladd (pc := 140) F dX6_digest_140 ?_
      refine fx_lmul (pc := 141) F dX6_digest_141 ?_
      refine fx_aload_n (pc := 142) (t := 6) F 0 rfl rfl dX6_digest_142 ?_
      refine fx_gL (pc := 143) F 6 5 1000005 rfl kC_X6 rfl wF_X6_23 dX6_digest_143 ?_
      refine fx_ladd (pc := 146) F dX6_digest_146 ?_
      cases hf
      exact fx_lreturn (pc := 147) F K dX6_digest_147
    refine fx_loop_J (Hd := (fun z : Int × Int => fx_J M G Λ 4 64 [some (8, this_0), some (1, z.1), none, some (0, z.2)] [] h)) (Ex := (fun z : Int × Int => fx_J M G Λ 4 128 [some (8, this_0), some (1, z.1), none, some (0, z.2)] [] h)) ?_ Fu _ _ e63 hE64
    rintro ⟨h_45, p_46⟩ o9 eq47 ih ex
    unfold s_X6_digest_2 at eq47
    show fx_J M G Λ 4 64 [some (8, this_0), some (1, h_45), none, some (0, p_46)] [] h
    refine fx_iload_n (pc := 64) F 3 rfl rfl dX6_digest_64 ?_
    refine fx_aload_n (pc := 65) (t := 6) F 0 rfl rfl dX6_digest_65 ?_
    obtain ⟨v48, e49, eq47⟩ := fx_bnd eq47
    refine fx_cV (pc := 66) F 6 kC_X6 [] this_0 [(0, p_46)] (m_X6_people Fu Λ this_0 h _ e49) kD_X6_people kI_X6_people rfl wM_X6_78 ⟨rfl, rfl⟩ ⟨by decide, by decide⟩ (Nat.le_of_ble_eq_true rfl) rfl dX6_digest_66 ?_
    refine fx_nlt (pc := 69) F 128 (by decide) dX6_digest_69 (fun c50 => ?_) (fun c50 => ?_)
    · have eq47 := (if_pos c50).symm.trans eq47
      refine fx_aload_n (pc := 72) (t := 6) F 0 rfl rfl dX6_digest_72 ?_
      refine fx_lload_n (pc := 73) F 1 rfl rfl dX6_digest_73 ?_
      refine fx_bipush (pc := 74) F ⟨by decide, by decide⟩ (by decide) dX6_digest_74 ?_
      refine fx_iconst (pc := 76) F ⟨by decide, by decide⟩ dX6_digest_76 ?_
      refine fx_iload_n (pc := 77) F 3 rfl rfl dX6_digest_77 ?_
      refine fx_imul (pc := 78) F dX6_digest_78 ?_
      refine fx_iadd (pc := 79) F dX6_digest_79 ?_
      refine fx_aload_n (pc := 80) (t := 6) F 0 rfl rfl dX6_digest_80 ?_
      obtain ⟨v51, e52, eq47⟩ := fx_bnd eq47
      refine fx_cV (pc := 81) F 6 kC_X6 [] this_0 [(0, (fx_w (19 + (fx_w (5 * p_46))))), (1, h_45), (8, this_0)] (m_X6_hours Fu Λ this_0 h _ e52) kD_X6_hours kI_X6_hours rfl wM_X6_81 ⟨rfl, rfl⟩ ⟨by decide, by decide⟩ (Nat.le_of_ble_eq_true rfl) rfl dX6_digest_81 ?_
      obtain ⟨v53, e54, eq47⟩ := fx_bnd eq47
      refine fx_cV (pc := 84) F 6 kC_X6 [(1, h_45), (0, (fx_w (19 + (fx_w (5 * p_46))))), (0, v51)] this_0 [] (m_X6_sums Fu Λ this_0 h_45 (fx_w (19 + (fx_w (5 * p_46)))) v51 h _ e54) kD_X6_sums kI_X6_sums rfl wM_X6_280 ⟨rfl, rfl⟩ ⟨by decide, by decide⟩ (Nat.le_of_ble_eq_true rfl) rfl dX6_digest_84 ?_
      refine fx_lstore_n (pc := 87) (ls' := [some (8, this_0), some (1, v53), none, some (0, p_46)]) F 1 rfl (by decide) rfl rfl dX6_digest_87 ?_
      refine fx_aload_n (pc := 88) (t := 6) F 0 rfl rfl dX6_digest_88 ?_
      refine fx_lload_n (pc := 89) F 1 rfl rfl dX6_digest_89 ?_
      refine fx_bipush (pc := 90) F ⟨by decide, by decide⟩ (by decide) dX6_digest_90 ?_
      refine fx_bipush (pc := 92) F ⟨by decide, by decide⟩ (by decide) dX6_digest_92 ?_
      refine fx_iload_n (pc := 94) F 3 rfl rfl dX6_digest_94 ?_
      refine fx_imul (pc := 95) F dX6_digest_95 ?_
      refine fx_iadd (pc := 96) F dX6_digest_96 ?_
      refine fx_aload_n (pc := 97) (t := 6) F 0 rfl rfl dX6_digest_97 ?_
      obtain ⟨v55, e56, eq47⟩ := fx_bnd eq47
      refine fx_cV (pc := 98) F 6 kC_X6 [] this_0 [(0, (fx_w (44 + (fx_w (9 * p_46))))), (1, v53), (8, this_0)] (m_X6_things Fu Λ this_0 h _ e56) kD_X6_things kI_X6_things rfl wM_X6_70 ⟨rfl, rfl⟩ ⟨by decide, by decide⟩ (Nat.le_of_ble_eq_true rfl) rfl dX6_digest_98 ?_
      obtain ⟨v57, e58, eq47⟩ := fx_bnd eq47
      refine fx_cV (pc := 101) F 6 kC_X6 [(1, v53), (0, (fx_w (44 + (fx_w (9 * p_46))))), (0, v55)] this_0 [] (m_X6_sums Fu Λ this_0 v53 (fx_w (44 + (fx_w (9 * p_46)))) v55 h _ e58) kD_X6_sums kI_X6_sums rfl wM_X6_280 ⟨rfl, rfl⟩ ⟨by decide, by decide⟩ (Nat.le_of_ble_eq_true rfl) rfl dX6_digest_101 ?_
      refine fx_lstore_n (pc := 104) (ls' := [some (8, this_0), some (1, v57), none, some (0, p_46)]) F 1 rfl (by decide) rfl rfl dX6_digest_104 ?_
      refine fx_ldc2 (pc := 105) (z := 31) F (by decide) ⟨by decide, by decide⟩ wK_X6_276 dX6_digest_105 ?_
      refine fx_lload_n (pc := 108) F 1 rfl rfl dX6_digest_108 ?_
      refine fx_lmul (pc := 109) F dX6_digest_109 ?_
      refine fx_aload_n (pc := 110) (t := 6) F 0 rfl rfl dX6_digest_110 ?_
      refine fx_gR (pc := 111) F 6 0 0 8 rfl kC_X6 (by decide) rfl wF_X6_7 dX6_digest_111 ?_
      refine fx_bipush (pc := 114) F ⟨by decide, by decide⟩ (by decide) dX6_digest_114 ?_
      refine fx_iload_n (pc := 116) F 3 rfl rfl dX6_digest_116 ?_
      refine fx_iadd (pc := 117) F dX6_digest_117 ?_
      obtain ⟨v59, e60, eq47⟩ := fx_bnd eq47
      refine fx_raldI (pc := 118) F e60 dX6_digest_118 ?_
      refine fx_ri2l (pc := 119) F dX6_digest_119 ?_
      refine fx_ladd (pc := 120) F dX6_digest_120 ?_
      refine fx_lstore_n (pc := 121) (ls' := [some (8, this_0), some (1, (fx_wl ((fx_wl (31 * v57)) + v59))), none, some (0, p_46)]) F 1 rfl (by decide) rfl rfl dX6_digest_121 ?_
      refine fx_iinc (pc := 122) (ls' := [some (8, this_0), some (1, (fx_wl ((fx_wl (31 * v57)) + v59))), none, some (0, (fx_w (p_46 + 1)))]) F (by decide) rfl rfl rfl dX6_digest_122 ?_
      refine fx_goto (pc := 125) F 64 (by decide) dX6_digest_125 ?_
      cases eq47
      exact ih _ rfl
    · have eq47 := (if_neg c50).symm.trans eq47
      cases eq47
      exact ex _ rfl
  refine fx_loop_J (Hd := (fun z : Int × Int => fx_J M G Λ 4 6 [some (8, this_0), some (1, z.1), none, some (0, z.2)] [] h)) (Ex := (fun z : Int × Int => fx_J M G Λ 4 30 [some (8, this_0), some (1, z.1), none, some (0, z.2)] [] h)) ?_ Fu _ _ e16 hE17
  rintro ⟨h_8, what_9⟩ o9 eq10 ih ex
  unfold s_X6_digest_1 at eq10
  show fx_J M G Λ 4 6 [some (8, this_0), some (1, h_8), none, some (0, what_9)] [] h
  refine fx_iload_n (pc := 6) F 3 rfl rfl dX6_digest_6 ?_
  refine fx_iconst (pc := 7) F ⟨by decide, by decide⟩ dX6_digest_7 ?_
  refine fx_nlt (pc := 8) F 30 (by decide) dX6_digest_8 (fun c11 => ?_) (fun c11 => ?_)
  · have eq10 := (if_pos c11).symm.trans eq10
    refine fx_ldc2 (pc := 11) (z := 31) F (by decide) ⟨by decide, by decide⟩ wK_X6_276 dX6_digest_11 ?_
    refine fx_lload_n (pc := 14) F 1 rfl rfl dX6_digest_14 ?_
    refine fx_lmul (pc := 15) F dX6_digest_15 ?_
    refine fx_aload_n (pc := 16) (t := 6) F 0 rfl rfl dX6_digest_16 ?_
    refine fx_iload_n (pc := 17) F 3 rfl rfl dX6_digest_17 ?_
    obtain ⟨v12, e13, eq10⟩ := fx_bnd eq10
    refine fx_cV (pc := 18) F 6 kC_X6 [(0, what_9)] this_0 [(1, (fx_wl (31 * h_8)))] (m_X6_counted Fu Λ this_0 what_9 h _ e13) kD_X6_counted kI_X6_counted rfl wM_X6_273 ⟨rfl, rfl⟩ ⟨by decide, by decide⟩ (Nat.le_of_ble_eq_true rfl) rfl dX6_digest_18 ?_
    refine fx_ri2l (pc := 21) F dX6_digest_21 ?_
    refine fx_ladd (pc := 22) F dX6_digest_22 ?_
    refine fx_lstore_n (pc := 23) (ls' := [some (8, this_0), some (1, (fx_wl ((fx_wl (31 * h_8)) + v12))), none, some (0, what_9)]) F 1 rfl (by decide) rfl rfl dX6_digest_23 ?_
    refine fx_iinc (pc := 24) (ls' := [some (8, this_0), some (1, (fx_wl ((fx_wl (31 * h_8)) + v12))), none, some (0, (fx_w (what_9 + 1)))]) F (by decide) rfl rfl rfl dX6_digest_24 ?_
    refine fx_goto (pc := 27) F 6 (by decide) dX6_digest_27 ?_
    cases eq10
    exact ih _ rfl
  · have eq10 := (if_neg c11).symm.trans eq10
    cases eq10
    exact ex _ rfl
