def f_X5_did (Fu : Nat) (Λ : fx_L) (this_0 : Int) (hour_0 : Int) (person_0 : Int) (h : fx_H) : Option (Int × fx_H) :=
  Option.bind (
    (f_X4_hasHour Fu Λ (fx_tg Λ this_0 0) hour_0 h).bind fun v5 =>
    if v5 = 0 then
      some true
    else
      if ¬ person_0 = (-1) then
        (f_X4_hasPerson Fu Λ (fx_tg Λ this_0 0) person_0 h).bind fun v9 =>
        if v9 = 0 then
          some true
        else
          some false
      else
        some false
  ) fun b1 =>
  if b1 = true then
    (f_X5_refuseBad Fu Λ this_0 (-10) h).bind fun (v13, h14) =>
    some (v13, h14)
  else
    (f_X0_sit Fu Λ (fx_tg Λ this_0 5) (fx_tg Λ this_0 0) (h (fx_tg Λ this_0 0) 1) (-1) h).bind fun h16 =>
    (f_X2_findWays Fu Λ (fx_tg Λ this_0 7) (fx_tg Λ this_0 0) (fx_tg Λ this_0 5) hour_0 (h16 this_0 13) h16).bind fun h18 =>
    if person_0 = (-1) then
      some ((h18 (fx_tg Λ this_0 7) 0), h18)
    else
      Option.bind (
        if (h18 (fx_tg Λ this_0 7) 0) = 0 then
          some (-5 : Int)
        else
          (fx_rd Λ h18 (fx_tg Λ (fx_tg Λ this_0 7) 1) person_0).bind fun v25 =>
          some v25
      ) fun v21 =>
      some (v21, h18)
abbrev rm_X5_did : Room := { frames := 4, cells := 0, slots := 0, locals := 110 }
set_option maxRecDepth 100000 in
set_option maxHeartbeats 4000000 in
theorem m_X5_did (Fu : Nat) (Λ : fx_L) (this_0 : Int) (hour_0 : Int) (person_0 : Int) (h : fx_H) (r : Int) (ho : fx_H) (hf : f_X5_did Fu Λ this_0 hour_0 person_0 h = some (r, ho)) : fx_Met yX5_did cX5_did 3 (some .int) rm_X5_did Λ [(7, this_0), (0, hour_0), (0, person_0)] h (some (0, r)) ho := by
  unfold f_X5_did at hf
  refine fx_enter (ls := [some (7, this_0), some (0, hour_0), some (0, person_0)]) (by decide) (Nat.le_of_ble_eq_true rfl) rfl (fun M G F K => ?_)
  obtain ⟨b1, e2, hf⟩ := fx_bnd hf
  have hT3 : b1 = true → fx_J M G Λ 3 27 [some (7, this_0), some (0, hour_0), some (0, person_0)] [] h := fun c12 => by
    have hf := (if_pos c12).symm.trans hf
    refine fx_aload_n (pc := 27) (t := 5) F 0 rfl rfl dX5_did_27 ?_
    refine fx_bipush (pc := 28) F ⟨by decide, by decide⟩ (by decide) dX5_did_28 ?_
    obtain ⟨⟨v13, h14⟩, e15, hf⟩ := fx_bnd hf
    refine fx_cV (pc := 30) F 5 kC_X5 [(0, (-10))] this_0 [] (m_X5_refuseBad Fu Λ this_0 (-10) h _ _ e15) kD_X5_refuseBad kI_X5_refuseBad rfl wM_X5_63 ⟨rfl, rfl⟩ ⟨by decide, by decide⟩ (Nat.le_of_ble_eq_true rfl) rfl dX5_did_30 ?_
    cases hf
    exact fx_ireturn (pc := 33) F K dX5_did_33
  have hF4 : ¬ b1 = true → fx_J M G Λ 3 34 [some (7, this_0), some (0, hour_0), some (0, person_0)] [] h := fun c12 => by
    have hf := (if_neg c12).symm.trans hf
    refine fx_aload_n (pc := 34) (t := 5) F 0 rfl rfl dX5_did_34 ?_
    refine fx_gR (pc := 35) F 5 5 5 0 rfl kC_X5 (by decide) rfl wF_X5_37 dX5_did_35 ?_
    refine fx_aload_n (pc := 38) (t := 5) F 0 rfl rfl dX5_did_38 ?_
    refine fx_gR (pc := 39) F 5 0 0 4 rfl kC_X5 (by decide) rfl wF_X5_10 dX5_did_39 ?_
    refine fx_aload_n (pc := 42) (t := 5) F 0 rfl rfl dX5_did_42 ?_
    refine fx_gR (pc := 43) F 5 0 0 4 rfl kC_X5 (by decide) rfl wF_X5_10 dX5_did_43 ?_
    refine fx_gI (pc := 46) F 4 1 1 rfl kC_X4 rfl wF_X5_147 dX5_did_46 ?_
    refine fx_iconst (pc := 49) F ⟨by decide, by decide⟩ dX5_did_49 ?_
    obtain ⟨h16, e17, hf⟩ := fx_bnd hf
    refine fx_cVv (pc := 50) F 0 kC_X0 [(6, (fx_tg Λ this_0 0)), (0, (h (fx_tg Λ this_0 0) 1)), (0, (-1))] (fx_tg Λ this_0 5) [] (m_X0_sit Fu Λ (fx_tg Λ this_0 5) (fx_tg Λ this_0 0) (h (fx_tg Λ this_0 0) 1) (-1) h _ e17) kD_X0_sit kI_X0_sit rfl wM_X5_150 ⟨rfl, rfl⟩ ⟨by decide, by decide⟩ (Nat.le_of_ble_eq_true rfl) rfl dX5_did_50 ?_
    refine fx_aload_n (pc := 53) (t := 5) F 0 rfl rfl dX5_did_53 ?_
    refine fx_gR (pc := 54) F 5 7 7 2 rfl kC_X5 (by decide) rfl wF_X5_51 dX5_did_54 ?_
    refine fx_aload_n (pc := 57) (t := 5) F 0 rfl rfl dX5_did_57 ?_
    refine fx_gR (pc := 58) F 5 0 0 4 rfl kC_X5 (by decide) rfl wF_X5_10 dX5_did_58 ?_
    refine fx_aload_n (pc := 61) (t := 5) F 0 rfl rfl dX5_did_61 ?_
    refine fx_gR (pc := 62) F 5 5 5 0 rfl kC_X5 (by decide) rfl wF_X5_37 dX5_did_62 ?_
    refine fx_iload_n (pc := 65) F 1 rfl rfl dX5_did_65 ?_
    refine fx_aload_n (pc := 66) (t := 5) F 0 rfl rfl dX5_did_66 ?_
    refine fx_gI (pc := 67) F 5 13 13 rfl kC_X5 rfl wF_X5_75 dX5_did_67 ?_
    obtain ⟨h18, e19, hf⟩ := fx_bnd hf
    refine fx_cVv (pc := 70) F 2 kC_X2 [(6, (fx_tg Λ this_0 0)), (2, (fx_tg Λ this_0 5)), (0, hour_0), (0, (h16 this_0 13))] (fx_tg Λ this_0 7) [] (m_X2_findWays Fu Λ (fx_tg Λ this_0 7) (fx_tg Λ this_0 0) (fx_tg Λ this_0 5) hour_0 (h16 this_0 13) h16 _ e19) kD_X2_findWays kI_X2_findWays rfl wM_X5_212 ⟨rfl, rfl⟩ ⟨by decide, by decide⟩ (Nat.le_of_ble_eq_true rfl) rfl dX5_did_70 ?_
    refine fx_iload_n (pc := 73) F 2 rfl rfl dX5_did_73 ?_
    refine fx_iconst (pc := 74) F ⟨by decide, by decide⟩ dX5_did_74 ?_
    refine fx_neq (pc := 75) F 86 (by decide) dX5_did_75 (fun c20 => ?_) (fun c20 => ?_)
    · have hf := (if_pos c20).symm.trans hf
      refine fx_aload_n (pc := 78) (t := 5) F 0 rfl rfl dX5_did_78 ?_
      refine fx_gR (pc := 79) F 5 7 7 2 rfl kC_X5 (by decide) rfl wF_X5_51 dX5_did_79 ?_
      refine fx_gI (pc := 82) F 2 0 0 rfl kC_X2 rfl wF_X5_216 dX5_did_82 ?_
      cases hf
      exact fx_ireturn (pc := 85) F K dX5_did_85
    · have hf := (if_neg c20).symm.trans hf
      obtain ⟨v21, e22, hf⟩ := fx_bnd hf
      have hJ23 : fx_J M G Λ 3 110 [some (7, this_0), some (0, hour_0), some (0, person_0)] [(0, v21)] h18 := by
        cases hf
        exact fx_ireturn (pc := 110) F K dX5_did_110
      refine fx_aload_n (pc := 86) (t := 5) F 0 rfl rfl dX5_did_86 ?_
      refine fx_gR (pc := 87) F 5 7 7 2 rfl kC_X5 (by decide) rfl wF_X5_51 dX5_did_87 ?_
      refine fx_gI (pc := 90) F 2 0 0 rfl kC_X2 rfl wF_X5_216 dX5_did_90 ?_
      refine fx_nzeq (pc := 93) F 101 (by decide) dX5_did_93 (fun c24 => ?_) (fun c24 => ?_)
      · have e22 := (if_pos c24).symm.trans e22
        refine fx_bipush (pc := 96) F ⟨by decide, by decide⟩ (by decide) dX5_did_96 ?_
        cases e22
        refine fx_goto (pc := 98) F 110 (by decide) dX5_did_98 ?_
        exact hJ23
      · have e22 := (if_neg c24).symm.trans e22
        refine fx_aload_n (pc := 101) (t := 5) F 0 rfl rfl dX5_did_101 ?_
        refine fx_gR (pc := 102) F 5 7 7 2 rfl kC_X5 (by decide) rfl wF_X5_51 dX5_did_102 ?_
        refine fx_gR (pc := 105) F 2 1 1 8 rfl kC_X2 (by decide) rfl wF_X5_219 dX5_did_105 ?_
        refine fx_iload_n (pc := 108) F 2 rfl rfl dX5_did_108 ?_
        obtain ⟨v25, e26, e22⟩ := fx_bnd e22
        refine fx_raldI (pc := 109) F e26 dX5_did_109 ?_
        cases e22
        exact hJ23
  refine fx_aload_n (pc := 0) (t := 5) F 0 rfl rfl dX5_did_0 ?_
  refine fx_gR (pc := 1) F 5 0 0 4 rfl kC_X5 (by decide) rfl wF_X5_10 dX5_did_1 ?_
  refine fx_iload_n (pc := 4) F 1 rfl rfl dX5_did_4 ?_
  obtain ⟨v5, e6, e2⟩ := fx_bnd e2
  refine fx_cV (pc := 5) F 4 kC_X4 [(0, hour_0)] (fx_tg Λ this_0 0) [] (m_X4_hasHour Fu Λ (fx_tg Λ this_0 0) hour_0 h _ e6) kD_X4_hasHour kI_X4_hasHour rfl wM_X5_90 ⟨rfl, rfl⟩ ⟨by decide, by decide⟩ (Nat.le_of_ble_eq_true rfl) rfl dX5_did_5 ?_
  refine fx_jzeq (pc := 8) F 27 (by decide) dX5_did_8 (fun c7 => ?_) (fun c7 => ?_)
  · have e2 := (if_pos c7).symm.trans e2
    cases e2
    exact hT3 (by decide)
  · have e2 := (if_neg c7).symm.trans e2
    refine fx_iload_n (pc := 11) F 2 rfl rfl dX5_did_11 ?_
    refine fx_iconst (pc := 12) F ⟨by decide, by decide⟩ dX5_did_12 ?_
    refine fx_nne (pc := 13) F 34 (by decide) dX5_did_13 (fun c8 => ?_) (fun c8 => ?_)
    · have e2 := (if_pos c8).symm.trans e2
      refine fx_aload_n (pc := 16) (t := 5) F 0 rfl rfl dX5_did_16 ?_
      refine fx_gR (pc := 17) F 5 0 0 4 rfl kC_X5 (by decide) rfl wF_X5_10 dX5_did_17 ?_
      refine fx_iload_n (pc := 20) F 2 rfl rfl dX5_did_20 ?_
      obtain ⟨v9, e10, e2⟩ := fx_bnd e2
      refine fx_cV (pc := 21) F 4 kC_X4 [(0, person_0)] (fx_tg Λ this_0 0) [] (m_X4_hasPerson Fu Λ (fx_tg Λ this_0 0) person_0 h _ e10) kD_X4_hasPerson kI_X4_hasPerson rfl wM_X5_100 ⟨rfl, rfl⟩ ⟨by decide, by decide⟩ (Nat.le_of_ble_eq_true rfl) rfl dX5_did_21 ?_
      refine fx_nzeq (pc := 24) F 34 (by decide) dX5_did_24 (fun c11 => ?_) (fun c11 => ?_)
      · have e2 := (if_pos c11).symm.trans e2
        cases e2
        exact hT3 (by decide)
      · have e2 := (if_neg c11).symm.trans e2
        cases e2
        exact hF4 (by decide)
    · have e2 := (if_neg c8).symm.trans e2
      cases e2
      exact hF4 (by decide)
def s_X5_timesCopied_1 (Fu : Nat) (Λ : fx_L) (this_3 : Int) (person_4 : Int) (other_5 : Int) (h : fx_H) : Int × Int → Option ((Int × Int) ⊕ (Int × Int)) := fun (times_1, hour_2) =>
  if hour_2 < (h (fx_tg Λ this_3 0) 3) then
    (fx_rr Λ (fx_tg Λ (fx_tg Λ this_3 0) 8) (fx_w (hour_2 - 1))).bind fun v8 =>
    (fx_rd Λ h v8 other_5).bind fun v10 =>
    Option.bind (
      if ¬ v10 = 9 then
        (fx_rr Λ (fx_tg Λ (fx_tg Λ this_3 0) 8) hour_2).bind fun v17 =>
        (fx_rd Λ h v17 person_4).bind fun v19 =>
        if v19 = v10 then
          some true
        else
          some false
      else
        some false
    ) fun b12 =>
    if b12 = true then
      some (.inl ((fx_w (times_1 + 1)), (fx_w (hour_2 + 1))))
    else
      some (.inl (times_1, (fx_w (hour_2 + 1))))
  else
    some (.inr (times_1, hour_2))
def f_X5_timesCopied (Fu : Nat) (Λ : fx_L) (this_0 : Int) (person_0 : Int) (other_0 : Int) (h : fx_H) : Option (Int) :=
  Option.bind (fx_loop (s_X5_timesCopied_1 Fu Λ this_0 person_0 other_0 h) Fu (0, 1)) fun (times_42, hour_43) =>
  some times_42
abbrev rm_X5_timesCopied : Room := { frames := 0, cells := 0, slots := 0, locals := 0 }
set_option maxRecDepth 100000 in
set_option maxHeartbeats 4000000 in
theorem m_X5_timesCopied (Fu : Nat) (Λ : fx_L) (this_0 : Int) (person_0 : Int) (other_0 : Int) (h : fx_H) (r : Int) (hf : f_X5_timesCopied Fu Λ this_0 person_0 other_0 h = some r) : fx_Met yX5_timesCopied cX5_timesCopied 6 (some .int) rm_X5_timesCopied Λ [(7, this_0), (0, person_0), (0, other_0)] h (some (0, r)) h := by
  unfold f_X5_timesCopied at hf
  refine fx_enter (ls := [some (7, this_0), some (0, person_0), some (0, other_0), none, none, none]) (by decide) (Nat.le_of_ble_eq_true rfl) rfl (fun M G F K => ?_)
  refine fx_iconst (pc := 0) F ⟨by decide, by decide⟩ dX5_timesCopied_0 ?_
  refine fx_istore_n (pc := 1) (ls' := [some (7, this_0), some (0, person_0), some (0, other_0), some (0, 0), none, none]) F 3 rfl (by decide) rfl rfl dX5_timesCopied_1 ?_
  refine fx_iconst (pc := 2) F ⟨by decide, by decide⟩ dX5_timesCopied_2 ?_
  refine fx_istore (pc := 3) (ls' := [some (7, this_0), some (0, person_0), some (0, other_0), some (0, 0), some (0, 1), none]) F (by decide) rfl rfl dX5_timesCopied_3 ?_
  obtain ⟨⟨times_42, hour_43⟩, e44, hf⟩ := fx_bnd hf
  have hE45 : fx_J M G Λ 6 66 [some (7, this_0), some (0, person_0), some (0, other_0), some (0, times_42), some (0, hour_43), none] [] h := by
    refine fx_iload_n (pc := 66) F 3 rfl rfl dX5_timesCopied_66 ?_
    cases hf
    exact fx_ireturn (pc := 67) F K dX5_timesCopied_67
  refine fx_loop_J (Hd := (fun z : Int × Int => fx_J M G Λ 6 5 [some (7, this_0), some (0, person_0), some (0, other_0), some (0, z.1), some (0, z.2), none] [] h)) (Ex := (fun z : Int × Int => fx_J M G Λ 6 66 [some (7, this_0), some (0, person_0), some (0, other_0), some (0, z.1), some (0, z.2), none] [] h)) ?_ Fu _ _ e44 hE45
  rintro ⟨times_23, hour_24⟩ o9 eq25 ih ex
  unfold s_X5_timesCopied_1 at eq25
  show fx_J M G Λ 6 5 [some (7, this_0), some (0, person_0), some (0, other_0), some (0, times_23), some (0, hour_24), none] [] h
  refine fx_iload (pc := 5) F rfl dX5_timesCopied_5 ?_
  refine fx_aload_n (pc := 7) (t := 5) F 0 rfl rfl dX5_timesCopied_7 ?_
  refine fx_gR (pc := 8) F 5 0 0 4 rfl kC_X5 (by decide) rfl wF_X5_10 dX5_timesCopied_8 ?_
  refine fx_gI (pc := 11) F 4 3 3 rfl kC_X4 rfl wF_X5_191 dX5_timesCopied_11 ?_
  refine fx_nlt (pc := 14) F 66 (by decide) dX5_timesCopied_14 (fun c26 => ?_) (fun c26 => ?_)
  · have eq25 := (if_pos c26).symm.trans eq25
    refine fx_aload_n (pc := 17) (t := 5) F 0 rfl rfl dX5_timesCopied_17 ?_
    refine fx_gR (pc := 18) F 5 0 0 4 rfl kC_X5 (by decide) rfl wF_X5_10 dX5_timesCopied_18 ?_
    refine fx_gR (pc := 21) F 4 8 8 11 rfl kC_X4 (by decide) rfl wF_X5_106 dX5_timesCopied_21 ?_
    refine fx_iload (pc := 24) F rfl dX5_timesCopied_24 ?_
    refine fx_iconst (pc := 26) F ⟨by decide, by decide⟩ dX5_timesCopied_26 ?_
    refine fx_isub (pc := 27) F dX5_timesCopied_27 ?_
    obtain ⟨v27, e28, eq25⟩ := fx_bnd eq25
    refine fx_raldG (pc := 28) F e28 dX5_timesCopied_28 ?_
    refine fx_iload_n (pc := 29) F 2 rfl rfl dX5_timesCopied_29 ?_
    obtain ⟨v29, e30, eq25⟩ := fx_bnd eq25
    refine fx_raldI (pc := 30) F e30 dX5_timesCopied_30 ?_
    refine fx_istore (pc := 31) (ls' := [some (7, this_0), some (0, person_0), some (0, other_0), some (0, times_23), some (0, hour_24), some (0, v29)]) F (by decide) rfl rfl dX5_timesCopied_31 ?_
    obtain ⟨b31, e32, eq25⟩ := fx_bnd eq25
    have hT33 : b31 = true → fx_J M G Λ 6 57 [some (7, this_0), some (0, person_0), some (0, other_0), some (0, times_23), some (0, hour_24), some (0, v29)] [] h := fun c41 => by
      have eq25 := (if_pos c41).symm.trans eq25
      refine fx_iinc (pc := 57) (ls' := [some (7, this_0), some (0, person_0), some (0, other_0), some (0, (fx_w (times_23 + 1))), some (0, hour_24), some (0, v29)]) F (by decide) rfl rfl rfl dX5_timesCopied_57 ?_
      refine fx_iinc (pc := 60) (ls' := [some (7, this_0), some (0, person_0), some (0, other_0), some (0, (fx_w (times_23 + 1))), some (0, (fx_w (hour_24 + 1))), some (0, v29)]) F (by decide) rfl rfl rfl dX5_timesCopied_60 ?_
      refine fx_goto (pc := 63) F 5 (by decide) dX5_timesCopied_63 ?_
      cases eq25
      refine fx_drop (ls' := [some (7, this_0), some (0, person_0), some (0, other_0), some (0, (fx_w (times_23 + 1))), some (0, (fx_w (hour_24 + 1))), none]) ⟨rfl, rfl, rfl, rfl, rfl, trivial⟩ ?_
      exact ih _ rfl
    have hF34 : ¬ b31 = true → fx_J M G Λ 6 60 [some (7, this_0), some (0, person_0), some (0, other_0), some (0, times_23), some (0, hour_24), some (0, v29)] [] h := fun c41 => by
      have eq25 := (if_neg c41).symm.trans eq25
      refine fx_iinc (pc := 60) (ls' := [some (7, this_0), some (0, person_0), some (0, other_0), some (0, times_23), some (0, (fx_w (hour_24 + 1))), some (0, v29)]) F (by decide) rfl rfl rfl dX5_timesCopied_60 ?_
      refine fx_goto (pc := 63) F 5 (by decide) dX5_timesCopied_63 ?_
      cases eq25
      refine fx_drop (ls' := [some (7, this_0), some (0, person_0), some (0, other_0), some (0, times_23), some (0, (fx_w (hour_24 + 1))), none]) ⟨rfl, rfl, rfl, rfl, rfl, trivial⟩ ?_
      exact ih _ rfl
    refine fx_iload (pc := 33) F rfl dX5_timesCopied_33 ?_
    refine fx_bipush (pc := 35) F ⟨by decide, by decide⟩ (by decide) dX5_timesCopied_35 ?_
    refine fx_nne (pc := 37) F 60 (by decide) dX5_timesCopied_37 (fun c35 => ?_) (fun c35 => ?_)
    · have e32 := (if_pos c35).symm.trans e32
      refine fx_aload_n (pc := 40) (t := 5) F 0 rfl rfl dX5_timesCopied_40 ?_
      refine fx_gR (pc := 41) F 5 0 0 4 rfl kC_X5 (by decide) rfl wF_X5_10 dX5_timesCopied_41 ?_
      refine fx_gR (pc := 44) F 4 8 8 11 rfl kC_X4 (by decide) rfl wF_X5_106 dX5_timesCopied_44 ?_
      refine fx_iload (pc := 47) F rfl dX5_timesCopied_47 ?_
      obtain ⟨v36, e37, e32⟩ := fx_bnd e32
      refine fx_raldG (pc := 49) F e37 dX5_timesCopied_49 ?_
      refine fx_iload_n (pc := 50) F 1 rfl rfl dX5_timesCopied_50 ?_
      obtain ⟨v38, e39, e32⟩ := fx_bnd e32
      refine fx_raldI (pc := 51) F e39 dX5_timesCopied_51 ?_
      refine fx_iload (pc := 52) F rfl dX5_timesCopied_52 ?_
      refine fx_neq (pc := 54) F 60 (by decide) dX5_timesCopied_54 (fun c40 => ?_) (fun c40 => ?_)
      · have e32 := (if_pos c40).symm.trans e32
        cases e32
        exact hT33 (by decide)
      · have e32 := (if_neg c40).symm.trans e32
        cases e32
        exact hF34 (by decide)
    · have e32 := (if_neg c35).symm.trans e32
      cases e32
      exact hF34 (by decide)
  · have eq25 := (if_neg c26).symm.trans eq25
    cases eq25
    exact ex _ rfl
def s_X5_copied_1 (Fu : Nat) (Λ : fx_L) (this_10 : Int) (person_11 : Int) (h : fx_H) : Int × Int × Int → Option ((Int × Int × Int) ⊕ (Int × Int × Int)) := fun (best_7, most_8, other_9) =>
  if other_9 < (h (fx_tg Λ this_10 0) 2) then
    Option.bind (
      if other_9 = person_11 then
        some (0 : Int)
      else
        (f_X5_timesCopied Fu Λ this_10 person_11 other_9 h).bind fun v18 =>
        some v18
    ) fun v14 =>
    if most_8 < v14 then
      some (.inl (other_9, v14, (fx_w (other_9 + 1))))
    else
      some (.inl (best_7, most_8, (fx_w (other_9 + 1))))
  else
    some (.inr (best_7, most_8, other_9))
def f_X5_copied (Fu : Nat) (Λ : fx_L) (this_0 : Int) (person_0 : Int) (h : fx_H) : Option (Int × fx_H) :=
  (f_X4_hasPerson Fu Λ (fx_tg Λ this_0 0) person_0 h).bind fun v1 =>
  if v1 = 0 then
    (f_X5_refuseBad Fu Λ this_0 (-2) h).bind fun (v4, h5) =>
    some (v4, h5)
  else
    Option.bind (fx_loop (s_X5_copied_1 Fu Λ this_0 person_0 h) Fu ((-1), 0, 0)) fun (best_33, most_34, other_35) =>
    some (best_33, h)
abbrev rm_X5_copied : Room := { frames := 2, cells := 0, slots := 0, locals := 43 }
set_option maxRecDepth 100000 in
set_option maxHeartbeats 4000000 in
theorem m_X5_copied (Fu : Nat) (Λ : fx_L) (this_0 : Int) (person_0 : Int) (h : fx_H) (r : Int) (ho : fx_H) (hf : f_X5_copied Fu Λ this_0 person_0 h = some (r, ho)) : fx_Met yX5_copied cX5_copied 6 (some .int) rm_X5_copied Λ [(7, this_0), (0, person_0)] h (some (0, r)) ho := by
  unfold f_X5_copied at hf
  refine fx_enter (ls := [some (7, this_0), some (0, person_0), none, none, none, none]) (by decide) (Nat.le_of_ble_eq_true rfl) rfl (fun M G F K => ?_)
  refine fx_aload_n (pc := 0) (t := 5) F 0 rfl rfl dX5_copied_0 ?_
  refine fx_gR (pc := 1) F 5 0 0 4 rfl kC_X5 (by decide) rfl wF_X5_10 dX5_copied_1 ?_
  refine fx_iload_n (pc := 4) F 1 rfl rfl dX5_copied_4 ?_
  obtain ⟨v1, e2, hf⟩ := fx_bnd hf
  refine fx_cV (pc := 5) F 4 kC_X4 [(0, person_0)] (fx_tg Λ this_0 0) [] (m_X4_hasPerson Fu Λ (fx_tg Λ this_0 0) person_0 h _ e2) kD_X4_hasPerson kI_X4_hasPerson rfl wM_X5_100 ⟨rfl, rfl⟩ ⟨by decide, by decide⟩ (Nat.le_of_ble_eq_true rfl) rfl dX5_copied_5 ?_
  refine fx_nzeq (pc := 8) F 18 (by decide) dX5_copied_8 (fun c3 => ?_) (fun c3 => ?_)
  · have hf := (if_pos c3).symm.trans hf
    refine fx_aload_n (pc := 11) (t := 5) F 0 rfl rfl dX5_copied_11 ?_
    refine fx_bipush (pc := 12) F ⟨by decide, by decide⟩ (by decide) dX5_copied_12 ?_
    obtain ⟨⟨v4, h5⟩, e6, hf⟩ := fx_bnd hf
    refine fx_cV (pc := 14) F 5 kC_X5 [(0, (-2))] this_0 [] (m_X5_refuseBad Fu Λ this_0 (-2) h _ _ e6) kD_X5_refuseBad kI_X5_refuseBad rfl wM_X5_63 ⟨rfl, rfl⟩ ⟨by decide, by decide⟩ (Nat.le_of_ble_eq_true rfl) rfl dX5_copied_14 ?_
    cases hf
    exact fx_ireturn (pc := 17) F K dX5_copied_17
  · have hf := (if_neg c3).symm.trans hf
    refine fx_iconst (pc := 18) F ⟨by decide, by decide⟩ dX5_copied_18 ?_
    refine fx_istore_n (pc := 19) (ls' := [some (7, this_0), some (0, person_0), some (0, (-1)), none, none, none]) F 2 rfl (by decide) rfl rfl dX5_copied_19 ?_
    refine fx_iconst (pc := 20) F ⟨by decide, by decide⟩ dX5_copied_20 ?_
    refine fx_istore_n (pc := 21) (ls' := [some (7, this_0), some (0, person_0), some (0, (-1)), some (0, 0), none, none]) F 3 rfl (by decide) rfl rfl dX5_copied_21 ?_
    refine fx_iconst (pc := 22) F ⟨by decide, by decide⟩ dX5_copied_22 ?_
    refine fx_istore (pc := 23) (ls' := [some (7, this_0), some (0, person_0), some (0, (-1)), some (0, 0), some (0, 0), none]) F (by decide) rfl rfl dX5_copied_23 ?_
    obtain ⟨⟨best_33, most_34, other_35⟩, e36, hf⟩ := fx_bnd hf
    have hE37 : fx_J M G Λ 6 74 [some (7, this_0), some (0, person_0), some (0, best_33), some (0, most_34), some (0, other_35), none] [] h := by
      refine fx_iload_n (pc := 74) F 2 rfl rfl dX5_copied_74 ?_
      cases hf
      exact fx_ireturn (pc := 75) F K dX5_copied_75
    refine fx_loop_J (Hd := (fun z : Int × Int × Int => fx_J M G Λ 6 25 [some (7, this_0), some (0, person_0), some (0, z.1), some (0, z.2.1), some (0, z.2.2), none] [] h)) (Ex := (fun z : Int × Int × Int => fx_J M G Λ 6 74 [some (7, this_0), some (0, person_0), some (0, z.1), some (0, z.2.1), some (0, z.2.2), none] [] h)) ?_ Fu _ _ e36 hE37
    rintro ⟨best_21, most_22, other_23⟩ o9 eq24 ih ex
    unfold s_X5_copied_1 at eq24
    show fx_J M G Λ 6 25 [some (7, this_0), some (0, person_0), some (0, best_21), some (0, most_22), some (0, other_23), none] [] h
    refine fx_iload (pc := 25) F rfl dX5_copied_25 ?_
    refine fx_aload_n (pc := 27) (t := 5) F 0 rfl rfl dX5_copied_27 ?_
    refine fx_gR (pc := 28) F 5 0 0 4 rfl kC_X5 (by decide) rfl wF_X5_10 dX5_copied_28 ?_
    refine fx_gI (pc := 31) F 4 2 2 rfl kC_X4 rfl wF_X5_202 dX5_copied_31 ?_
    refine fx_nlt (pc := 34) F 74 (by decide) dX5_copied_34 (fun c25 => ?_) (fun c25 => ?_)
    · have eq24 := (if_pos c25).symm.trans eq24
      obtain ⟨v26, e27, eq24⟩ := fx_bnd eq24
      have hJ28 : fx_J M G Λ 6 54 [some (7, this_0), some (0, person_0), some (0, best_21), some (0, most_22), some (0, other_23), none] [(0, v26)] h := by
        refine fx_istore (pc := 54) (ls' := [some (7, this_0), some (0, person_0), some (0, best_21), some (0, most_22), some (0, other_23), some (0, v26)]) F (by decide) rfl rfl dX5_copied_54 ?_
        refine fx_iload (pc := 56) F rfl dX5_copied_56 ?_
        refine fx_iload_n (pc := 58) F 3 rfl rfl dX5_copied_58 ?_
        refine fx_ngt (pc := 59) F 68 (by decide) dX5_copied_59 (fun c32 => ?_) (fun c32 => ?_)
        · have eq24 := (if_pos c32).symm.trans eq24
          refine fx_iload (pc := 62) F rfl dX5_copied_62 ?_
          refine fx_istore_n (pc := 64) (ls' := [some (7, this_0), some (0, person_0), some (0, best_21), some (0, v26), some (0, other_23), some (0, v26)]) F 3 rfl (by decide) rfl rfl dX5_copied_64 ?_
          refine fx_iload (pc := 65) F rfl dX5_copied_65 ?_
          refine fx_istore_n (pc := 67) (ls' := [some (7, this_0), some (0, person_0), some (0, other_23), some (0, v26), some (0, other_23), some (0, v26)]) F 2 rfl (by decide) rfl rfl dX5_copied_67 ?_
          refine fx_iinc (pc := 68) (ls' := [some (7, this_0), some (0, person_0), some (0, other_23), some (0, v26), some (0, (fx_w (other_23 + 1))), some (0, v26)]) F (by decide) rfl rfl rfl dX5_copied_68 ?_
          refine fx_goto (pc := 71) F 25 (by decide) dX5_copied_71 ?_
          cases eq24
          refine fx_drop (ls' := [some (7, this_0), some (0, person_0), some (0, other_23), some (0, v26), some (0, (fx_w (other_23 + 1))), none]) ⟨rfl, rfl, rfl, rfl, rfl, trivial⟩ ?_
          exact ih _ rfl
        · have eq24 := (if_neg c32).symm.trans eq24
          refine fx_iinc (pc := 68) (ls' := [some (7, this_0), some (0, person_0), some (0, best_21), some (0, most_22), some (0, (fx_w (other_23 + 1))), some (0, v26)]) F (by decide) rfl rfl rfl dX5_copied_68 ?_
          refine fx_goto (pc := 71) F 25 (by decide) dX5_copied_71 ?_
          cases eq24
          refine fx_drop (ls' := [some (7, this_0), some (0, person_0), some (0, best_21), some (0, most_22), some (0, (fx_w (other_23 + 1))), none]) ⟨rfl, rfl, rfl, rfl, rfl, trivial⟩ ?_
          exact ih _ rfl
      refine fx_iload (pc := 37) F rfl dX5_copied_37 ?_
      refine fx_iload_n (pc := 39) F 1 rfl rfl dX5_copied_39 ?_
      refine fx_neq (pc := 40) F 47 (by decide) dX5_copied_40 (fun c29 => ?_) (fun c29 => ?_)
      · have e27 := (if_pos c29).symm.trans e27
        refine fx_iconst (pc := 43) F ⟨by decide, by decide⟩ dX5_copied_43 ?_
        cases e27
        refine fx_goto (pc := 44) F 54 (by decide) dX5_copied_44 ?_
        exact hJ28
      · have e27 := (if_neg c29).symm.trans e27
        refine fx_aload_n (pc := 47) (t := 5) F 0 rfl rfl dX5_copied_47 ?_
        refine fx_iload_n (pc := 48) F 1 rfl rfl dX5_copied_48 ?_
        refine fx_iload (pc := 49) F rfl dX5_copied_49 ?_
        obtain ⟨v30, e31, e27⟩ := fx_bnd e27
        refine fx_cV (pc := 51) F 5 kC_X5 [(0, person_0), (0, other_23)] this_0 [] (m_X5_timesCopied Fu Λ this_0 person_0 other_23 h _ e31) kD_X5_timesCopied kI_X5_timesCopied rfl wM_X5_222 ⟨rfl, rfl⟩ ⟨by decide, by decide⟩ (Nat.le_of_ble_eq_true rfl) rfl dX5_copied_51 ?_
        cases e27
        exact hJ28
    · have eq24 := (if_neg c25).symm.trans eq24
      cases eq24
      exact ex _ rfl
def s_X5_crowdsOfAtLeast_1 (Fu : Nat) (Λ : fx_L) (n_5 : Int) (m_6 : Int) (k_7 : Int) (h : fx_H) : Int × Int × Int × Int → Option ((Int × Int × Int × Int) ⊕ (Int × Int × Int × Int)) := fun (ways_1, choices_2, waysOfOthers_3, j_4) =>
  if k_7 ≤ j_4 then
    (fx_dvl (fx_wl (choices_2 * j_4)) (fx_w ((fx_w (n_5 - j_4)) + 1))).bind fun v10 =>
    some (.inl ((fx_wl (ways_1 + (fx_wl (choices_2 * waysOfOthers_3)))), v10, (fx_wl (waysOfOthers_3 * (fx_w (m_6 - 1)))), (fx_w (j_4 + (-1)))))
  else
    some (.inr (ways_1, choices_2, waysOfOthers_3, j_4))
def f_X5_crowdsOfAtLeast (Fu : Nat) (Λ : fx_L) (n_0 : Int) (m_0 : Int) (k_0 : Int) (h : fx_H) : Option (Int) :=
  Option.bind (fx_loop (s_X5_crowdsOfAtLeast_1 Fu Λ n_0 m_0 k_0 h) Fu (0, 1, 1, n_0)) fun (ways_20, choices_21, waysOfOthers_22, j_23) =>
  some ways_20
abbrev rm_X5_crowdsOfAtLeast : Room := { frames := 0, cells := 0, slots := 0, locals := 0 }
set_option maxRecDepth 100000 in
set_option maxHeartbeats 4000000 in
theorem m_X5_crowdsOfAtLeast (Fu : Nat) (Λ : fx_L) (n_0 : Int) (m_0 : Int) (k_0 : Int) (h : fx_H) (r : Int) (hf : f_X5_crowdsOfAtLeast Fu Λ n_0 m_0 k_0 h = some r) : fx_Met yX5_crowdsOfAtLeast cX5_crowdsOfAtLeast 10 (some .long) rm_X5_crowdsOfAtLeast Λ [(0, n_0), (0, m_0), (0, k_0)] h (some (1, r)) h := by
  unfold f_X5_crowdsOfAtLeast at hf
  refine fx_enter (ls := [some (0, n_0), some (0, m_0), some (0, k_0), none, none, none, none, none, none, none]) (by decide) (Nat.le_of_ble_eq_true rfl) rfl (fun M G F K => ?_)
  refine fx_lconst (pc := 0) (z := 0) F rfl ⟨by decide, by decide⟩ (by decide) dX5_crowdsOfAtLeast_0 ?_
  refine fx_lstore_n (pc := 1) (ls' := [some (0, n_0), some (0, m_0), some (0, k_0), some (1, 0), none, none, none, none, none, none]) F 3 rfl (by decide) rfl rfl dX5_crowdsOfAtLeast_1 ?_
  refine fx_lconst (pc := 2) (z := 1) F rfl ⟨by decide, by decide⟩ (by decide) dX5_crowdsOfAtLeast_2 ?_
  refine fx_lstore (pc := 3) (ls' := [some (0, n_0), some (0, m_0), some (0, k_0), some (1, 0), none, some (1, 1), none, none, none, none]) F (by decide) rfl rfl dX5_crowdsOfAtLeast_3 ?_
  refine fx_lconst (pc := 5) (z := 1) F rfl ⟨by decide, by decide⟩ (by decide) dX5_crowdsOfAtLeast_5 ?_
  refine fx_lstore (pc := 6) (ls' := [some (0, n_0), some (0, m_0), some (0, k_0), some (1, 0), none, some (1, 1), none, some (1, 1), none, none]) F (by decide) rfl rfl dX5_crowdsOfAtLeast_6 ?_
  refine fx_iload_n (pc := 8) F 0 rfl rfl dX5_crowdsOfAtLeast_8 ?_
  refine fx_istore (pc := 9) (ls' := [some (0, n_0), some (0, m_0), some (0, k_0), some (1, 0), none, some (1, 1), none, some (1, 1), none, some (0, n_0)]) F (by decide) rfl rfl dX5_crowdsOfAtLeast_9 ?_
  obtain ⟨⟨ways_20, choices_21, waysOfOthers_22, j_23⟩, e24, hf⟩ := fx_bnd hf
  have hE25 : fx_J M G Λ 10 56 [some (0, n_0), some (0, m_0), some (0, k_0), some (1, ways_20), none, some (1, choices_21), none, some (1, waysOfOthers_22), none, some (0, j_23)] [] h := by
    refine fx_lload_n (pc := 56) F 3 rfl rfl dX5_crowdsOfAtLeast_56 ?_
    cases hf
    exact fx_lreturn (pc := 57) F K dX5_crowdsOfAtLeast_57
  refine fx_loop_J (Hd := (fun z : Int × Int × Int × Int => fx_J M G Λ 10 11 [some (0, n_0), some (0, m_0), some (0, k_0), some (1, z.1), none, some (1, z.2.1), none, some (1, z.2.2.1), none, some (0, z.2.2.2)] [] h)) (Ex := (fun z : Int × Int × Int × Int => fx_J M G Λ 10 56 [some (0, n_0), some (0, m_0), some (0, k_0), some (1, z.1), none, some (1, z.2.1), none, some (1, z.2.2.1), none, some (0, z.2.2.2)] [] h)) ?_ Fu _ _ e24 hE25
  rintro ⟨ways_12, choices_13, waysOfOthers_14, j_15⟩ o9 eq16 ih ex
  unfold s_X5_crowdsOfAtLeast_1 at eq16
  show fx_J M G Λ 10 11 [some (0, n_0), some (0, m_0), some (0, k_0), some (1, ways_12), none, some (1, choices_13), none, some (1, waysOfOthers_14), none, some (0, j_15)] [] h
  refine fx_iload (pc := 11) F rfl dX5_crowdsOfAtLeast_11 ?_
  refine fx_iload_n (pc := 13) F 2 rfl rfl dX5_crowdsOfAtLeast_13 ?_
  refine fx_nge (pc := 14) F 56 (by decide) dX5_crowdsOfAtLeast_14 (fun c17 => ?_) (fun c17 => ?_)
  · have eq16 := (if_pos c17).symm.trans eq16
    refine fx_lload_n (pc := 17) F 3 rfl rfl dX5_crowdsOfAtLeast_17 ?_
    refine fx_lload (pc := 18) F rfl dX5_crowdsOfAtLeast_18 ?_
    refine fx_lload (pc := 20) F rfl dX5_crowdsOfAtLeast_20 ?_
    refine fx_lmul (pc := 22) F dX5_crowdsOfAtLeast_22 ?_
    refine fx_ladd (pc := 23) F dX5_crowdsOfAtLeast_23 ?_
    refine fx_lstore_n (pc := 24) (ls' := [some (0, n_0), some (0, m_0), some (0, k_0), some (1, (fx_wl (ways_12 + (fx_wl (choices_13 * waysOfOthers_14))))), none, some (1, choices_13), none, some (1, waysOfOthers_14), none, some (0, j_15)]) F 3 rfl (by decide) rfl rfl dX5_crowdsOfAtLeast_24 ?_
    refine fx_lload (pc := 25) F rfl dX5_crowdsOfAtLeast_25 ?_
    refine fx_iload (pc := 27) F rfl dX5_crowdsOfAtLeast_27 ?_
    refine fx_ri2l (pc := 29) F dX5_crowdsOfAtLeast_29 ?_
    refine fx_lmul (pc := 30) F dX5_crowdsOfAtLeast_30 ?_
    refine fx_iload_n (pc := 31) F 0 rfl rfl dX5_crowdsOfAtLeast_31 ?_
    refine fx_iload (pc := 32) F rfl dX5_crowdsOfAtLeast_32 ?_
    refine fx_isub (pc := 34) F dX5_crowdsOfAtLeast_34 ?_
    refine fx_iconst (pc := 35) F ⟨by decide, by decide⟩ dX5_crowdsOfAtLeast_35 ?_
    refine fx_iadd (pc := 36) F dX5_crowdsOfAtLeast_36 ?_
    refine fx_ri2l (pc := 37) F dX5_crowdsOfAtLeast_37 ?_
    obtain ⟨v18, e19, eq16⟩ := fx_bnd eq16
    refine fx_rldiv (pc := 38) F e19 dX5_crowdsOfAtLeast_38 ?_
    refine fx_lstore (pc := 39) (ls' := [some (0, n_0), some (0, m_0), some (0, k_0), some (1, (fx_wl (ways_12 + (fx_wl (choices_13 * waysOfOthers_14))))), none, some (1, v18), none, some (1, waysOfOthers_14), none, some (0, j_15)]) F (by decide) rfl rfl dX5_crowdsOfAtLeast_39 ?_
    refine fx_lload (pc := 41) F rfl dX5_crowdsOfAtLeast_41 ?_
    refine fx_iload_n (pc := 43) F 1 rfl rfl dX5_crowdsOfAtLeast_43 ?_
    refine fx_iconst (pc := 44) F ⟨by decide, by decide⟩ dX5_crowdsOfAtLeast_44 ?_
    refine fx_isub (pc := 45) F dX5_crowdsOfAtLeast_45 ?_
    refine fx_ri2l (pc := 46) F dX5_crowdsOfAtLeast_46 ?_
    refine fx_lmul (pc := 47) F dX5_crowdsOfAtLeast_47 ?_
    refine fx_lstore (pc := 48) (ls' := [some (0, n_0), some (0, m_0), some (0, k_0), some (1, (fx_wl (ways_12 + (fx_wl (choices_13 * waysOfOthers_14))))), none, some (1, v18), none, some (1, (fx_wl (waysOfOthers_14 * (fx_w (m_0 - 1))))), none, some (0, j_15)]) F (by decide) rfl rfl dX5_crowdsOfAtLeast_48 ?_
    refine fx_iinc (pc := 50) (ls' := [some (0, n_0), some (0, m_0), some (0, k_0), some (1, (fx_wl (ways_12 + (fx_wl (choices_13 * waysOfOthers_14))))), none, some (1, v18), none, some (1, (fx_wl (waysOfOthers_14 * (fx_w (m_0 - 1))))), none, some (0, (fx_w (j_15 + (-1))))]) F (by decide) rfl rfl rfl dX5_crowdsOfAtLeast_50 ?_
    refine fx_goto (pc := 53) F 11 (by decide) dX5_crowdsOfAtLeast_53 ?_
    cases eq16
    exact ih _ rfl
  · have eq16 := (if_neg c17).symm.trans eq16
    cases eq16
    exact ex _ rfl
def s_X5_commonDivisor_1 (Fu : Nat) (Λ : fx_L) (h : fx_H) : Int × Int × Int → Option ((Int × Int × Int) ⊕ (Int × Int × Int)) := fun (big_1, small_2, i_3) =>
  if ((i_3 < 1000000) ∧ (¬ small_2 = 0)) then
    (fx_rml big_1 small_2).bind fun v10 =>
    some (.inl (small_2, v10, (fx_w (i_3 + 1))))
  else
    some (.inr (big_1, small_2, i_3))
def f_X5_commonDivisor (Fu : Nat) (Λ : fx_L) (a_0 : Int) (b_0 : Int) (h : fx_H) : Option (Int) :=
  Option.bind (fx_loop (s_X5_commonDivisor_1 Fu Λ h) Fu (a_0, b_0, 0)) fun (big_23, small_24, i_25) =>
  some big_23
abbrev rm_X5_commonDivisor : Room := { frames := 0, cells := 0, slots := 0, locals := 0 }
set_option maxRecDepth 100000 in
set_option maxHeartbeats 4000000 in
theorem m_X5_commonDivisor (Fu : Nat) (Λ : fx_L) (a_0 : Int) (b_0 : Int) (h : fx_H) (r : Int) (hf : f_X5_commonDivisor Fu Λ a_0 b_0 h = some r) : fx_Met yX5_commonDivisor cX5_commonDivisor 11 (some .long) rm_X5_commonDivisor Λ [(1, a_0), (1, b_0)] h (some (1, r)) h := by
  unfold f_X5_commonDivisor at hf
  refine fx_enter (ls := [some (1, a_0), none, some (1, b_0), none, none, none, none, none, none, none, none]) (by decide) (Nat.le_of_ble_eq_true rfl) rfl (fun M G F K => ?_)
  refine fx_lload_n (pc := 0) F 0 rfl rfl dX5_commonDivisor_0 ?_
  refine fx_lstore (pc := 1) (ls' := [some (1, a_0), none, some (1, b_0), none, some (1, a_0), none, none, none, none, none, none]) F (by decide) rfl rfl dX5_commonDivisor_1 ?_
  refine fx_lload_n (pc := 3) F 2 rfl rfl dX5_commonDivisor_3 ?_
  refine fx_lstore (pc := 4) (ls' := [some (1, a_0), none, some (1, b_0), none, some (1, a_0), none, some (1, b_0), none, none, none, none]) F (by decide) rfl rfl dX5_commonDivisor_4 ?_
  refine fx_iconst (pc := 6) F ⟨by decide, by decide⟩ dX5_commonDivisor_6 ?_
  refine fx_istore (pc := 7) (ls' := [some (1, a_0), none, some (1, b_0), none, some (1, a_0), none, some (1, b_0), none, some (0, 0), none, none]) F (by decide) rfl rfl dX5_commonDivisor_7 ?_
  obtain ⟨⟨big_23, small_24, i_25⟩, e26, hf⟩ := fx_bnd hf
  have hE27 : fx_J M G Λ 11 44 [some (1, a_0), none, some (1, b_0), none, some (1, big_23), none, some (1, small_24), none, some (0, i_25), none, none] [] h := by
    refine fx_lload (pc := 44) F rfl dX5_commonDivisor_44 ?_
    cases hf
    exact fx_lreturn (pc := 46) F K dX5_commonDivisor_46
  refine fx_loop_J (Hd := (fun z : Int × Int × Int => fx_J M G Λ 11 9 [some (1, a_0), none, some (1, b_0), none, some (1, z.1), none, some (1, z.2.1), none, some (0, z.2.2), none, none] [] h)) (Ex := (fun z : Int × Int × Int => fx_J M G Λ 11 44 [some (1, a_0), none, some (1, b_0), none, some (1, z.1), none, some (1, z.2.1), none, some (0, z.2.2), none, none] [] h)) ?_ Fu _ _ e26 hE27
  rintro ⟨big_12, small_13, i_14⟩ o9 eq15 ih ex
  unfold s_X5_commonDivisor_1 at eq15
  show fx_J M G Λ 11 9 [some (1, a_0), none, some (1, b_0), none, some (1, big_12), none, some (1, small_13), none, some (0, i_14), none, none] [] h
  refine fx_iload (pc := 9) F rfl dX5_commonDivisor_9 ?_
  refine fx_ldc (pc := 11) (z := 1000000) F (by decide) ⟨by decide, by decide⟩ wK_X5_198 dX5_commonDivisor_11 ?_
  have hT16 : (((i_14 < 1000000) ∧ (¬ small_13 = 0))) → fx_J M G Λ 11 23 [some (1, a_0), none, some (1, b_0), none, some (1, big_12), none, some (1, small_13), none, some (0, i_14), none, none] [] h := fun c20 => by
    have eq15 := (if_pos c20).symm.trans eq15
    refine fx_lload (pc := 23) F rfl dX5_commonDivisor_23 ?_
    refine fx_lload (pc := 25) F rfl dX5_commonDivisor_25 ?_
    obtain ⟨v21, e22, eq15⟩ := fx_bnd eq15
    refine fx_rlrem (pc := 27) F e22 dX5_commonDivisor_27 ?_
    refine fx_lstore (pc := 28) (ls' := [some (1, a_0), none, some (1, b_0), none, some (1, big_12), none, some (1, small_13), none, some (0, i_14), some (1, v21), none]) F (by decide) rfl rfl dX5_commonDivisor_28 ?_
    refine fx_lload (pc := 30) F rfl dX5_commonDivisor_30 ?_
    refine fx_lstore (pc := 32) (ls' := [some (1, a_0), none, some (1, b_0), none, some (1, small_13), none, some (1, small_13), none, some (0, i_14), some (1, v21), none]) F (by decide) rfl rfl dX5_commonDivisor_32 ?_
    refine fx_lload (pc := 34) F rfl dX5_commonDivisor_34 ?_
    refine fx_lstore (pc := 36) (ls' := [some (1, a_0), none, some (1, b_0), none, some (1, small_13), none, some (1, v21), none, some (0, i_14), some (1, v21), none]) F (by decide) rfl rfl dX5_commonDivisor_36 ?_
    refine fx_iinc (pc := 38) (ls' := [some (1, a_0), none, some (1, b_0), none, some (1, small_13), none, some (1, v21), none, some (0, (fx_w (i_14 + 1))), some (1, v21), none]) F (by decide) rfl rfl rfl dX5_commonDivisor_38 ?_
    refine fx_goto (pc := 41) F 9 (by decide) dX5_commonDivisor_41 ?_
    cases eq15
    refine fx_drop (ls' := [some (1, a_0), none, some (1, b_0), none, some (1, small_13), none, some (1, v21), none, some (0, (fx_w (i_14 + 1))), none, none]) ⟨rfl, rfl, rfl, rfl, rfl, trivial⟩ ?_
    exact ih _ rfl
  have hF17 : ¬ (((i_14 < 1000000) ∧ (¬ small_13 = 0))) → fx_J M G Λ 11 44 [some (1, a_0), none, some (1, b_0), none, some (1, big_12), none, some (1, small_13), none, some (0, i_14), none, none] [] h := fun c20 => by
    have eq15 := (if_neg c20).symm.trans eq15
    cases eq15
    exact ex _ rfl
  refine fx_nlt (pc := 13) F 44 (by decide) dX5_commonDivisor_13 (fun c18 => ?_) (fun c18 => ?_)
  · refine fx_lload (pc := 16) F rfl dX5_commonDivisor_16 ?_
    refine fx_lconst (pc := 18) (z := 0) F rfl ⟨by decide, by decide⟩ (by decide) dX5_commonDivisor_18 ?_
    refine fx_nlne (pc := 19) F 44 (by decide) dX5_commonDivisor_19 dX5_commonDivisor_20 (fun c19 => ?_) (fun c19 => ?_)
    · exact hT16 ⟨c18, c19⟩
    · exact hF17 (fun q => c19 q.2)
  · exact hF17 (fun q => c18 q.1)
def s_X5_crowd_1 (Fu : Nat) (Λ : fx_L) (n_20 : Int) (m_21 : Int) (h : fx_H) : Int × Int → Option ((Int × Int) ⊕ (Int × Int)) := fun (whole_18, i_19) =>
  if i_19 < n_20 then
    some (.inl ((fx_wl (whole_18 * m_21)), (fx_w (i_19 + 1))))
  else
    some (.inr (whole_18, i_19))
def f_X5_crowd (Fu : Nat) (Λ : fx_L) (this_0 : Int) (n_0 : Int) (m_0 : Int) (k_0 : Int) (h : fx_H) : Option (Int × fx_H) :=
  Option.bind (
    (f_X5_within Fu Λ n_0 1 18 h).bind fun v5 =>
    if v5 = 0 then
      some true
    else
      (f_X5_within Fu Λ m_0 1 9 h).bind fun v8 =>
      if v8 = 0 then
        some true
      else
        (f_X5_within Fu Λ k_0 0 n_0 h).bind fun v11 =>
        if v11 = 0 then
          some true
        else
          some false
  ) fun b1 =>
  if b1 = true then
    (f_X5_refuseBad Fu Λ this_0 (-2) h).bind fun (v15, h16) =>
    some (v15, h16)
  else
    Option.bind (fx_loop (s_X5_crowd_1 Fu Λ n_0 m_0 h) Fu (1, 0)) fun (whole_28, i_29) =>
    (f_X5_crowdsOfAtLeast Fu Λ n_0 m_0 k_0 h).bind fun v32 =>
    (f_X5_commonDivisor Fu Λ v32 whole_28 h).bind fun v34 =>
    (fx_dvl v32 (max 1 v34)).bind fun v36 =>
    (fx_dvl whole_28 (max 1 v34)).bind fun v38 =>
    some (1, (fx_up (fx_up h this_0 1000008 v36) this_0 1000009 v38))
abbrev rm_X5_crowd : Room := { frames := 1, cells := 0, slots := 0, locals := 30 }
set_option maxRecDepth 100000 in
set_option maxHeartbeats 4000000 in
theorem m_X5_crowd (Fu : Nat) (Λ : fx_L) (this_0 : Int) (n_0 : Int) (m_0 : Int) (k_0 : Int) (h : fx_H) (r : Int) (ho : fx_H) (hf : f_X5_crowd Fu Λ this_0 n_0 m_0 k_0 h = some (r, ho)) : fx_Met yX5_crowd cX5_crowd 10 (some .int) rm_X5_crowd Λ [(7, this_0), (0, n_0), (0, m_0), (0, k_0)] h (some (0, r)) ho := by
  unfold f_X5_crowd at hf
  refine fx_enter (ls := [some (7, this_0), some (0, n_0), some (0, m_0), some (0, k_0), none, none, none, none, none, none]) (by decide) (Nat.le_of_ble_eq_true rfl) rfl (fun M G F K => ?_)
  obtain ⟨b1, e2, hf⟩ := fx_bnd hf
  have hT3 : b1 = true → fx_J M G Λ 10 29 [some (7, this_0), some (0, n_0), some (0, m_0), some (0, k_0), none, none, none, none, none, none] [] h := fun c14 => by
    have hf := (if_pos c14).symm.trans hf
    refine fx_aload_n (pc := 29) (t := 5) F 0 rfl rfl dX5_crowd_29 ?_
    refine fx_bipush (pc := 30) F ⟨by decide, by decide⟩ (by decide) dX5_crowd_30 ?_
    obtain ⟨⟨v15, h16⟩, e17, hf⟩ := fx_bnd hf
    refine fx_cV (pc := 32) F 5 kC_X5 [(0, (-2))] this_0 [] (m_X5_refuseBad Fu Λ this_0 (-2) h _ _ e17) kD_X5_refuseBad kI_X5_refuseBad rfl wM_X5_63 ⟨rfl, rfl⟩ ⟨by decide, by decide⟩ (Nat.le_of_ble_eq_true rfl) rfl dX5_crowd_32 ?_
    cases hf
    exact fx_ireturn (pc := 35) F K dX5_crowd_35
  have hF4 : ¬ b1 = true → fx_J M G Λ 10 36 [some (7, this_0), some (0, n_0), some (0, m_0), some (0, k_0), none, none, none, none, none, none] [] h := fun c14 => by
    have hf := (if_neg c14).symm.trans hf
    refine fx_lconst (pc := 36) (z := 1) F rfl ⟨by decide, by decide⟩ (by decide) dX5_crowd_36 ?_
    refine fx_lstore (pc := 37) (ls' := [some (7, this_0), some (0, n_0), some (0, m_0), some (0, k_0), some (1, 1), none, none, none, none, none]) F (by decide) rfl rfl dX5_crowd_37 ?_
    refine fx_iconst (pc := 39) F ⟨by decide, by decide⟩ dX5_crowd_39 ?_
    refine fx_istore (pc := 40) (ls' := [some (7, this_0), some (0, n_0), some (0, m_0), some (0, k_0), some (1, 1), none, some (0, 0), none, none, none]) F (by decide) rfl rfl dX5_crowd_40 ?_
    obtain ⟨⟨whole_28, i_29⟩, e30, hf⟩ := fx_bnd hf
    have hE31 : fx_J M G Λ 10 61 [some (7, this_0), some (0, n_0), some (0, m_0), some (0, k_0), some (1, whole_28), none, some (0, i_29), none, none, none] [] h := by
      refine fx_iload_n (pc := 61) F 1 rfl rfl dX5_crowd_61 ?_
      refine fx_iload_n (pc := 62) F 2 rfl rfl dX5_crowd_62 ?_
      refine fx_iload_n (pc := 63) F 3 rfl rfl dX5_crowd_63 ?_
      obtain ⟨v32, e33, hf⟩ := fx_bnd hf
      refine fx_cS (pc := 64) F [(0, n_0), (0, m_0), (0, k_0)] [] (m_X5_crowdsOfAtLeast Fu Λ n_0 m_0 k_0 h _ e33) kD_X5_crowdsOfAtLeast wSt_X5_crowdsOfAtLeast wM_X5_225 ⟨rfl, rfl⟩ ⟨by decide, by decide⟩ (Nat.le_of_ble_eq_true rfl) rfl dX5_crowd_64 ?_
      refine fx_lstore (pc := 67) (ls' := [some (7, this_0), some (0, n_0), some (0, m_0), some (0, k_0), some (1, whole_28), none, some (1, v32), none, none, none]) F (by decide) rfl rfl dX5_crowd_67 ?_
      refine fx_lconst (pc := 69) (z := 1) F rfl ⟨by decide, by decide⟩ (by decide) dX5_crowd_69 ?_
      refine fx_lload (pc := 70) F rfl dX5_crowd_70 ?_
      refine fx_lload (pc := 72) F rfl dX5_crowd_72 ?_
      obtain ⟨v34, e35, hf⟩ := fx_bnd hf
      refine fx_cS (pc := 74) F [(1, v32), (1, whole_28)] [(1, 1)] (m_X5_commonDivisor Fu Λ v32 whole_28 h _ e35) kD_X5_commonDivisor wSt_X5_commonDivisor wM_X5_229 ⟨rfl, rfl⟩ ⟨by decide, by decide⟩ (Nat.le_of_ble_eq_true rfl) rfl dX5_crowd_74 ?_
      refine fx_lmax (pc := 77) F wM_X5_233 wSt_J9_max_f86c9 wI_J9 wCo_J9_max_f86c9 (by decide) (Nat.le_of_ble_eq_true rfl) dX5_crowd_77 ?_
      refine fx_lstore (pc := 80) (ls' := [some (7, this_0), some (0, n_0), some (0, m_0), some (0, k_0), some (1, whole_28), none, some (1, v32), none, some (1, (max 1 v34)), none]) F (by decide) rfl rfl dX5_crowd_80 ?_
      refine fx_aload_n (pc := 82) (t := 5) F 0 rfl rfl dX5_crowd_82 ?_
      refine fx_lload (pc := 83) F rfl dX5_crowd_83 ?_
      refine fx_lload (pc := 85) F rfl dX5_crowd_85 ?_
      obtain ⟨v36, e37, hf⟩ := fx_bnd hf
      refine fx_rldiv (pc := 87) F e37 dX5_crowd_87 ?_
      refine fx_pL (pc := 88) F 5 8 1000008 rfl kC_X5 rfl rfl (by decide +kernel) wF_X5_238 dX5_crowd_88 ?_
      refine fx_aload_n (pc := 91) (t := 5) F 0 rfl rfl dX5_crowd_91 ?_
      refine fx_lload (pc := 92) F rfl dX5_crowd_92 ?_
      refine fx_lload (pc := 94) F rfl dX5_crowd_94 ?_
      obtain ⟨v38, e39, hf⟩ := fx_bnd hf
      refine fx_rldiv (pc := 96) F e39 dX5_crowd_96 ?_
      refine fx_pL (pc := 97) F 5 9 1000009 rfl kC_X5 rfl rfl (by decide +kernel) wF_X5_55 dX5_crowd_97 ?_
      refine fx_iconst (pc := 100) F ⟨by decide, by decide⟩ dX5_crowd_100 ?_
      cases hf
      exact fx_ireturn (pc := 101) F K dX5_crowd_101
    refine fx_loop_J (Hd := (fun z : Int × Int => fx_J M G Λ 10 42 [some (7, this_0), some (0, n_0), some (0, m_0), some (0, k_0), some (1, z.1), none, some (0, z.2), none, none, none] [] h)) (Ex := (fun z : Int × Int => fx_J M G Λ 10 61 [some (7, this_0), some (0, n_0), some (0, m_0), some (0, k_0), some (1, z.1), none, some (0, z.2), none, none, none] [] h)) ?_ Fu _ _ e30 hE31
    rintro ⟨whole_24, i_25⟩ o9 eq26 ih ex
    unfold s_X5_crowd_1 at eq26
    show fx_J M G Λ 10 42 [some (7, this_0), some (0, n_0), some (0, m_0), some (0, k_0), some (1, whole_24), none, some (0, i_25), none, none, none] [] h
    refine fx_iload (pc := 42) F rfl dX5_crowd_42 ?_
    refine fx_iload_n (pc := 44) F 1 rfl rfl dX5_crowd_44 ?_
    refine fx_nlt (pc := 45) F 61 (by decide) dX5_crowd_45 (fun c27 => ?_) (fun c27 => ?_)
    · have eq26 := (if_pos c27).symm.trans eq26
      refine fx_lload (pc := 48) F rfl dX5_crowd_48 ?_
      refine fx_iload_n (pc := 50) F 2 rfl rfl dX5_crowd_50 ?_
      refine fx_ri2l (pc := 51) F dX5_crowd_51 ?_
      refine fx_lmul (pc := 52) F dX5_crowd_52 ?_
      refine fx_lstore (pc := 53) (ls' := [some (7, this_0), some (0, n_0), some (0, m_0), some (0, k_0), some (1, (fx_wl (whole_24 * m_0))), none, some (0, i_25), none, none, none]) F (by decide) rfl rfl dX5_crowd_53 ?_
      refine fx_iinc (pc := 55) (ls' := [some (7, this_0), some (0, n_0), some (0, m_0), some (0, k_0), some (1, (fx_wl (whole_24 * m_0))), none, some (0, (fx_w (i_25 + 1))), none, none, none]) F (by decide) rfl rfl rfl dX5_crowd_55 ?_
      refine fx_goto (pc := 58) F 42 (by decide) dX5_crowd_58 ?_
      cases eq26
      exact ih _ rfl
    · have eq26 := (if_neg c27).symm.trans eq26
      cases eq26
      exact ex _ rfl
  refine fx_iload_n (pc := 0) F 1 rfl rfl dX5_crowd_0 ?_
  refine fx_iconst (pc := 1) F ⟨by decide, by decide⟩ dX5_crowd_1 ?_
  refine fx_bipush (pc := 2) F ⟨by decide, by decide⟩ (by decide) dX5_crowd_2 ?_
  obtain ⟨v5, e6, e2⟩ := fx_bnd e2
  refine fx_cS (pc := 4) F [(0, n_0), (0, 1), (0, 18)] [] (m_X5_within Fu Λ n_0 1 18 h _ e6) kD_X5_within wSt_X5_within wM_X5_82 ⟨rfl, rfl⟩ ⟨by decide, by decide⟩ (Nat.le_of_ble_eq_true rfl) rfl dX5_crowd_4 ?_
  refine fx_jzeq (pc := 7) F 29 (by decide) dX5_crowd_7 (fun c7 => ?_) (fun c7 => ?_)
  · have e2 := (if_pos c7).symm.trans e2
    cases e2
    exact hT3 (by decide)
  · have e2 := (if_neg c7).symm.trans e2
    refine fx_iload_n (pc := 10) F 2 rfl rfl dX5_crowd_10 ?_
    refine fx_iconst (pc := 11) F ⟨by decide, by decide⟩ dX5_crowd_11 ?_
    refine fx_bipush (pc := 12) F ⟨by decide, by decide⟩ (by decide) dX5_crowd_12 ?_
    obtain ⟨v8, e9, e2⟩ := fx_bnd e2
    refine fx_cS (pc := 14) F [(0, m_0), (0, 1), (0, 9)] [] (m_X5_within Fu Λ m_0 1 9 h _ e9) kD_X5_within wSt_X5_within wM_X5_82 ⟨rfl, rfl⟩ ⟨by decide, by decide⟩ (Nat.le_of_ble_eq_true rfl) rfl dX5_crowd_14 ?_
    refine fx_jzeq (pc := 17) F 29 (by decide) dX5_crowd_17 (fun c10 => ?_) (fun c10 => ?_)
    · have e2 := (if_pos c10).symm.trans e2
      cases e2
      exact hT3 (by decide)
    · have e2 := (if_neg c10).symm.trans e2
      refine fx_iload_n (pc := 20) F 3 rfl rfl dX5_crowd_20 ?_
      refine fx_iconst (pc := 21) F ⟨by decide, by decide⟩ dX5_crowd_21 ?_
      refine fx_iload_n (pc := 22) F 1 rfl rfl dX5_crowd_22 ?_
      obtain ⟨v11, e12, e2⟩ := fx_bnd e2
      refine fx_cS (pc := 23) F [(0, k_0), (0, 0), (0, n_0)] [] (m_X5_within Fu Λ k_0 0 n_0 h _ e12) kD_X5_within wSt_X5_within wM_X5_82 ⟨rfl, rfl⟩ ⟨by decide, by decide⟩ (Nat.le_of_ble_eq_true rfl) rfl dX5_crowd_23 ?_
      refine fx_nzeq (pc := 26) F 36 (by decide) dX5_crowd_26 (fun c13 => ?_) (fun c13 => ?_)
      · have e2 := (if_pos c13).symm.trans e2
        cases e2
        exact hT3 (by decide)
      · have e2 := (if_neg c13).symm.trans e2
        cases e2
        exact hF4 (by decide)
def f_X5_part (Fu : Nat) (Λ : fx_L) (this_0 : Int) (what_0 : Int) (h : fx_H) : Option (Int × fx_H) :=
  if what_0 = 0 then
    some ((h this_0 1000008), h)
  else
    if what_0 = 1 then
      some ((h this_0 1000009), h)
    else
      (f_X5_refuseBad Fu Λ this_0 (-2) h).bind fun (v5, h6) =>
      some (v5, h6)
abbrev rm_X5_part : Room := { frames := 1, cells := 0, slots := 0, locals := 21 }
set_option maxRecDepth 100000 in
set_option maxHeartbeats 4000000 in
theorem m_X5_part (Fu : Nat) (Λ : fx_L) (this_0 : Int) (what_0 : Int) (h : fx_H) (r : Int) (ho : fx_H) (hf : f_X5_part Fu Λ this_0 what_0 h = some (r, ho)) : fx_Met yX5_part cX5_part 2 (some .long) rm_X5_part Λ [(7, this_0), (0, what_0)] h (some (1, r)) ho := by
  unfold f_X5_part at hf
  refine fx_enter (ls := [some (7, this_0), some (0, what_0)]) (by decide) (Nat.le_of_ble_eq_true rfl) rfl (fun M G F K => ?_)
  refine fx_iload_n (pc := 0) F 1 rfl rfl dX5_part_0 ?_
  by_cases c1 : what_0 = 0
  · have hf := (if_pos c1).symm.trans hf
    have hB2 : fx_J M G Λ 2 28 [some (7, this_0), some (0, what_0)] [] h := by
      refine fx_aload_n (pc := 28) (t := 5) F 0 rfl rfl dX5_part_28 ?_
      refine fx_gL (pc := 29) F 5 8 1000008 rfl kC_X5 rfl wF_X5_238 dX5_part_29 ?_
      cases hf
      exact fx_lreturn (pc := 32) F K dX5_part_32
    exact fx_lsw (pc := 1) (off := 27) F 28 dX5_part_1 (by decide) (by rw [c1]; first | done | rfl) (by decide) hB2
  · have hf := (if_neg c1).symm.trans hf
    by_cases c3 : what_0 = 1
    · have hf := (if_pos c3).symm.trans hf
      have hB4 : fx_J M G Λ 2 33 [some (7, this_0), some (0, what_0)] [] h := by
        refine fx_aload_n (pc := 33) (t := 5) F 0 rfl rfl dX5_part_33 ?_
        refine fx_gL (pc := 34) F 5 9 1000009 rfl kC_X5 rfl wF_X5_55 dX5_part_34 ?_
        cases hf
        exact fx_lreturn (pc := 37) F K dX5_part_37
      exact fx_lsw (pc := 1) (off := 32) F 33 dX5_part_1 (by decide) (by rw [c3]; first | done | rfl) (by decide) hB4
    · have hf := (if_neg c3).symm.trans hf
      refine fx_lsw (pc := 1) (off := 37) F 38 dX5_part_1 (by decide) (by rw [Op.lookupswitch.offset_cons, if_neg (fun q => c1 q.symm), Op.lookupswitch.offset_cons, if_neg (fun q => c3 q.symm)]; first | done | rfl) (by decide) ?_
      refine fx_aload_n (pc := 38) (t := 5) F 0 rfl rfl dX5_part_38 ?_
      refine fx_bipush (pc := 39) F ⟨by decide, by decide⟩ (by decide) dX5_part_39 ?_
      obtain ⟨⟨v5, h6⟩, e7, hf⟩ := fx_bnd hf
      refine fx_cV (pc := 41) F 5 kC_X5 [(0, (-2))] this_0 [] (m_X5_refuseBad Fu Λ this_0 (-2) h _ _ e7) kD_X5_refuseBad kI_X5_refuseBad rfl wM_X5_63 ⟨rfl, rfl⟩ ⟨by decide, by decide⟩ (Nat.le_of_ble_eq_true rfl) rfl dX5_part_41 ?_
      refine fx_ri2l (pc := 44) F dX5_part_44 ?_
      cases hf
      exact fx_lreturn (pc := 45) F K dX5_part_45
def f_X5_image (Fu : Nat) (Λ : fx_L) (this_0 : Int) (i_0 : Int) (h : fx_H) : Option (Int × fx_H) :=
  (f_X5_within Fu Λ i_0 0 1 h).bind fun v1 =>
  if v1 = 0 then
    (f_X5_refuseBad Fu Λ this_0 (-2) h).bind fun (v4, h5) =>
    some (v4, h5)
  else
    (fx_rr Λ (fx_tg Λ this_0 2) i_0).bind fun v7 =>
    (f_X4_takeOver Fu Λ v7 (fx_tg Λ this_0 0) h).bind fun h9 =>
    (fx_wr Λ h9 (fx_tg Λ this_0 3) i_0 1).bind fun h11 =>
    some (1, h11)
abbrev rm_X5_image : Room := { frames := 2, cells := 0, slots := 0, locals := 48 }
set_option maxRecDepth 100000 in
set_option maxHeartbeats 4000000 in
theorem m_X5_image (Fu : Nat) (Λ : fx_L) (this_0 : Int) (i_0 : Int) (h : fx_H) (r : Int) (ho : fx_H) (hf : f_X5_image Fu Λ this_0 i_0 h = some (r, ho)) : fx_Met yX5_image cX5_image 2 (some .int) rm_X5_image Λ [(7, this_0), (0, i_0)] h (some (0, r)) ho := by
  unfold f_X5_image at hf
  refine fx_enter (ls := [some (7, this_0), some (0, i_0)]) (by decide) (Nat.le_of_ble_eq_true rfl) rfl (fun M G F K => ?_)
  refine fx_iload_n (pc := 0) F 1 rfl rfl dX5_image_0 ?_
  refine fx_iconst (pc := 1) F ⟨by decide, by decide⟩ dX5_image_1 ?_
  refine fx_iconst (pc := 2) F ⟨by decide, by decide⟩ dX5_image_2 ?_
  obtain ⟨v1, e2, hf⟩ := fx_bnd hf
  refine fx_cS (pc := 3) F [(0, i_0), (0, 0), (0, 1)] [] (m_X5_within Fu Λ i_0 0 1 h _ e2) kD_X5_within wSt_X5_within wM_X5_82 ⟨rfl, rfl⟩ ⟨by decide, by decide⟩ (Nat.le_of_ble_eq_true rfl) rfl dX5_image_3 ?_
  refine fx_nzeq (pc := 6) F 16 (by decide) dX5_image_6 (fun c3 => ?_) (fun c3 => ?_)
  · have hf := (if_pos c3).symm.trans hf
    refine fx_aload_n (pc := 9) (t := 5) F 0 rfl rfl dX5_image_9 ?_
    refine fx_bipush (pc := 10) F ⟨by decide, by decide⟩ (by decide) dX5_image_10 ?_
    obtain ⟨⟨v4, h5⟩, e6, hf⟩ := fx_bnd hf
    refine fx_cV (pc := 12) F 5 kC_X5 [(0, (-2))] this_0 [] (m_X5_refuseBad Fu Λ this_0 (-2) h _ _ e6) kD_X5_refuseBad kI_X5_refuseBad rfl wM_X5_63 ⟨rfl, rfl⟩ ⟨by decide, by decide⟩ (Nat.le_of_ble_eq_true rfl) rfl dX5_image_12 ?_
    cases hf
    exact fx_ireturn (pc := 15) F K dX5_image_15
  · have hf := (if_neg c3).symm.trans hf
    refine fx_aload_n (pc := 16) (t := 5) F 0 rfl rfl dX5_image_16 ?_
    refine fx_gR (pc := 17) F 5 2 2 10 rfl kC_X5 (by decide) rfl wF_X5_19 dX5_image_17 ?_
    refine fx_iload_n (pc := 20) F 1 rfl rfl dX5_image_20 ?_
    obtain ⟨v7, e8, hf⟩ := fx_bnd hf
    refine fx_raldT (pc := 21) F e8 dX5_image_21 ?_
    refine fx_aload_n (pc := 22) (t := 5) F 0 rfl rfl dX5_image_22 ?_
    refine fx_gR (pc := 23) F 5 0 0 4 rfl kC_X5 (by decide) rfl wF_X5_10 dX5_image_23 ?_
    obtain ⟨h9, e10, hf⟩ := fx_bnd hf
    refine fx_cVv (pc := 26) F 4 kC_X4 [(6, (fx_tg Λ this_0 0))] v7 [] (m_X4_takeOver Fu Λ v7 (fx_tg Λ this_0 0) h _ e10) kD_X4_takeOver kI_X4_takeOver rfl wM_X5_143 ⟨rfl, rfl⟩ ⟨by decide, by decide⟩ (Nat.le_of_ble_eq_true rfl) rfl dX5_image_26 ?_
    refine fx_aload_n (pc := 29) (t := 5) F 0 rfl rfl dX5_image_29 ?_
    refine fx_gR (pc := 30) F 5 3 3 9 rfl kC_X5 (by decide) rfl wF_X5_23 dX5_image_30 ?_
    refine fx_iload_n (pc := 33) F 1 rfl rfl dX5_image_33 ?_
    refine fx_iconst (pc := 34) F ⟨by decide, by decide⟩ dX5_image_34 ?_
    obtain ⟨h11, e12, hf⟩ := fx_bnd hf
    refine fx_rastZ (pc := 35) F e12 (Or.inr rfl) dX5_image_35 ?_
    refine fx_iconst (pc := 36) F ⟨by decide, by decide⟩ dX5_image_36 ?_
    cases hf
    exact fx_ireturn (pc := 37) F K dX5_image_37
def f_X5_from (Fu : Nat) (Λ : fx_L) (this_0 : Int) (i_0 : Int) (h : fx_H) : Option (Int × fx_H) :=
  (f_X5_within Fu Λ i_0 0 1 h).bind fun v1 =>
  if v1 = 0 then
    (f_X5_refuseBad Fu Λ this_0 (-2) h).bind fun (v4, h5) =>
    some (v4, h5)
  else
    (fx_rd Λ h (fx_tg Λ this_0 3) i_0).bind fun v7 =>
    if v7 = 0 then
      (f_X5_refuseNo Fu Λ this_0 h).bind fun (v10, h11) =>
      some (v10, h11)
    else
      (fx_rr Λ (fx_tg Λ this_0 2) i_0).bind fun v13 =>
      (f_X4_takeOver Fu Λ (fx_tg Λ this_0 0) v13 (fx_up h this_0 13 (fx_w ((h this_0 13) + 1)))).bind fun h15 =>
      some (1, h15)
abbrev rm_X5_from : Room := { frames := 2, cells := 0, slots := 0, locals := 48 }
set_option maxRecDepth 100000 in
set_option maxHeartbeats 4000000 in
theorem m_X5_from (Fu : Nat) (Λ : fx_L) (this_0 : Int) (i_0 : Int) (h : fx_H) (r : Int) (ho : fx_H) (hf : f_X5_from Fu Λ this_0 i_0 h = some (r, ho)) : fx_Met yX5_from cX5_from 2 (some .int) rm_X5_from Λ [(7, this_0), (0, i_0)] h (some (0, r)) ho := by
  unfold f_X5_from at hf
  refine fx_enter (ls := [some (7, this_0), some (0, i_0)]) (by decide) (Nat.le_of_ble_eq_true rfl) rfl (fun M G F K => ?_)
  refine fx_iload_n (pc := 0) F 1 rfl rfl dX5_from_0 ?_
  refine fx_iconst (pc := 1) F ⟨by decide, by decide⟩ dX5_from_1 ?_
  refine fx_iconst (pc := 2) F ⟨by decide, by decide⟩ dX5_from_2 ?_
  obtain ⟨v1, e2, hf⟩ := fx_bnd hf
  refine fx_cS (pc := 3) F [(0, i_0), (0, 0), (0, 1)] [] (m_X5_within Fu Λ i_0 0 1 h _ e2) kD_X5_within wSt_X5_within wM_X5_82 ⟨rfl, rfl⟩ ⟨by decide, by decide⟩ (Nat.le_of_ble_eq_true rfl) rfl dX5_from_3 ?_
  refine fx_nzeq (pc := 6) F 16 (by decide) dX5_from_6 (fun c3 => ?_) (fun c3 => ?_)
  · have hf := (if_pos c3).symm.trans hf
    refine fx_aload_n (pc := 9) (t := 5) F 0 rfl rfl dX5_from_9 ?_
    refine fx_bipush (pc := 10) F ⟨by decide, by decide⟩ (by decide) dX5_from_10 ?_
    obtain ⟨⟨v4, h5⟩, e6, hf⟩ := fx_bnd hf
    refine fx_cV (pc := 12) F 5 kC_X5 [(0, (-2))] this_0 [] (m_X5_refuseBad Fu Λ this_0 (-2) h _ _ e6) kD_X5_refuseBad kI_X5_refuseBad rfl wM_X5_63 ⟨rfl, rfl⟩ ⟨by decide, by decide⟩ (Nat.le_of_ble_eq_true rfl) rfl dX5_from_12 ?_
    cases hf
    exact fx_ireturn (pc := 15) F K dX5_from_15
  · have hf := (if_neg c3).symm.trans hf
    refine fx_aload_n (pc := 16) (t := 5) F 0 rfl rfl dX5_from_16 ?_
    refine fx_gR (pc := 17) F 5 3 3 9 rfl kC_X5 (by decide) rfl wF_X5_23 dX5_from_17 ?_
    refine fx_iload_n (pc := 20) F 1 rfl rfl dX5_from_20 ?_
    obtain ⟨v7, e8, hf⟩ := fx_bnd hf
    refine fx_raldZ (pc := 21) F e8 dX5_from_21 ?_
    refine fx_nzeq (pc := 22) F 30 (by decide) dX5_from_22 (fun c9 => ?_) (fun c9 => ?_)
    · have hf := (if_pos c9).symm.trans hf
      refine fx_aload_n (pc := 25) (t := 5) F 0 rfl rfl dX5_from_25 ?_
      obtain ⟨⟨v10, h11⟩, e12, hf⟩ := fx_bnd hf
      refine fx_cV (pc := 26) F 5 kC_X5 [] this_0 [] (m_X5_refuseNo Fu Λ this_0 h _ _ e12) kD_X5_refuseNo kI_X5_refuseNo rfl wM_X5_120 ⟨rfl, rfl⟩ ⟨by decide, by decide⟩ (Nat.le_of_ble_eq_true rfl) rfl dX5_from_26 ?_
      cases hf
      exact fx_ireturn (pc := 29) F K dX5_from_29
    · have hf := (if_neg c9).symm.trans hf
      refine fx_aload_n (pc := 30) (t := 5) F 0 rfl rfl dX5_from_30 ?_
      refine fx_dup (pc := 31) F (show (7 : Nat) ≠ 1 by decide) dX5_from_31 ?_
      refine fx_gI (pc := 32) F 5 13 13 rfl kC_X5 rfl wF_X5_75 dX5_from_32 ?_
      refine fx_iconst (pc := 35) F ⟨by decide, by decide⟩ dX5_from_35 ?_
      refine fx_iadd (pc := 36) F dX5_from_36 ?_
      refine fx_pI (pc := 37) F 5 13 13 rfl kC_X5 rfl rfl (by decide +kernel) wF_X5_75 dX5_from_37 ?_
      refine fx_aload_n (pc := 40) (t := 5) F 0 rfl rfl dX5_from_40 ?_
      refine fx_gR (pc := 41) F 5 0 0 4 rfl kC_X5 (by decide) rfl wF_X5_10 dX5_from_41 ?_
      refine fx_aload_n (pc := 44) (t := 5) F 0 rfl rfl dX5_from_44 ?_
      refine fx_gR (pc := 45) F 5 2 2 10 rfl kC_X5 (by decide) rfl wF_X5_19 dX5_from_45 ?_
      refine fx_iload_n (pc := 48) F 1 rfl rfl dX5_from_48 ?_
      obtain ⟨v13, e14, hf⟩ := fx_bnd hf
      refine fx_raldT (pc := 49) F e14 dX5_from_49 ?_
      obtain ⟨h15, e16, hf⟩ := fx_bnd hf
      refine fx_cVv (pc := 50) F 4 kC_X4 [(6, v13)] (fx_tg Λ this_0 0) [] (m_X4_takeOver Fu Λ (fx_tg Λ this_0 0) v13 (fx_up h this_0 13 (fx_w ((h this_0 13) + 1))) _ e16) kD_X4_takeOver kI_X4_takeOver rfl wM_X5_143 ⟨rfl, rfl⟩ ⟨by decide, by decide⟩ (Nat.le_of_ble_eq_true rfl) rfl dX5_from_50 ?_
      refine fx_iconst (pc := 53) F ⟨by decide, by decide⟩ dX5_from_53 ?_
      cases hf
      exact fx_ireturn (pc := 54) F K dX5_from_54
def f_X5_status (Fu : Nat) (Λ : fx_L) (this_0 : Int) (what_0 : Int) (h : fx_H) : Option (Int × fx_H) :=
  if what_0 = 0 then
    some ((h this_0 10), h)
  else
    if what_0 = 1 then
      some ((h this_0 11), h)
    else
      if what_0 = 2 then
        some ((h this_0 12), h)
      else
        (f_X5_refuseBad Fu Λ this_0 (-1) h).bind fun (v7, h8) =>
        some (v7, h8)
abbrev rm_X5_status : Room := { frames := 1, cells := 0, slots := 0, locals := 21 }
set_option maxRecDepth 100000 in
set_option maxHeartbeats 4000000 in
theorem m_X5_status (Fu : Nat) (Λ : fx_L) (this_0 : Int) (what_0 : Int) (h : fx_H) (r : Int) (ho : fx_H) (hf : f_X5_status Fu Λ this_0 what_0 h = some (r, ho)) : fx_Met yX5_status cX5_status 2 (some .int) rm_X5_status Λ [(7, this_0), (0, what_0)] h (some (0, r)) ho := by
  unfold f_X5_status at hf
  refine fx_enter (ls := [some (7, this_0), some (0, what_0)]) (by decide) (Nat.le_of_ble_eq_true rfl) rfl (fun M G F K => ?_)
  refine fx_iload_n (pc := 0) F 1 rfl rfl dX5_status_0 ?_
  by_cases c1 : what_0 = 0
  · have hf := (if_pos c1).symm.trans hf
    have hB2 : fx_J M G Λ 2 28 [some (7, this_0), some (0, what_0)] [] h := by
      refine fx_aload_n (pc := 28) (t := 5) F 0 rfl rfl dX5_status_28 ?_
      refine fx_gI (pc := 29) F 5 10 10 rfl kC_X5 rfl wF_X5_241 dX5_status_29 ?_
      cases hf
      exact fx_ireturn (pc := 32) F K dX5_status_32
    exact fx_tswI (pc := 1) F 28 0 dX5_status_1 c1 (by decide) rfl (by decide) hB2
  · have hf := (if_neg c1).symm.trans hf
    by_cases c3 : what_0 = 1
    · have hf := (if_pos c3).symm.trans hf
      have hB4 : fx_J M G Λ 2 33 [some (7, this_0), some (0, what_0)] [] h := by
        refine fx_aload_n (pc := 33) (t := 5) F 0 rfl rfl dX5_status_33 ?_
        refine fx_gI (pc := 34) F 5 11 11 rfl kC_X5 rfl wF_X5_244 dX5_status_34 ?_
        cases hf
        exact fx_ireturn (pc := 37) F K dX5_status_37
      exact fx_tswI (pc := 1) F 33 1 dX5_status_1 c3 (by decide) rfl (by decide) hB4
    · have hf := (if_neg c3).symm.trans hf
      by_cases c5 : what_0 = 2
      · have hf := (if_pos c5).symm.trans hf
        have hB6 : fx_J M G Λ 2 38 [some (7, this_0), some (0, what_0)] [] h := by
          refine fx_aload_n (pc := 38) (t := 5) F 0 rfl rfl dX5_status_38 ?_
          refine fx_gI (pc := 39) F 5 12 12 rfl kC_X5 rfl wF_X5_247 dX5_status_39 ?_
          cases hf
          exact fx_ireturn (pc := 42) F K dX5_status_42
        exact fx_tswI (pc := 1) F 38 2 dX5_status_1 c5 (by decide) rfl (by decide) hB6
      · have hf := (if_neg c5).symm.trans hf
        refine fx_tswO (pc := 1) F 43 dX5_status_1 (by omega) (by decide) ?_
        refine fx_aload_n (pc := 43) (t := 5) F 0 rfl rfl dX5_status_43 ?_
        refine fx_iconst (pc := 44) F ⟨by decide, by decide⟩ dX5_status_44 ?_
        obtain ⟨⟨v7, h8⟩, e9, hf⟩ := fx_bnd hf
        refine fx_cV (pc := 45) F 5 kC_X5 [(0, (-1))] this_0 [] (m_X5_refuseBad Fu Λ this_0 (-1) h _ _ e9) kD_X5_refuseBad kI_X5_refuseBad rfl wM_X5_63 ⟨rfl, rfl⟩ ⟨by decide, by decide⟩ (Nat.le_of_ble_eq_true rfl) rfl dX5_status_45 ?_
        cases hf
        exact fx_ireturn (pc := 48) F K dX5_status_48
def f_X5_amount (Fu : Nat) (Λ : fx_L) (this_0 : Int) (what_0 : Int) (h : fx_H) : Option (Int) :=
  if what_0 = 0 then
    some (h (fx_tg Λ this_0 0) 0)
  else
    if what_0 = 1 then
      some (h (fx_tg Λ this_0 0) 2)
    else
      if what_0 = 2 then
        some (h (fx_tg Λ this_0 0) 3)
      else
        if what_0 = 3 then
          some (h (fx_tg Λ this_0 0) 5)
        else
          some (h (fx_tg Λ this_0 4) 1)
abbrev rm_X5_amount : Room := { frames := 0, cells := 0, slots := 0, locals := 0 }
set_option maxRecDepth 100000 in
set_option maxHeartbeats 4000000 in
theorem m_X5_amount (Fu : Nat) (Λ : fx_L) (this_0 : Int) (what_0 : Int) (h : fx_H) (r : Int) (hf : f_X5_amount Fu Λ this_0 what_0 h = some r) : fx_Met yX5_amount cX5_amount 2 (some .int) rm_X5_amount Λ [(7, this_0), (0, what_0)] h (some (0, r)) h := by
  unfold f_X5_amount at hf
  refine fx_enter (ls := [some (7, this_0), some (0, what_0)]) (by decide) (Nat.le_of_ble_eq_true rfl) rfl (fun M G F K => ?_)
  refine fx_iload_n (pc := 0) F 1 rfl rfl dX5_amount_0 ?_
  by_cases c1 : what_0 = 0
  · have hf := (if_pos c1).symm.trans hf
    have hB2 : fx_J M G Λ 2 32 [some (7, this_0), some (0, what_0)] [] h := by
      refine fx_aload_n (pc := 32) (t := 5) F 0 rfl rfl dX5_amount_32 ?_
      refine fx_gR (pc := 33) F 5 0 0 4 rfl kC_X5 (by decide) rfl wF_X5_10 dX5_amount_33 ?_
      refine fx_gI (pc := 36) F 4 0 0 rfl kC_X4 rfl wF_X5_67 dX5_amount_36 ?_
      cases hf
      exact fx_ireturn (pc := 39) F K dX5_amount_39
    exact fx_tswI (pc := 1) F 32 0 dX5_amount_1 c1 (by decide) rfl (by decide) hB2
  · have hf := (if_neg c1).symm.trans hf
    by_cases c3 : what_0 = 1
    · have hf := (if_pos c3).symm.trans hf
      have hB4 : fx_J M G Λ 2 40 [some (7, this_0), some (0, what_0)] [] h := by
        refine fx_aload_n (pc := 40) (t := 5) F 0 rfl rfl dX5_amount_40 ?_
        refine fx_gR (pc := 41) F 5 0 0 4 rfl kC_X5 (by decide) rfl wF_X5_10 dX5_amount_41 ?_
        refine fx_gI (pc := 44) F 4 2 2 rfl kC_X4 rfl wF_X5_202 dX5_amount_44 ?_
        cases hf
        exact fx_ireturn (pc := 47) F K dX5_amount_47
      exact fx_tswI (pc := 1) F 40 1 dX5_amount_1 c3 (by decide) rfl (by decide) hB4
    · have hf := (if_neg c3).symm.trans hf
      by_cases c5 : what_0 = 2
      · have hf := (if_pos c5).symm.trans hf
        have hB6 : fx_J M G Λ 2 48 [some (7, this_0), some (0, what_0)] [] h := by
          refine fx_aload_n (pc := 48) (t := 5) F 0 rfl rfl dX5_amount_48 ?_
          refine fx_gR (pc := 49) F 5 0 0 4 rfl kC_X5 (by decide) rfl wF_X5_10 dX5_amount_49 ?_
          refine fx_gI (pc := 52) F 4 3 3 rfl kC_X4 rfl wF_X5_191 dX5_amount_52 ?_
          cases hf
          exact fx_ireturn (pc := 55) F K dX5_amount_55
        exact fx_tswI (pc := 1) F 48 2 dX5_amount_1 c5 (by decide) rfl (by decide) hB6
      · have hf := (if_neg c5).symm.trans hf
        by_cases c7 : what_0 = 3
        · have hf := (if_pos c7).symm.trans hf
          have hB8 : fx_J M G Λ 2 56 [some (7, this_0), some (0, what_0)] [] h := by
            refine fx_aload_n (pc := 56) (t := 5) F 0 rfl rfl dX5_amount_56 ?_
            refine fx_gR (pc := 57) F 5 0 0 4 rfl kC_X5 (by decide) rfl wF_X5_10 dX5_amount_57 ?_
            refine fx_gI (pc := 60) F 4 5 5 rfl kC_X4 rfl wF_X5_117 dX5_amount_60 ?_
            cases hf
            exact fx_ireturn (pc := 63) F K dX5_amount_63
          exact fx_tswI (pc := 1) F 56 3 dX5_amount_1 c7 (by decide) rfl (by decide) hB8
        · have hf := (if_neg c7).symm.trans hf
          refine fx_tswO (pc := 1) F 64 dX5_amount_1 (by omega) (by decide) ?_
          refine fx_aload_n (pc := 64) (t := 5) F 0 rfl rfl dX5_amount_64 ?_
          refine fx_gR (pc := 65) F 5 4 4 3 rfl kC_X5 (by decide) rfl wF_X5_30 dX5_amount_65 ?_
          refine fx_gI (pc := 68) F 3 1 1 rfl kC_X3 rfl wF_X5_132 dX5_amount_68 ?_
          cases hf
          exact fx_ireturn (pc := 71) F K dX5_amount_71
def f_X5_count (Fu : Nat) (Λ : fx_L) (this_0 : Int) (what_0 : Int) (h : fx_H) : Option (Int × fx_H) :=
  Option.bind (
    (f_X5_within Fu Λ what_0 0 4 h).bind fun v5 =>
    if ¬ v5 = 0 then
      (f_X5_amount Fu Λ this_0 what_0 h).bind fun v8 =>
      some (v8, h)
    else
      (f_X5_refuseBad Fu Λ this_0 (-2) h).bind fun (v10, h11) =>
      some (v10, h11)
  ) fun (v1, h2) =>
  some (v1, h2)
abbrev rm_X5_count : Room := { frames := 1, cells := 0, slots := 0, locals := 22 }
set_option maxRecDepth 100000 in
set_option maxHeartbeats 4000000 in
theorem m_X5_count (Fu : Nat) (Λ : fx_L) (this_0 : Int) (what_0 : Int) (h : fx_H) (r : Int) (ho : fx_H) (hf : f_X5_count Fu Λ this_0 what_0 h = some (r, ho)) : fx_Met yX5_count cX5_count 2 (some .int) rm_X5_count Λ [(7, this_0), (0, what_0)] h (some (0, r)) ho := by
  unfold f_X5_count at hf
  refine fx_enter (ls := [some (7, this_0), some (0, what_0)]) (by decide) (Nat.le_of_ble_eq_true rfl) rfl (fun M G F K => ?_)
  obtain ⟨⟨v1, h2⟩, e3, hf⟩ := fx_bnd hf
  have hJ4 : fx_J M G Λ 2 23 [some (7, this_0), some (0, what_0)] [(0, v1)] h2 := by
    cases hf
    exact fx_ireturn (pc := 23) F K dX5_count_23
  refine fx_iload_n (pc := 0) F 1 rfl rfl dX5_count_0 ?_
  refine fx_iconst (pc := 1) F ⟨by decide, by decide⟩ dX5_count_1 ?_
  refine fx_iconst (pc := 2) F ⟨by decide, by decide⟩ dX5_count_2 ?_
  obtain ⟨v5, e6, e3⟩ := fx_bnd e3
  refine fx_cS (pc := 3) F [(0, what_0), (0, 0), (0, 4)] [] (m_X5_within Fu Λ what_0 0 4 h _ e6) kD_X5_within wSt_X5_within wM_X5_82 ⟨rfl, rfl⟩ ⟨by decide, by decide⟩ (Nat.le_of_ble_eq_true rfl) rfl dX5_count_3 ?_
  refine fx_nzne (pc := 6) F 17 (by decide) dX5_count_6 (fun c7 => ?_) (fun c7 => ?_)
  · have e3 := (if_pos c7).symm.trans e3
    refine fx_aload_n (pc := 9) (t := 5) F 0 rfl rfl dX5_count_9 ?_
    refine fx_iload_n (pc := 10) F 1 rfl rfl dX5_count_10 ?_
    obtain ⟨v8, e9, e3⟩ := fx_bnd e3
    refine fx_cV (pc := 11) F 5 kC_X5 [(0, what_0)] this_0 [] (m_X5_amount Fu Λ this_0 what_0 h _ e9) kD_X5_amount kI_X5_amount rfl wM_X5_250 ⟨rfl, rfl⟩ ⟨by decide, by decide⟩ (Nat.le_of_ble_eq_true rfl) rfl dX5_count_11 ?_
    cases e3
    refine fx_goto (pc := 14) F 23 (by decide) dX5_count_14 ?_
    exact hJ4
  · have e3 := (if_neg c7).symm.trans e3
    refine fx_aload_n (pc := 17) (t := 5) F 0 rfl rfl dX5_count_17 ?_
    refine fx_bipush (pc := 18) F ⟨by decide, by decide⟩ (by decide) dX5_count_18 ?_
    obtain ⟨⟨v10, h11⟩, e12, e3⟩ := fx_bnd e3
    refine fx_cV (pc := 20) F 5 kC_X5 [(0, (-2))] this_0 [] (m_X5_refuseBad Fu Λ this_0 (-2) h _ _ e12) kD_X5_refuseBad kI_X5_refuseBad rfl wM_X5_63 ⟨rfl, rfl⟩ ⟨by decide, by decide⟩ (Nat.le_of_ble_eq_true rfl) rfl dX5_count_20 ?_
    cases e3
    exact hJ4
def s_X5_digestWith_1 (Fu : Nat) (Λ : fx_L) (this_3 : Int) (person_4 : Int) (h : fx_H) : Int × Int → Option ((Int × Int) ⊕ (Int × Int)) := fun (h_1, hour_2) =>
  if hour_2 < (h (fx_tg Λ this_3 0) 3) then
    (fx_rr Λ (fx_tg Λ (fx_tg Λ this_3 0) 8) hour_2).bind fun v7 =>
    (fx_rd Λ h v7 person_4).bind fun v9 =>
    (f_X5_shown Fu Λ v9 h).bind fun v11 =>
    some (.inl ((fx_wl ((fx_wl (31 * h_1)) + v11)), (fx_w (hour_2 + 1))))
  else
    some (.inr (h_1, hour_2))
def s_X5_digestWith_2 (Fu : Nat) (Λ : fx_L) (this_29 : Int) (person_30 : Int) (h : fx_H) : Int × Int → Option ((Int × Int) ⊕ (Int × Int)) := fun (h_27, t_28) =>
  if t_28 < (h (fx_tg Λ this_29 0) 0) then
    (fx_rr Λ (fx_tg Λ (fx_tg Λ this_29 0) 9) person_30).bind fun v33 =>
    (fx_rd Λ h v33 t_28).bind fun v35 =>
    some (.inl ((fx_wl ((fx_wl (31 * h_27)) + v35)), (fx_w (t_28 + 1))))
  else
    some (.inr (h_27, t_28))
def f_X5_digestWith (Fu : Nat) (Λ : fx_L) (this_0 : Int) (start_0 : Int) (person_0 : Int) (h : fx_H) : Option (Int) :=
  Option.bind (fx_loop (s_X5_digestWith_1 Fu Λ this_0 person_0 h) Fu (start_0, 0)) fun (h_23, hour_24) =>
  Option.bind (fx_loop (s_X5_digestWith_2 Fu Λ this_0 person_0 h) Fu (h_23, 0)) fun (h_45, t_46) =>
  (fx_rd Λ h (fx_tg Λ (fx_tg Λ this_0 0) 10) person_0).bind fun v49 =>
  some (fx_wl ((fx_wl (31 * h_45)) + v49))
abbrev rm_X5_digestWith : Room := { frames := 1, cells := 0, slots := 0, locals := 20 }
set_option maxRecDepth 100000 in
set_option maxHeartbeats 4000000 in
theorem m_X5_digestWith (Fu : Nat) (Λ : fx_L) (this_0 : Int) (start_0 : Int) (person_0 : Int) (h : fx_H) (r : Int) (hf : f_X5_digestWith Fu Λ this_0 start_0 person_0 h = some r) : fx_Met yX5_digestWith cX5_digestWith 7 (some .long) rm_X5_digestWith Λ [(7, this_0), (1, start_0), (0, person_0)] h (some (1, r)) h := by
  unfold f_X5_digestWith at hf
  refine fx_enter (ls := [some (7, this_0), some (1, start_0), none, some (0, person_0), none, none, none]) (by decide) (Nat.le_of_ble_eq_true rfl) rfl (fun M G F K => ?_)
  refine fx_lload_n (pc := 0) F 1 rfl rfl dX5_digestWith_0 ?_
  refine fx_lstore (pc := 1) (ls' := [some (7, this_0), some (1, start_0), none, some (0, person_0), some (1, start_0), none, none]) F (by decide) rfl rfl dX5_digestWith_1 ?_
  refine fx_iconst (pc := 3) F ⟨by decide, by decide⟩ dX5_digestWith_3 ?_
  refine fx_istore (pc := 4) (ls' := [some (7, this_0), some (1, start_0), none, some (0, person_0), some (1, start_0), none, some (0, 0)]) F (by decide) rfl rfl dX5_digestWith_4 ?_
  obtain ⟨⟨h_23, hour_24⟩, e25, hf⟩ := fx_bnd hf
  have hE26 : fx_J M G Λ 7 49 [some (7, this_0), some (1, start_0), none, some (0, person_0), some (1, h_23), none, some (0, hour_24)] [] h := by
    refine fx_iconst (pc := 49) F ⟨by decide, by decide⟩ dX5_digestWith_49 ?_
    refine fx_istore (pc := 50) (ls' := [some (7, this_0), some (1, start_0), none, some (0, person_0), some (1, h_23), none, some (0, 0)]) F (by decide) rfl rfl dX5_digestWith_50 ?_
    obtain ⟨⟨h_45, t_46⟩, e47, hf⟩ := fx_bnd hf
    have hE48 : fx_J M G Λ 7 92 [some (7, this_0), some (1, start_0), none, some (0, person_0), some (1, h_45), none, some (0, t_46)] [] h := by
      refine fx_ldc2 (pc := 92) (z := 31) F (by decide) ⟨by decide, by decide⟩ wK_X5_255 dX5_digestWith_92 ?_
      refine fx_lload (pc := 95) F rfl dX5_digestWith_95 ?_
      refine fx_lmul (pc := 97) F dX5_digestWith_97 ?_
      refine fx_aload_n (pc := 98) (t := 5) F 0 rfl rfl dX5_digestWith_98 ?_
      refine fx_gR (pc := 99) F 5 0 0 4 rfl kC_X5 (by decide) rfl wF_X5_10 dX5_digestWith_99 ?_
      refine fx_gR (pc := 102) F 4 10 10 8 rfl kC_X4 (by decide) rfl wF_X5_209 dX5_digestWith_102 ?_
      refine fx_iload_n (pc := 105) F 3 rfl rfl dX5_digestWith_105 ?_
      obtain ⟨v49, e50, hf⟩ := fx_bnd hf
      refine fx_raldI (pc := 106) F e50 dX5_digestWith_106 ?_
      refine fx_ri2l (pc := 107) F dX5_digestWith_107 ?_
      refine fx_ladd (pc := 108) F dX5_digestWith_108 ?_
      cases hf
      exact fx_lreturn (pc := 109) F K dX5_digestWith_109
    refine fx_loop_J (Hd := (fun z : Int × Int => fx_J M G Λ 7 52 [some (7, this_0), some (1, start_0), none, some (0, person_0), some (1, z.1), none, some (0, z.2)] [] h)) (Ex := (fun z : Int × Int => fx_J M G Λ 7 92 [some (7, this_0), some (1, start_0), none, some (0, person_0), some (1, z.1), none, some (0, z.2)] [] h)) ?_ Fu _ _ e47 hE48
    rintro ⟨h_37, t_38⟩ o9 eq39 ih ex
    unfold s_X5_digestWith_2 at eq39
    show fx_J M G Λ 7 52 [some (7, this_0), some (1, start_0), none, some (0, person_0), some (1, h_37), none, some (0, t_38)] [] h
    refine fx_iload (pc := 52) F rfl dX5_digestWith_52 ?_
    refine fx_aload_n (pc := 54) (t := 5) F 0 rfl rfl dX5_digestWith_54 ?_
    refine fx_gR (pc := 55) F 5 0 0 4 rfl kC_X5 (by decide) rfl wF_X5_10 dX5_digestWith_55 ?_
    refine fx_gI (pc := 58) F 4 0 0 rfl kC_X4 rfl wF_X5_67 dX5_digestWith_58 ?_
    refine fx_nlt (pc := 61) F 92 (by decide) dX5_digestWith_61 (fun c40 => ?_) (fun c40 => ?_)
    · have eq39 := (if_pos c40).symm.trans eq39
      refine fx_ldc2 (pc := 64) (z := 31) F (by decide) ⟨by decide, by decide⟩ wK_X5_255 dX5_digestWith_64 ?_
      refine fx_lload (pc := 67) F rfl dX5_digestWith_67 ?_
      refine fx_lmul (pc := 69) F dX5_digestWith_69 ?_
      refine fx_aload_n (pc := 70) (t := 5) F 0 rfl rfl dX5_digestWith_70 ?_
      refine fx_gR (pc := 71) F 5 0 0 4 rfl kC_X5 (by decide) rfl wF_X5_10 dX5_digestWith_71 ?_
      refine fx_gR (pc := 74) F 4 9 9 11 rfl kC_X4 (by decide) rfl wF_X5_129 dX5_digestWith_74 ?_
      refine fx_iload_n (pc := 77) F 3 rfl rfl dX5_digestWith_77 ?_
      obtain ⟨v41, e42, eq39⟩ := fx_bnd eq39
      refine fx_raldG (pc := 78) F e42 dX5_digestWith_78 ?_
      refine fx_iload (pc := 79) F rfl dX5_digestWith_79 ?_
      obtain ⟨v43, e44, eq39⟩ := fx_bnd eq39
      refine fx_raldI (pc := 81) F e44 dX5_digestWith_81 ?_
      refine fx_ri2l (pc := 82) F dX5_digestWith_82 ?_
      refine fx_ladd (pc := 83) F dX5_digestWith_83 ?_
      refine fx_lstore (pc := 84) (ls' := [some (7, this_0), some (1, start_0), none, some (0, person_0), some (1, (fx_wl ((fx_wl (31 * h_37)) + v43))), none, some (0, t_38)]) F (by decide) rfl rfl dX5_digestWith_84 ?_
      refine fx_iinc (pc := 86) (ls' := [some (7, this_0), some (1, start_0), none, some (0, person_0), some (1, (fx_wl ((fx_wl (31 * h_37)) + v43))), none, some (0, (fx_w (t_38 + 1)))]) F (by decide) rfl rfl rfl dX5_digestWith_86 ?_
      refine fx_goto (pc := 89) F 52 (by decide) dX5_digestWith_89 ?_
      cases eq39
      exact ih _ rfl
    · have eq39 := (if_neg c40).symm.trans eq39
      cases eq39
      exact ex _ rfl
  refine fx_loop_J (Hd := (fun z : Int × Int => fx_J M G Λ 7 6 [some (7, this_0), some (1, start_0), none, some (0, person_0), some (1, z.1), none, some (0, z.2)] [] h)) (Ex := (fun z : Int × Int => fx_J M G Λ 7 49 [some (7, this_0), some (1, start_0), none, some (0, person_0), some (1, z.1), none, some (0, z.2)] [] h)) ?_ Fu _ _ e25 hE26
  rintro ⟨h_13, hour_14⟩ o9 eq15 ih ex
  unfold s_X5_digestWith_1 at eq15
  show fx_J M G Λ 7 6 [some (7, this_0), some (1, start_0), none, some (0, person_0), some (1, h_13), none, some (0, hour_14)] [] h
  refine fx_iload (pc := 6) F rfl dX5_digestWith_6 ?_
  refine fx_aload_n (pc := 8) (t := 5) F 0 rfl rfl dX5_digestWith_8 ?_
  refine fx_gR (pc := 9) F 5 0 0 4 rfl kC_X5 (by decide) rfl wF_X5_10 dX5_digestWith_9 ?_
  refine fx_gI (pc := 12) F 4 3 3 rfl kC_X4 rfl wF_X5_191 dX5_digestWith_12 ?_
  refine fx_nlt (pc := 15) F 49 (by decide) dX5_digestWith_15 (fun c16 => ?_) (fun c16 => ?_)
  · have eq15 := (if_pos c16).symm.trans eq15
    refine fx_ldc2 (pc := 18) (z := 31) F (by decide) ⟨by decide, by decide⟩ wK_X5_255 dX5_digestWith_18 ?_
    refine fx_lload (pc := 21) F rfl dX5_digestWith_21 ?_
    refine fx_lmul (pc := 23) F dX5_digestWith_23 ?_
    refine fx_aload_n (pc := 24) (t := 5) F 0 rfl rfl dX5_digestWith_24 ?_
    refine fx_gR (pc := 25) F 5 0 0 4 rfl kC_X5 (by decide) rfl wF_X5_10 dX5_digestWith_25 ?_
    refine fx_gR (pc := 28) F 4 8 8 11 rfl kC_X4 (by decide) rfl wF_X5_106 dX5_digestWith_28 ?_
    refine fx_iload (pc := 31) F rfl dX5_digestWith_31 ?_
    obtain ⟨v17, e18, eq15⟩ := fx_bnd eq15
    refine fx_raldG (pc := 33) F e18 dX5_digestWith_33 ?_
    refine fx_iload_n (pc := 34) F 3 rfl rfl dX5_digestWith_34 ?_
    obtain ⟨v19, e20, eq15⟩ := fx_bnd eq15
    refine fx_raldI (pc := 35) F e20 dX5_digestWith_35 ?_
    obtain ⟨v21, e22, eq15⟩ := fx_bnd eq15
    refine fx_cS (pc := 36) F [(0, v19)] [(1, (fx_wl (31 * h_13)))] (m_X5_shown Fu Λ v19 h _ e22) kD_X5_shown wSt_X5_shown wM_X5_114 ⟨rfl, rfl⟩ ⟨by decide, by decide⟩ (Nat.le_of_ble_eq_true rfl) rfl dX5_digestWith_36 ?_
    refine fx_ri2l (pc := 39) F dX5_digestWith_39 ?_
    refine fx_ladd (pc := 40) F dX5_digestWith_40 ?_
    refine fx_lstore (pc := 41) (ls' := [some (7, this_0), some (1, start_0), none, some (0, person_0), some (1, (fx_wl ((fx_wl (31 * h_13)) + v21))), none, some (0, hour_14)]) F (by decide) rfl rfl dX5_digestWith_41 ?_
    refine fx_iinc (pc := 43) (ls' := [some (7, this_0), some (1, start_0), none, some (0, person_0), some (1, (fx_wl ((fx_wl (31 * h_13)) + v21))), none, some (0, (fx_w (hour_14 + 1)))]) F (by decide) rfl rfl rfl dX5_digestWith_43 ?_
    refine fx_goto (pc := 46) F 6 (by decide) dX5_digestWith_46 ?_
    cases eq15
    exact ih _ rfl
  · have eq15 := (if_neg c16).symm.trans eq15
    cases eq15
    exact ex _ rfl
def s_X5_digest_1 (Fu : Nat) (Λ : fx_L) (this_3 : Int) (h : fx_H) : Int × Int → Option ((Int × Int) ⊕ (Int × Int)) := fun (h_1, what_2) =>
  if what_2 ≤ 4 then
    (f_X5_amount Fu Λ this_3 what_2 h).bind fun v6 =>
    some (.inl ((fx_wl ((fx_wl (31 * h_1)) + v6)), (fx_w (what_2 + 1))))
  else
    some (.inr (h_1, what_2))
def s_X5_digest_2 (Fu : Nat) (Λ : fx_L) (this_20 : Int) (h : fx_H) : Int × Int → Option ((Int × Int) ⊕ (Int × Int)) := fun (h_18, t_19) =>
  if t_19 < (h (fx_tg Λ this_20 0) 0) then
    (fx_rd Λ h (fx_tg Λ (fx_tg Λ this_20 0) 6) t_19).bind fun v23 =>
    some (.inl ((fx_wl ((fx_wl (31 * h_18)) + v23)), (fx_w (t_19 + 1))))
  else
    some (.inr (h_18, t_19))
def s_X5_digest_3 (Fu : Nat) (Λ : fx_L) (this_37 : Int) (h : fx_H) : Int × Int → Option ((Int × Int) ⊕ (Int × Int)) := fun (h_35, hour_36) =>
  if hour_36 < (h (fx_tg Λ this_37 0) 3) then
    (fx_rd Λ h (fx_tg Λ (fx_tg Λ this_37 0) 7) hour_36).bind fun v40 =>
    some (.inl ((fx_wl ((fx_wl (31 * h_35)) + v40)), (fx_w (hour_36 + 1))))
  else
    some (.inr (h_35, hour_36))
def s_X5_digest_4 (Fu : Nat) (Λ : fx_L) (this_54 : Int) (h : fx_H) : Int × Int → Option ((Int × Int) ⊕ (Int × Int)) := fun (h_52, person_53) =>
  if person_53 < (h (fx_tg Λ this_54 0) 2) then
    (f_X5_digestWith Fu Λ this_54 h_52 person_53 h).bind fun v57 =>
    some (.inl (v57, (fx_w (person_53 + 1))))
  else
    some (.inr (h_52, person_53))
def f_X5_digest (Fu : Nat) (Λ : fx_L) (this_0 : Int) (h : fx_H) : Option (Int) :=
  Option.bind (fx_loop (s_X5_digest_1 Fu Λ this_0 h) Fu (751, 0)) fun (h_14, what_15) =>
  Option.bind (fx_loop (s_X5_digest_2 Fu Λ this_0 h) Fu (h_14, 0)) fun (h_31, t_32) =>
  Option.bind (fx_loop (s_X5_digest_3 Fu Λ this_0 h) Fu ((fx_wl ((fx_wl (31 * (fx_wl ((fx_wl (31 * h_31)) + (h (fx_tg Λ this_0 0) 1))))) + (h (fx_tg Λ this_0 0) 4))), 0)) fun (h_48, hour_49) =>
  Option.bind (fx_loop (s_X5_digest_4 Fu Λ this_0 h) Fu (h_48, 0)) fun (h_65, person_66) =>
  some (fx_wl ((fx_wl (31 * (fx_wl ((fx_wl (31 * h_65)) + (h this_0 1000008))))) + (h this_0 1000009)))
abbrev rm_X5_digest : Room := { frames := 2, cells := 0, slots := 0, locals := 46 }
set_option maxRecDepth 100000 in
set_option maxHeartbeats 4000000 in
theorem m_X5_digest (Fu : Nat) (Λ : fx_L) (this_0 : Int) (h : fx_H) (r : Int) (hf : f_X5_digest Fu Λ this_0 h = some r) : fx_Met yX5_digest cX5_digest 4 (some .long) rm_X5_digest Λ [(7, this_0)] h (some (1, r)) h := by
  unfold f_X5_digest at hf
  refine fx_enter (ls := [some (7, this_0), none, none, none]) (by decide) (Nat.le_of_ble_eq_true rfl) rfl (fun M G F K => ?_)
  refine fx_ldc2 (pc := 0) (z := 751) F (by decide) ⟨by decide, by decide⟩ wK_X5_253 dX5_digest_0 ?_
  refine fx_lstore_n (pc := 3) (ls' := [some (7, this_0), some (1, 751), none, none]) F 1 rfl (by decide) rfl rfl dX5_digest_3 ?_
  refine fx_iconst (pc := 4) F ⟨by decide, by decide⟩ dX5_digest_4 ?_
  refine fx_istore_n (pc := 5) (ls' := [some (7, this_0), some (1, 751), none, some (0, 0)]) F 3 rfl (by decide) rfl rfl dX5_digest_5 ?_
  obtain ⟨⟨h_14, what_15⟩, e16, hf⟩ := fx_bnd hf
  have hE17 : fx_J M G Λ 4 30 [some (7, this_0), some (1, h_14), none, some (0, what_15)] [] h := by
    refine fx_iconst (pc := 30) F ⟨by decide, by decide⟩ dX5_digest_30 ?_
    refine fx_istore_n (pc := 31) (ls' := [some (7, this_0), some (1, h_14), none, some (0, 0)]) F 3 rfl (by decide) rfl rfl dX5_digest_31 ?_
    obtain ⟨⟨h_31, t_32⟩, e33, hf⟩ := fx_bnd hf
    have hE34 : fx_J M G Λ 4 66 [some (7, this_0), some (1, h_31), none, some (0, t_32)] [] h := by
      refine fx_ldc2 (pc := 66) (z := 31) F (by decide) ⟨by decide, by decide⟩ wK_X5_255 dX5_digest_66 ?_
      refine fx_lload_n (pc := 69) F 1 rfl rfl dX5_digest_69 ?_
      refine fx_lmul (pc := 70) F dX5_digest_70 ?_
      refine fx_aload_n (pc := 71) (t := 5) F 0 rfl rfl dX5_digest_71 ?_
      refine fx_gR (pc := 72) F 5 0 0 4 rfl kC_X5 (by decide) rfl wF_X5_10 dX5_digest_72 ?_
      refine fx_gI (pc := 75) F 4 1 1 rfl kC_X4 rfl wF_X5_147 dX5_digest_75 ?_
      refine fx_ri2l (pc := 78) F dX5_digest_78 ?_
      refine fx_ladd (pc := 79) F dX5_digest_79 ?_
      refine fx_lstore_n (pc := 80) (ls' := [some (7, this_0), some (1, (fx_wl ((fx_wl (31 * h_31)) + (h (fx_tg Λ this_0 0) 1)))), none, some (0, t_32)]) F 1 rfl (by decide) rfl rfl dX5_digest_80 ?_
      refine fx_ldc2 (pc := 81) (z := 31) F (by decide) ⟨by decide, by decide⟩ wK_X5_255 dX5_digest_81 ?_
      refine fx_lload_n (pc := 84) F 1 rfl rfl dX5_digest_84 ?_
      refine fx_lmul (pc := 85) F dX5_digest_85 ?_
      refine fx_aload_n (pc := 86) (t := 5) F 0 rfl rfl dX5_digest_86 ?_
      refine fx_gR (pc := 87) F 5 0 0 4 rfl kC_X5 (by decide) rfl wF_X5_10 dX5_digest_87 ?_
      refine fx_gI (pc := 90) F 4 4 4 rfl kC_X4 rfl wF_X5_260 dX5_digest_90 ?_
      refine fx_ri2l (pc := 93) F dX5_digest_93 ?_
      refine fx_ladd (pc := 94) F dX5_digest_94 ?_
      refine fx_lstore_n (pc := 95) (ls' := [some (7, this_0), some (1, (fx_wl ((fx_wl (31 * (fx_wl ((fx_wl (31 * h_31)) + (h (fx_tg Λ this_0 0) 1))))) + (h (fx_tg Λ this_0 0) 4)))), none, some (0, t_32)]) F 1 rfl (by decide) rfl rfl dX5_digest_95 ?_
      refine fx_iconst (pc := 96) F ⟨by decide, by decide⟩ dX5_digest_96 ?_
      refine fx_istore_n (pc := 97) (ls' := [some (7, this_0), some (1, (fx_wl ((fx_wl (31 * (fx_wl ((fx_wl (31 * h_31)) + (h (fx_tg Λ this_0 0) 1))))) + (h (fx_tg Λ this_0 0) 4)))), none, some (0, 0)]) F 3 rfl (by decide) rfl rfl dX5_digest_97 ?_
      obtain ⟨⟨h_48, hour_49⟩, e50, hf⟩ := fx_bnd hf
      have hE51 : fx_J M G Λ 4 132 [some (7, this_0), some (1, h_48), none, some (0, hour_49)] [] h := by
        refine fx_iconst (pc := 132) F ⟨by decide, by decide⟩ dX5_digest_132 ?_
        refine fx_istore_n (pc := 133) (ls' := [some (7, this_0), some (1, h_48), none, some (0, 0)]) F 3 rfl (by decide) rfl rfl dX5_digest_133 ?_
        obtain ⟨⟨h_65, person_66⟩, e67, hf⟩ := fx_bnd hf
        have hE68 : fx_J M G Λ 4 158 [some (7, this_0), some (1, h_65), none, some (0, person_66)] [] h := by
          refine fx_ldc2 (pc := 158) (z := 31) F (by decide) ⟨by decide, by decide⟩ wK_X5_255 dX5_digest_158 ?_
          refine fx_lload_n (pc := 161) F 1 rfl rfl dX5_digest_161 ?_
          refine fx_lmul (pc := 162) F dX5_digest_162 ?_
          refine fx_aload_n (pc := 163) (t := 5) F 0 rfl rfl dX5_digest_163 ?_
          refine fx_gL (pc := 164) F 5 8 1000008 rfl kC_X5 rfl wF_X5_238 dX5_digest_164 ?_
          refine fx_ladd (pc := 167) F dX5_digest_167 ?_
          refine fx_lstore_n (pc := 168) (ls' := [some (7, this_0), some (1, (fx_wl ((fx_wl (31 * h_65)) + (h this_0 1000008)))), none, some (0, person_66)]) F 1 rfl (by decide) rfl rfl dX5_digest_168 ?_
          refine fx_ldc2 (pc := 169) (z := 31) F (by decide) ⟨by decide, by decide⟩ wK_X5_255 dX5_digest_169 ?_
          refine fx_lload_n (pc := 172) F 1 rfl rfl dX5_digest_172 ?_
          refine fx_lmul (pc := 173) F dX5_digest_173 ?_
          refine fx_aload_n (pc := 174) (t := 5) F 0 rfl rfl dX5_digest_174 ?_
          refine fx_gL (pc := 175) F 5 9 1000009 rfl kC_X5 rfl wF_X5_55 dX5_digest_175 ?_
          refine fx_ladd (pc := 178) F dX5_digest_178 ?_
          cases hf
          exact fx_lreturn (pc := 179) F K dX5_digest_179
        refine fx_loop_J (Hd := (fun z : Int × Int => fx_J M G Λ 4 134 [some (7, this_0), some (1, z.1), none, some (0, z.2)] [] h)) (Ex := (fun z : Int × Int => fx_J M G Λ 4 158 [some (7, this_0), some (1, z.1), none, some (0, z.2)] [] h)) ?_ Fu _ _ e67 hE68
        rintro ⟨h_59, person_60⟩ o9 eq61 ih ex
        unfold s_X5_digest_4 at eq61
        show fx_J M G Λ 4 134 [some (7, this_0), some (1, h_59), none, some (0, person_60)] [] h
        refine fx_iload_n (pc := 134) F 3 rfl rfl dX5_digest_134 ?_
        refine fx_aload_n (pc := 135) (t := 5) F 0 rfl rfl dX5_digest_135 ?_
        refine fx_gR (pc := 136) F 5 0 0 4 rfl kC_X5 (by decide) rfl wF_X5_10 dX5_digest_136 ?_
        refine fx_gI (pc := 139) F 4 2 2 rfl kC_X4 rfl wF_X5_202 dX5_digest_139 ?_
        refine fx_nlt (pc := 142) F 158 (by decide) dX5_digest_142 (fun c62 => ?_) (fun c62 => ?_)
        · have eq61 := (if_pos c62).symm.trans eq61
          refine fx_aload_n (pc := 145) (t := 5) F 0 rfl rfl dX5_digest_145 ?_
          refine fx_lload_n (pc := 146) F 1 rfl rfl dX5_digest_146 ?_
          refine fx_iload_n (pc := 147) F 3 rfl rfl dX5_digest_147 ?_
          obtain ⟨v63, e64, eq61⟩ := fx_bnd eq61
          refine fx_cV (pc := 148) F 5 kC_X5 [(1, h_59), (0, person_60)] this_0 [] (m_X5_digestWith Fu Λ this_0 h_59 person_60 h _ e64) kD_X5_digestWith kI_X5_digestWith rfl wM_X5_266 ⟨rfl, rfl⟩ ⟨by decide, by decide⟩ (Nat.le_of_ble_eq_true rfl) rfl dX5_digest_148 ?_
          refine fx_lstore_n (pc := 151) (ls' := [some (7, this_0), some (1, v63), none, some (0, person_60)]) F 1 rfl (by decide) rfl rfl dX5_digest_151 ?_
          refine fx_iinc (pc := 152) (ls' := [some (7, this_0), some (1, v63), none, some (0, (fx_w (person_60 + 1)))]) F (by decide) rfl rfl rfl dX5_digest_152 ?_
          refine fx_goto (pc := 155) F 134 (by decide) dX5_digest_155 ?_
          cases eq61
          exact ih _ rfl
        · have eq61 := (if_neg c62).symm.trans eq61
          cases eq61
          exact ex _ rfl
      refine fx_loop_J (Hd := (fun z : Int × Int => fx_J M G Λ 4 98 [some (7, this_0), some (1, z.1), none, some (0, z.2)] [] h)) (Ex := (fun z : Int × Int => fx_J M G Λ 4 132 [some (7, this_0), some (1, z.1), none, some (0, z.2)] [] h)) ?_ Fu _ _ e50 hE51
      rintro ⟨h_42, hour_43⟩ o9 eq44 ih ex
      unfold s_X5_digest_3 at eq44
      show fx_J M G Λ 4 98 [some (7, this_0), some (1, h_42), none, some (0, hour_43)] [] h
      refine fx_iload_n (pc := 98) F 3 rfl rfl dX5_digest_98 ?_
      refine fx_aload_n (pc := 99) (t := 5) F 0 rfl rfl dX5_digest_99 ?_
      refine fx_gR (pc := 100) F 5 0 0 4 rfl kC_X5 (by decide) rfl wF_X5_10 dX5_digest_100 ?_
      refine fx_gI (pc := 103) F 4 3 3 rfl kC_X4 rfl wF_X5_191 dX5_digest_103 ?_
      refine fx_nlt (pc := 106) F 132 (by decide) dX5_digest_106 (fun c45 => ?_) (fun c45 => ?_)
      · have eq44 := (if_pos c45).symm.trans eq44
        refine fx_ldc2 (pc := 109) (z := 31) F (by decide) ⟨by decide, by decide⟩ wK_X5_255 dX5_digest_109 ?_
        refine fx_lload_n (pc := 112) F 1 rfl rfl dX5_digest_112 ?_
        refine fx_lmul (pc := 113) F dX5_digest_113 ?_
        refine fx_aload_n (pc := 114) (t := 5) F 0 rfl rfl dX5_digest_114 ?_
        refine fx_gR (pc := 115) F 5 0 0 4 rfl kC_X5 (by decide) rfl wF_X5_10 dX5_digest_115 ?_
        refine fx_gR (pc := 118) F 4 7 7 8 rfl kC_X4 (by decide) rfl wF_X5_263 dX5_digest_118 ?_
        refine fx_iload_n (pc := 121) F 3 rfl rfl dX5_digest_121 ?_
        obtain ⟨v46, e47, eq44⟩ := fx_bnd eq44
        refine fx_raldI (pc := 122) F e47 dX5_digest_122 ?_
        refine fx_ri2l (pc := 123) F dX5_digest_123 ?_
        refine fx_ladd (pc := 124) F dX5_digest_124 ?_
        refine fx_lstore_n (pc := 125) (ls' := [some (7, this_0), some (1, (fx_wl ((fx_wl (31 * h_42)) + v46))), none, some (0, hour_43)]) F 1 rfl (by decide) rfl rfl dX5_digest_125 ?_
        refine fx_iinc (pc := 126) (ls' := [some (7, this_0), some (1, (fx_wl ((fx_wl (31 * h_42)) + v46))), none, some (0, (fx_w (hour_43 + 1)))]) F (by decide) rfl rfl rfl dX5_digest_126 ?_
        refine fx_goto (pc := 129) F 98 (by decide) dX5_digest_129 ?_
        cases eq44
        exact ih _ rfl
      · have eq44 := (if_neg c45).symm.trans eq44
        cases eq44
        exact ex _ rfl
    refine fx_loop_J (Hd := (fun z : Int × Int => fx_J M G Λ 4 32 [some (7, this_0), some (1, z.1), none, some (0, z.2)] [] h)) (Ex := (fun z : Int × Int => fx_J M G Λ 4 66 [some (7, this_0), some (1, z.1), none, some (0, z.2)] [] h)) ?_ Fu _ _ e33 hE34
    rintro ⟨h_25, t_26⟩ o9 eq27 ih ex
    unfold s_X5_digest_2 at eq27
    show fx_J M G Λ 4 32 [some (7, this_0), some (1, h_25), none, some (0, t_26)] [] h
    refine fx_iload_n (pc := 32) F 3 rfl rfl dX5_digest_32 ?_
    refine fx_aload_n (pc := 33) (t := 5) F 0 rfl rfl dX5_digest_33 ?_
    refine fx_gR (pc := 34) F 5 0 0 4 rfl kC_X5 (by decide) rfl wF_X5_10 dX5_digest_34 ?_
    refine fx_gI (pc := 37) F 4 0 0 rfl kC_X4 rfl wF_X5_67 dX5_digest_37 ?_
    refine fx_nlt (pc := 40) F 66 (by decide) dX5_digest_40 (fun c28 => ?_) (fun c28 => ?_)
    · have eq27 := (if_pos c28).symm.trans eq27
      refine fx_ldc2 (pc := 43) (z := 31) F (by decide) ⟨by decide, by decide⟩ wK_X5_255 dX5_digest_43 ?_
      refine fx_lload_n (pc := 46) F 1 rfl rfl dX5_digest_46 ?_
      refine fx_lmul (pc := 47) F dX5_digest_47 ?_
      refine fx_aload_n (pc := 48) (t := 5) F 0 rfl rfl dX5_digest_48 ?_
      refine fx_gR (pc := 49) F 5 0 0 4 rfl kC_X5 (by decide) rfl wF_X5_10 dX5_digest_49 ?_
      refine fx_gR (pc := 52) F 4 6 6 8 rfl kC_X4 (by decide) rfl wF_X5_257 dX5_digest_52 ?_
      refine fx_iload_n (pc := 55) F 3 rfl rfl dX5_digest_55 ?_
      obtain ⟨v29, e30, eq27⟩ := fx_bnd eq27
      refine fx_raldI (pc := 56) F e30 dX5_digest_56 ?_
      refine fx_ri2l (pc := 57) F dX5_digest_57 ?_
      refine fx_ladd (pc := 58) F dX5_digest_58 ?_
      refine fx_lstore_n (pc := 59) (ls' := [some (7, this_0), some (1, (fx_wl ((fx_wl (31 * h_25)) + v29))), none, some (0, t_26)]) F 1 rfl (by decide) rfl rfl dX5_digest_59 ?_
      refine fx_iinc (pc := 60) (ls' := [some (7, this_0), some (1, (fx_wl ((fx_wl (31 * h_25)) + v29))), none, some (0, (fx_w (t_26 + 1)))]) F (by decide) rfl rfl rfl dX5_digest_60 ?_
      refine fx_goto (pc := 63) F 32 (by decide) dX5_digest_63 ?_
      cases eq27
      exact ih _ rfl
    · have eq27 := (if_neg c28).symm.trans eq27
      cases eq27
      exact ex _ rfl
  refine fx_loop_J (Hd := (fun z : Int × Int => fx_J M G Λ 4 6 [some (7, this_0), some (1, z.1), none, some (0, z.2)] [] h)) (Ex := (fun z : Int × Int => fx_J M G Λ 4 30 [some (7, this_0), some (1, z.1), none, some (0, z.2)] [] h)) ?_ Fu _ _ e16 hE17
  rintro ⟨h_8, what_9⟩ o9 eq10 ih ex
  unfold s_X5_digest_1 at eq10
  show fx_J M G Λ 4 6 [some (7, this_0), some (1, h_8), none, some (0, what_9)] [] h
  refine fx_iload_n (pc := 6) F 3 rfl rfl dX5_digest_6 ?_
  refine fx_iconst (pc := 7) F ⟨by decide, by decide⟩ dX5_digest_7 ?_
  refine fx_nle (pc := 8) F 30 (by decide) dX5_digest_8 (fun c11 => ?_) (fun c11 => ?_)
  · have eq10 := (if_pos c11).symm.trans eq10
    refine fx_ldc2 (pc := 11) (z := 31) F (by decide) ⟨by decide, by decide⟩ wK_X5_255 dX5_digest_11 ?_
    refine fx_lload_n (pc := 14) F 1 rfl rfl dX5_digest_14 ?_
    refine fx_lmul (pc := 15) F dX5_digest_15 ?_
    refine fx_aload_n (pc := 16) (t := 5) F 0 rfl rfl dX5_digest_16 ?_
    refine fx_iload_n (pc := 17) F 3 rfl rfl dX5_digest_17 ?_
    obtain ⟨v12, e13, eq10⟩ := fx_bnd eq10
    refine fx_cV (pc := 18) F 5 kC_X5 [(0, what_9)] this_0 [(1, (fx_wl (31 * h_8)))] (m_X5_amount Fu Λ this_0 what_9 h _ e13) kD_X5_amount kI_X5_amount rfl wM_X5_250 ⟨rfl, rfl⟩ ⟨by decide, by decide⟩ (Nat.le_of_ble_eq_true rfl) rfl dX5_digest_18 ?_
    refine fx_ri2l (pc := 21) F dX5_digest_21 ?_
    refine fx_ladd (pc := 22) F dX5_digest_22 ?_
    refine fx_lstore_n (pc := 23) (ls' := [some (7, this_0), some (1, (fx_wl ((fx_wl (31 * h_8)) + v12))), none, some (0, what_9)]) F 1 rfl (by decide) rfl rfl dX5_digest_23 ?_
    refine fx_iinc (pc := 24) (ls' := [some (7, this_0), some (1, (fx_wl ((fx_wl (31 * h_8)) + v12))), none, some (0, (fx_w (what_9 + 1)))]) F (by decide) rfl rfl rfl dX5_digest_24 ?_
    refine fx_goto (pc := 27) F 6 (by decide) dX5_digest_27 ?_
    cases eq10
    exact ih _ rfl
  · have eq10 := (if_neg c11).symm.trans eq10
    cases eq10
    exact ex _ rfl
def f_X6_in (Fu : Nat) (Λ : fx_L) (v_0 : Int) (low_0 : Int) (high_0 : Int) (h : fx_H) : Option (Int) :=
  Option.bind (
    if ((low_0 ≤ v_0) ∧ (v_0 ≤ high_0)) then
      some (1 : Int)
    else
      some (0 : Int)
  ) fun v1 =>
  (fx_zb v1).bind fun z9 =>
  some z9
abbrev rm_X6_in : Room := { frames := 0, cells := 0, slots := 0, locals := 0 }
set_option maxRecDepth 100000 in
set_option maxHeartbeats 4000000 in
theorem m_X6_in (Fu : Nat) (Λ : fx_L) (v_0 : Int) (low_0 : Int) (high_0 : Int) (h : fx_H) (r : Int) (hf : f_X6_in Fu Λ v_0 low_0 high_0 h = some r) : fx_Met yX6_in cX6_in 6 (some .boolean) rm_X6_in Λ [(1, v_0), (1, low_0), (1, high_0)] h (some (0, r)) h := by
  unfold f_X6_in at hf
  refine fx_enter (ls := [some (1, v_0), none, some (1, low_0), none, some (1, high_0), none]) (by decide) (Nat.le_of_ble_eq_true rfl) rfl (fun M G F K => ?_)
  obtain ⟨v1, e2, hf⟩ := fx_bnd hf
  have hJ3 : fx_J M G Λ 6 18 [some (1, v_0), none, some (1, low_0), none, some (1, high_0), none] [(0, v1)] h := by
    obtain ⟨z9, e10, hf⟩ := fx_bnd hf
    obtain ⟨e10, hzz9⟩ := fx_zb_use e10
    refine fx_top (X := fx_X) e10 ?_
    cases hf
    exact fx_zreturn (pc := 18) F hzz9 K dX6_in_18
  refine fx_lload_n (pc := 0) F 0 rfl rfl dX6_in_0 ?_
  refine fx_lload_n (pc := 1) F 2 rfl rfl dX6_in_1 ?_
  have hT4 : (((low_0 ≤ v_0) ∧ (v_0 ≤ high_0))) → fx_J M G Λ 6 13 [some (1, v_0), none, some (1, low_0), none, some (1, high_0), none] [] h := fun c8 => by
    have e2 := (if_pos c8).symm.trans e2
    refine fx_iconst (pc := 13) F ⟨by decide, by decide⟩ dX6_in_13 ?_
    cases e2
    refine fx_goto (pc := 14) F 18 (by decide) dX6_in_14 ?_
    exact hJ3
  have hF5 : ¬ (((low_0 ≤ v_0) ∧ (v_0 ≤ high_0))) → fx_J M G Λ 6 17 [some (1, v_0), none, some (1, low_0), none, some (1, high_0), none] [] h := fun c8 => by
    have e2 := (if_neg c8).symm.trans e2
    refine fx_iconst (pc := 17) F ⟨by decide, by decide⟩ dX6_in_17 ?_
    cases e2
    exact hJ3
  refine fx_nlge (pc := 2) F 17 (by decide) dX6_in_2 dX6_in_3 (fun c6 => ?_) (fun c6 => ?_)
  · refine fx_lload_n (pc := 6) F 0 rfl rfl dX6_in_6 ?_
    refine fx_lload (pc := 7) F rfl dX6_in_7 ?_
    refine fx_nlle (pc := 9) F 17 (by decide) dX6_in_9 dX6_in_10 (fun c7 => ?_) (fun c7 => ?_)
    · exact hT4 ⟨c6, c7⟩
    · exact hF5 (fun q => c7 q.2)
  · exact hF5 (fun q => c6 q.1)
def f_X6_bad (Fu : Nat) (Λ : fx_L) (this_0 : Int) (tells_0 : Int) (h : fx_H) : Option (Int × fx_H) :=
  (fx_rd Λ h (fx_tg Λ this_0 3) 0).bind fun v1 =>
  (fx_wr Λ h (fx_tg Λ this_0 3) 0 (fx_w (v1 + 1))).bind fun h3 =>
  some (tells_0, h3)
abbrev rm_X6_bad : Room := { frames := 0, cells := 0, slots := 0, locals := 0 }
set_option maxRecDepth 100000 in
set_option maxHeartbeats 4000000 in
theorem m_X6_bad (Fu : Nat) (Λ : fx_L) (this_0 : Int) (tells_0 : Int) (h : fx_H) (r : Int) (ho : fx_H) (hf : f_X6_bad Fu Λ this_0 tells_0 h = some (r, ho)) : fx_Met yX6_bad cX6_bad 2 (some .int) rm_X6_bad Λ [(8, this_0), (0, tells_0)] h (some (0, r)) ho := by
  unfold f_X6_bad at hf
  refine fx_enter (ls := [some (8, this_0), some (0, tells_0)]) (by decide) (Nat.le_of_ble_eq_true rfl) rfl (fun M G F K => ?_)
  refine fx_aload_n (pc := 0) (t := 6) F 0 rfl rfl dX6_bad_0 ?_
  refine fx_gR (pc := 1) F 6 3 3 8 rfl kC_X6 (by decide) rfl wF_X6_20 dX6_bad_1 ?_
  refine fx_iconst (pc := 4) F ⟨by decide, by decide⟩ dX6_bad_4 ?_
  refine fx_dup2 (pc := 5) F (show (0 : Nat) ≠ 1 by decide) (show (10 : Nat) ≠ 1 by decide) dX6_bad_5 ?_
  obtain ⟨v1, e2, hf⟩ := fx_bnd hf
  refine fx_raldI (pc := 6) F e2 dX6_bad_6 ?_
  refine fx_iconst (pc := 7) F ⟨by decide, by decide⟩ dX6_bad_7 ?_
  refine fx_iadd (pc := 8) F dX6_bad_8 ?_
  obtain ⟨h3, e4, hf⟩ := fx_bnd hf
  refine fx_rastI (pc := 9) F e4 dX6_bad_9 ?_
  refine fx_iload_n (pc := 10) F 1 rfl rfl dX6_bad_10 ?_
  cases hf
  exact fx_ireturn (pc := 11) F K dX6_bad_11
def f_X6_no (Fu : Nat) (Λ : fx_L) (this_0 : Int) (h : fx_H) : Option (Int × fx_H) :=
  (fx_rd Λ h (fx_tg Λ this_0 3) 1).bind fun v1 =>
  (fx_wr Λ h (fx_tg Λ this_0 3) 1 (fx_w (v1 + 1))).bind fun h3 =>
  some ((-3), h3)
abbrev rm_X6_no : Room := { frames := 0, cells := 0, slots := 0, locals := 0 }
set_option maxRecDepth 100000 in
set_option maxHeartbeats 4000000 in
theorem m_X6_no (Fu : Nat) (Λ : fx_L) (this_0 : Int) (h : fx_H) (r : Int) (ho : fx_H) (hf : f_X6_no Fu Λ this_0 h = some (r, ho)) : fx_Met yX6_no cX6_no 1 (some .int) rm_X6_no Λ [(8, this_0)] h (some (0, r)) ho := by
  unfold f_X6_no at hf
  refine fx_enter (ls := [some (8, this_0)]) (by decide) (Nat.le_of_ble_eq_true rfl) rfl (fun M G F K => ?_)
  refine fx_aload_n (pc := 0) (t := 6) F 0 rfl rfl dX6_no_0 ?_
  refine fx_gR (pc := 1) F 6 3 3 8 rfl kC_X6 (by decide) rfl wF_X6_20 dX6_no_1 ?_
  refine fx_iconst (pc := 4) F ⟨by decide, by decide⟩ dX6_no_4 ?_
  refine fx_dup2 (pc := 5) F (show (0 : Nat) ≠ 1 by decide) (show (10 : Nat) ≠ 1 by decide) dX6_no_5 ?_
  obtain ⟨v1, e2, hf⟩ := fx_bnd hf
  refine fx_raldI (pc := 6) F e2 dX6_no_6 ?_
  refine fx_iconst (pc := 7) F ⟨by decide, by decide⟩ dX6_no_7 ?_
  refine fx_iadd (pc := 8) F dX6_no_8 ?_
  obtain ⟨h3, e4, hf⟩ := fx_bnd hf
  refine fx_rastI (pc := 9) F e4 dX6_no_9 ?_
  refine fx_bipush (pc := 10) F ⟨by decide, by decide⟩ (by decide) dX6_no_10 ?_
  cases hf
  exact fx_ireturn (pc := 12) F K dX6_no_12
def f_X6_full (Fu : Nat) (Λ : fx_L) (this_0 : Int) (h : fx_H) : Option (Int × fx_H) :=
  (fx_rd Λ h (fx_tg Λ this_0 3) 2).bind fun v1 =>
  (fx_wr Λ h (fx_tg Λ this_0 3) 2 (fx_w (v1 + 1))).bind fun h3 =>
  some ((-4), h3)
abbrev rm_X6_full : Room := { frames := 0, cells := 0, slots := 0, locals := 0 }
set_option maxRecDepth 100000 in
set_option maxHeartbeats 4000000 in
theorem m_X6_full (Fu : Nat) (Λ : fx_L) (this_0 : Int) (h : fx_H) (r : Int) (ho : fx_H) (hf : f_X6_full Fu Λ this_0 h = some (r, ho)) : fx_Met yX6_full cX6_full 1 (some .int) rm_X6_full Λ [(8, this_0)] h (some (0, r)) ho := by
  unfold f_X6_full at hf
  refine fx_enter (ls := [some (8, this_0)]) (by decide) (Nat.le_of_ble_eq_true rfl) rfl (fun M G F K => ?_)
  refine fx_aload_n (pc := 0) (t := 6) F 0 rfl rfl dX6_full_0 ?_
  refine fx_gR (pc := 1) F 6 3 3 8 rfl kC_X6 (by decide) rfl wF_X6_20 dX6_full_1 ?_
  refine fx_iconst (pc := 4) F ⟨by decide, by decide⟩ dX6_full_4 ?_
  refine fx_dup2 (pc := 5) F (show (0 : Nat) ≠ 1 by decide) (show (10 : Nat) ≠ 1 by decide) dX6_full_5 ?_
  obtain ⟨v1, e2, hf⟩ := fx_bnd hf
  refine fx_raldI (pc := 6) F e2 dX6_full_6 ?_
  refine fx_iconst (pc := 7) F ⟨by decide, by decide⟩ dX6_full_7 ?_
  refine fx_iadd (pc := 8) F dX6_full_8 ?_
  obtain ⟨h3, e4, hf⟩ := fx_bnd hf
  refine fx_rastI (pc := 9) F e4 dX6_full_9 ?_
  refine fx_bipush (pc := 10) F ⟨by decide, by decide⟩ (by decide) dX6_full_10 ?_
  cases hf
  exact fx_ireturn (pc := 12) F K dX6_full_12
def s_X6_begin_1 (Fu : Nat) (Λ : fx_L) (to_9 : Int) : Int × fx_H → Option ((Int × fx_H) ⊕ (Int × fx_H)) := fun (k_7, h8) =>
  if k_7 < 5 then
    (fx_wr Λ h8 to_9 (fx_w (14 + k_7)) 0).bind fun h12 =>
    (fx_wr Λ h12 to_9 (fx_w (89 + k_7)) 0).bind fun h14 =>
    some (.inl ((fx_w (k_7 + 1)), h14))
  else
    some (.inr (k_7, h8))
def s_X6_begin_2 (Fu : Nat) (Λ : fx_L) (to_30 : Int) : Int × fx_H → Option ((Int × fx_H) ⊕ (Int × fx_H)) := fun (k_28, h29) =>
  if k_28 < 25 then
    (fx_wr Λ h29 to_30 (fx_w (19 + k_28)) (-1)).bind fun h33 =>
    some (.inl ((fx_w (k_28 + 1)), h33))
  else
    some (.inr (k_28, h29))
def s_X6_begin_3 (Fu : Nat) (Λ : fx_L) (to_47 : Int) : Int × fx_H → Option ((Int × fx_H) ⊕ (Int × fx_H)) := fun (k_45, h46) =>
  if k_45 < 45 then
    (fx_wr Λ h46 to_47 (fx_w (44 + k_45)) 0).bind fun h50 =>
    some (.inl ((fx_w (k_45 + 1)), h50))
  else
    some (.inr (k_45, h46))
def f_X6_begin (Fu : Nat) (Λ : fx_L) (to_0 : Int) (n_0 : Int) (h_0 : Int) (h : fx_H) : Option (fx_H) :=
  (fx_wr Λ h to_0 10 n_0).bind fun h1 =>
  (fx_wr Λ h1 to_0 11 h_0).bind fun h3 =>
  (fx_wr Λ h3 to_0 13 0).bind fun h5 =>
  Option.bind (fx_loop (s_X6_begin_1 Fu Λ to_0) Fu (0, h5)) fun (k_24, h25) =>
  Option.bind (fx_loop (s_X6_begin_2 Fu Λ to_0) Fu (0, h25)) fun (k_41, h42) =>
  Option.bind (fx_loop (s_X6_begin_3 Fu Λ to_0) Fu (0, h42)) fun (k_58, h59) =>
  (fx_wr Λ h59 to_0 94 0).bind fun h62 =>
  some h62
abbrev rm_X6_begin : Room := { frames := 0, cells := 0, slots := 0, locals := 0 }
set_option maxRecDepth 100000 in
set_option maxHeartbeats 4000000 in
theorem m_X6_begin (Fu : Nat) (Λ : fx_L) (to_0 : Int) (n_0 : Int) (h_0 : Int) (h : fx_H) (ho : fx_H) (hf : f_X6_begin Fu Λ to_0 n_0 h_0 h = some ho) : fx_Met yX6_begin cX6_begin 4 none rm_X6_begin Λ [(10, to_0), (0, n_0), (0, h_0)] h none ho := by
  unfold f_X6_begin at hf
  refine fx_enter (ls := [some (10, to_0), some (0, n_0), some (0, h_0), none]) (by decide) (Nat.le_of_ble_eq_true rfl) rfl (fun M G F K => ?_)
  refine fx_aload_n (pc := 0) (t := 8) F 0 rfl rfl dX6_begin_0 ?_
  refine fx_bipush (pc := 1) F ⟨by decide, by decide⟩ (by decide) dX6_begin_1 ?_
  refine fx_iload_n (pc := 3) F 1 rfl rfl dX6_begin_3 ?_
  obtain ⟨h1, e2, hf⟩ := fx_bnd hf
  refine fx_rastI (pc := 4) F e2 dX6_begin_4 ?_
  refine fx_aload_n (pc := 5) (t := 8) F 0 rfl rfl dX6_begin_5 ?_
  refine fx_bipush (pc := 6) F ⟨by decide, by decide⟩ (by decide) dX6_begin_6 ?_
  refine fx_iload_n (pc := 8) F 2 rfl rfl dX6_begin_8 ?_
  obtain ⟨h3, e4, hf⟩ := fx_bnd hf
  refine fx_rastI (pc := 9) F e4 dX6_begin_9 ?_
  refine fx_aload_n (pc := 10) (t := 8) F 0 rfl rfl dX6_begin_10 ?_
  refine fx_bipush (pc := 11) F ⟨by decide, by decide⟩ (by decide) dX6_begin_11 ?_
  refine fx_iconst (pc := 13) F ⟨by decide, by decide⟩ dX6_begin_13 ?_
  obtain ⟨h5, e6, hf⟩ := fx_bnd hf
  refine fx_rastI (pc := 14) F e6 dX6_begin_14 ?_
  refine fx_iconst (pc := 15) F ⟨by decide, by decide⟩ dX6_begin_15 ?_
  refine fx_istore_n (pc := 16) (ls' := [some (10, to_0), some (0, n_0), some (0, h_0), some (0, 0)]) F 3 rfl (by decide) rfl rfl dX6_begin_16 ?_
  obtain ⟨⟨k_24, h25⟩, e26, hf⟩ := fx_bnd hf
  have hE27 : fx_J M G Λ 4 42 [some (10, to_0), some (0, n_0), some (0, h_0), some (0, k_24)] [] h25 := by
    refine fx_iconst (pc := 42) F ⟨by decide, by decide⟩ dX6_begin_42 ?_
    refine fx_istore_n (pc := 43) (ls' := [some (10, to_0), some (0, n_0), some (0, h_0), some (0, 0)]) F 3 rfl (by decide) rfl rfl dX6_begin_43 ?_
    obtain ⟨⟨k_41, h42⟩, e43, hf⟩ := fx_bnd hf
    have hE44 : fx_J M G Λ 4 63 [some (10, to_0), some (0, n_0), some (0, h_0), some (0, k_41)] [] h42 := by
      refine fx_iconst (pc := 63) F ⟨by decide, by decide⟩ dX6_begin_63 ?_
      refine fx_istore_n (pc := 64) (ls' := [some (10, to_0), some (0, n_0), some (0, h_0), some (0, 0)]) F 3 rfl (by decide) rfl rfl dX6_begin_64 ?_
      obtain ⟨⟨k_58, h59⟩, e60, hf⟩ := fx_bnd hf
      have hE61 : fx_J M G Λ 4 84 [some (10, to_0), some (0, n_0), some (0, h_0), some (0, k_58)] [] h59 := by
        refine fx_aload_n (pc := 84) (t := 8) F 0 rfl rfl dX6_begin_84 ?_
        refine fx_bipush (pc := 85) F ⟨by decide, by decide⟩ (by decide) dX6_begin_85 ?_
        refine fx_iconst (pc := 87) F ⟨by decide, by decide⟩ dX6_begin_87 ?_
        obtain ⟨h62, e63, hf⟩ := fx_bnd hf
        refine fx_rastI (pc := 88) F e63 dX6_begin_88 ?_
        cases hf
        exact fx_vreturn (pc := 89) F K dX6_begin_89
      refine fx_loop_J (Hd := (fun z : Int × fx_H => fx_J M G Λ 4 65 [some (10, to_0), some (0, n_0), some (0, h_0), some (0, z.1)] [] z.2)) (Ex := (fun z : Int × fx_H => fx_J M G Λ 4 84 [some (10, to_0), some (0, n_0), some (0, h_0), some (0, z.1)] [] z.2)) ?_ Fu _ _ e60 hE61
      rintro ⟨k_52, h53⟩ o9 eq54 ih ex
      unfold s_X6_begin_3 at eq54
      show fx_J M G Λ 4 65 [some (10, to_0), some (0, n_0), some (0, h_0), some (0, k_52)] [] h53
      refine fx_iload_n (pc := 65) F 3 rfl rfl dX6_begin_65 ?_
      refine fx_bipush (pc := 66) F ⟨by decide, by decide⟩ (by decide) dX6_begin_66 ?_
      refine fx_nlt (pc := 68) F 84 (by decide) dX6_begin_68 (fun c55 => ?_) (fun c55 => ?_)
      · have eq54 := (if_pos c55).symm.trans eq54
        refine fx_aload_n (pc := 71) (t := 8) F 0 rfl rfl dX6_begin_71 ?_
        refine fx_bipush (pc := 72) F ⟨by decide, by decide⟩ (by decide) dX6_begin_72 ?_
        refine fx_iload_n (pc := 74) F 3 rfl rfl dX6_begin_74 ?_
        refine fx_iadd (pc := 75) F dX6_begin_75 ?_
        refine fx_iconst (pc := 76) F ⟨by decide, by decide⟩ dX6_begin_76 ?_
        obtain ⟨h56, e57, eq54⟩ := fx_bnd eq54
        refine fx_rastI (pc := 77) F e57 dX6_begin_77 ?_
        refine fx_iinc (pc := 78) (ls' := [some (10, to_0), some (0, n_0), some (0, h_0), some (0, (fx_w (k_52 + 1)))]) F (by decide) rfl rfl rfl dX6_begin_78 ?_
        refine fx_goto (pc := 81) F 65 (by decide) dX6_begin_81 ?_
        cases eq54
        exact ih _ rfl
      · have eq54 := (if_neg c55).symm.trans eq54
        cases eq54
        exact ex _ rfl
    refine fx_loop_J (Hd := (fun z : Int × fx_H => fx_J M G Λ 4 44 [some (10, to_0), some (0, n_0), some (0, h_0), some (0, z.1)] [] z.2)) (Ex := (fun z : Int × fx_H => fx_J M G Λ 4 63 [some (10, to_0), some (0, n_0), some (0, h_0), some (0, z.1)] [] z.2)) ?_ Fu _ _ e43 hE44
    rintro ⟨k_35, h36⟩ o9 eq37 ih ex
    unfold s_X6_begin_2 at eq37
    show fx_J M G Λ 4 44 [some (10, to_0), some (0, n_0), some (0, h_0), some (0, k_35)] [] h36
    refine fx_iload_n (pc := 44) F 3 rfl rfl dX6_begin_44 ?_
    refine fx_bipush (pc := 45) F ⟨by decide, by decide⟩ (by decide) dX6_begin_45 ?_
    refine fx_nlt (pc := 47) F 63 (by decide) dX6_begin_47 (fun c38 => ?_) (fun c38 => ?_)
    · have eq37 := (if_pos c38).symm.trans eq37
      refine fx_aload_n (pc := 50) (t := 8) F 0 rfl rfl dX6_begin_50 ?_
      refine fx_bipush (pc := 51) F ⟨by decide, by decide⟩ (by decide) dX6_begin_51 ?_
      refine fx_iload_n (pc := 53) F 3 rfl rfl dX6_begin_53 ?_
      refine fx_iadd (pc := 54) F dX6_begin_54 ?_
      refine fx_iconst (pc := 55) F ⟨by decide, by decide⟩ dX6_begin_55 ?_
      obtain ⟨h39, e40, eq37⟩ := fx_bnd eq37
      refine fx_rastI (pc := 56) F e40 dX6_begin_56 ?_
      refine fx_iinc (pc := 57) (ls' := [some (10, to_0), some (0, n_0), some (0, h_0), some (0, (fx_w (k_35 + 1)))]) F (by decide) rfl rfl rfl dX6_begin_57 ?_
      refine fx_goto (pc := 60) F 44 (by decide) dX6_begin_60 ?_
      cases eq37
      exact ih _ rfl
    · have eq37 := (if_neg c38).symm.trans eq37
      cases eq37
      exact ex _ rfl
  refine fx_loop_J (Hd := (fun z : Int × fx_H => fx_J M G Λ 4 17 [some (10, to_0), some (0, n_0), some (0, h_0), some (0, z.1)] [] z.2)) (Ex := (fun z : Int × fx_H => fx_J M G Λ 4 42 [some (10, to_0), some (0, n_0), some (0, h_0), some (0, z.1)] [] z.2)) ?_ Fu _ _ e26 hE27
  rintro ⟨k_16, h17⟩ o9 eq18 ih ex
  unfold s_X6_begin_1 at eq18
  show fx_J M G Λ 4 17 [some (10, to_0), some (0, n_0), some (0, h_0), some (0, k_16)] [] h17
  refine fx_iload_n (pc := 17) F 3 rfl rfl dX6_begin_17 ?_
  refine fx_iconst (pc := 18) F ⟨by decide, by decide⟩ dX6_begin_18 ?_
  refine fx_nlt (pc := 19) F 42 (by decide) dX6_begin_19 (fun c19 => ?_) (fun c19 => ?_)
  · have eq18 := (if_pos c19).symm.trans eq18
    refine fx_aload_n (pc := 22) (t := 8) F 0 rfl rfl dX6_begin_22 ?_
    refine fx_bipush (pc := 23) F ⟨by decide, by decide⟩ (by decide) dX6_begin_23 ?_
    refine fx_iload_n (pc := 25) F 3 rfl rfl dX6_begin_25 ?_
    refine fx_iadd (pc := 26) F dX6_begin_26 ?_
    refine fx_iconst (pc := 27) F ⟨by decide, by decide⟩ dX6_begin_27 ?_
    obtain ⟨h20, e21, eq18⟩ := fx_bnd eq18
    refine fx_rastI (pc := 28) F e21 dX6_begin_28 ?_
    refine fx_aload_n (pc := 29) (t := 8) F 0 rfl rfl dX6_begin_29 ?_
    refine fx_bipush (pc := 30) F ⟨by decide, by decide⟩ (by decide) dX6_begin_30 ?_
    refine fx_iload_n (pc := 32) F 3 rfl rfl dX6_begin_32 ?_
    refine fx_iadd (pc := 33) F dX6_begin_33 ?_
    refine fx_iconst (pc := 34) F ⟨by decide, by decide⟩ dX6_begin_34 ?_
    obtain ⟨h22, e23, eq18⟩ := fx_bnd eq18
    refine fx_rastI (pc := 35) F e23 dX6_begin_35 ?_
    refine fx_iinc (pc := 36) (ls' := [some (10, to_0), some (0, n_0), some (0, h_0), some (0, (fx_w (k_16 + 1)))]) F (by decide) rfl rfl rfl dX6_begin_36 ?_
    refine fx_goto (pc := 39) F 17 (by decide) dX6_begin_39 ?_
    cases eq18
    exact ih _ rfl
  · have eq18 := (if_neg c19).symm.trans eq18
    cases eq18
    exact ex _ rfl
def f_X6_things (Fu : Nat) (Λ : fx_L) (this_0 : Int) (h : fx_H) : Option (Int) :=
  (fx_rd Λ h (fx_tg Λ this_0 0) 0).bind fun v1 =>
  some v1
abbrev rm_X6_things : Room := { frames := 0, cells := 0, slots := 0, locals := 0 }
set_option maxRecDepth 100000 in
set_option maxHeartbeats 4000000 in
theorem m_X6_things (Fu : Nat) (Λ : fx_L) (this_0 : Int) (h : fx_H) (r : Int) (hf : f_X6_things Fu Λ this_0 h = some r) : fx_Met yX6_things cX6_things 1 (some .int) rm_X6_things Λ [(8, this_0)] h (some (0, r)) h := by
  unfold f_X6_things at hf
  refine fx_enter (ls := [some (8, this_0)]) (by decide) (Nat.le_of_ble_eq_true rfl) rfl (fun M G F K => ?_)
  refine fx_aload_n (pc := 0) (t := 6) F 0 rfl rfl dX6_things_0 ?_
  refine fx_gR (pc := 1) F 6 0 0 8 rfl kC_X6 (by decide) rfl wF_X6_7 dX6_things_1 ?_
  refine fx_iconst (pc := 4) F ⟨by decide, by decide⟩ dX6_things_4 ?_
  obtain ⟨v1, e2, hf⟩ := fx_bnd hf
  refine fx_raldI (pc := 5) F e2 dX6_things_5 ?_
  cases hf
  exact fx_ireturn (pc := 6) F K dX6_things_6
def f_X6_people (Fu : Nat) (Λ : fx_L) (this_0 : Int) (h : fx_H) : Option (Int) :=
  (fx_rd Λ h (fx_tg Λ this_0 0) 10).bind fun v1 =>
  some v1
abbrev rm_X6_people : Room := { frames := 0, cells := 0, slots := 0, locals := 0 }
set_option maxRecDepth 100000 in
set_option maxHeartbeats 4000000 in
theorem m_X6_people (Fu : Nat) (Λ : fx_L) (this_0 : Int) (h : fx_H) (r : Int) (hf : f_X6_people Fu Λ this_0 h = some r) : fx_Met yX6_people cX6_people 1 (some .int) rm_X6_people Λ [(8, this_0)] h (some (0, r)) h := by
  unfold f_X6_people at hf
  refine fx_enter (ls := [some (8, this_0)]) (by decide) (Nat.le_of_ble_eq_true rfl) rfl (fun M G F K => ?_)
  refine fx_aload_n (pc := 0) (t := 6) F 0 rfl rfl dX6_people_0 ?_
  refine fx_gR (pc := 1) F 6 0 0 8 rfl kC_X6 (by decide) rfl wF_X6_7 dX6_people_1 ?_
  refine fx_bipush (pc := 4) F ⟨by decide, by decide⟩ (by decide) dX6_people_4 ?_
  obtain ⟨v1, e2, hf⟩ := fx_bnd hf
  refine fx_raldI (pc := 6) F e2 dX6_people_6 ?_
  cases hf
  exact fx_ireturn (pc := 7) F K dX6_people_7
def f_X6_hours (Fu : Nat) (Λ : fx_L) (this_0 : Int) (h : fx_H) : Option (Int) :=
  (fx_rd Λ h (fx_tg Λ this_0 0) 11).bind fun v1 =>
  some v1
abbrev rm_X6_hours : Room := { frames := 0, cells := 0, slots := 0, locals := 0 }
set_option maxRecDepth 100000 in
set_option maxHeartbeats 4000000 in
theorem m_X6_hours (Fu : Nat) (Λ : fx_L) (this_0 : Int) (h : fx_H) (r : Int) (hf : f_X6_hours Fu Λ this_0 h = some r) : fx_Met yX6_hours cX6_hours 1 (some .int) rm_X6_hours Λ [(8, this_0)] h (some (0, r)) h := by
  unfold f_X6_hours at hf
  refine fx_enter (ls := [some (8, this_0)]) (by decide) (Nat.le_of_ble_eq_true rfl) rfl (fun M G F K => ?_)
  refine fx_aload_n (pc := 0) (t := 6) F 0 rfl rfl dX6_hours_0 ?_
  refine fx_gR (pc := 1) F 6 0 0 8 rfl kC_X6 (by decide) rfl wF_X6_7 dX6_hours_1 ?_
  refine fx_bipush (pc := 4) F ⟨by decide, by decide⟩ (by decide) dX6_hours_4 ?_
  obtain ⟨v1, e2, hf⟩ := fx_bnd hf
  refine fx_raldI (pc := 6) F e2 dX6_hours_6 ?_
  cases hf
  exact fx_ireturn (pc := 7) F K dX6_hours_7
def f_X6_isThing (Fu : Nat) (Λ : fx_L) (this_0 : Int) (t_0 : Int) (h : fx_H) : Option (Int) :=
  (f_X6_things Fu Λ this_0 h).bind fun v1 =>
  (f_X6_in Fu Λ t_0 0 (fx_w (v1 - 1)) h).bind fun v3 =>
  (fx_zb v3).bind fun z5 =>
  some z5
abbrev rm_X6_isThing : Room := { frames := 1, cells := 0, slots := 0, locals := 25 }
set_option maxRecDepth 100000 in
set_option maxHeartbeats 4000000 in
theorem m_X6_isThing (Fu : Nat) (Λ : fx_L) (this_0 : Int) (t_0 : Int) (h : fx_H) (r : Int) (hf : f_X6_isThing Fu Λ this_0 t_0 h = some r) : fx_Met yX6_isThing cX6_isThing 2 (some .boolean) rm_X6_isThing Λ [(8, this_0), (0, t_0)] h (some (0, r)) h := by
  unfold f_X6_isThing at hf
  refine fx_enter (ls := [some (8, this_0), some (0, t_0)]) (by decide) (Nat.le_of_ble_eq_true rfl) rfl (fun M G F K => ?_)
  refine fx_iload_n (pc := 0) F 1 rfl rfl dX6_isThing_0 ?_
  refine fx_ri2l (pc := 1) F dX6_isThing_1 ?_
  refine fx_lconst (pc := 2) (z := 0) F rfl ⟨by decide, by decide⟩ (by decide) dX6_isThing_2 ?_
  refine fx_aload_n (pc := 3) (t := 6) F 0 rfl rfl dX6_isThing_3 ?_
  obtain ⟨v1, e2, hf⟩ := fx_bnd hf
  refine fx_cV (pc := 4) F 6 kC_X6 [] this_0 [(1, 0), (1, t_0)] (m_X6_things Fu Λ this_0 h _ e2) kD_X6_things kI_X6_things rfl wM_X6_70 ⟨rfl, rfl⟩ ⟨by decide, by decide⟩ (Nat.le_of_ble_eq_true rfl) rfl dX6_isThing_4 ?_
  refine fx_iconst (pc := 7) F ⟨by decide, by decide⟩ dX6_isThing_7 ?_
  refine fx_isub (pc := 8) F dX6_isThing_8 ?_
  refine fx_ri2l (pc := 9) F dX6_isThing_9 ?_
  obtain ⟨v3, e4, hf⟩ := fx_bnd hf
  refine fx_cS (pc := 10) F [(1, t_0), (1, 0), (1, (fx_w (v1 - 1)))] [] (m_X6_in Fu Λ t_0 0 (fx_w (v1 - 1)) h _ e4) kD_X6_in wSt_X6_in wM_X6_74 ⟨rfl, rfl⟩ ⟨by decide, by decide⟩ (Nat.le_of_ble_eq_true rfl) rfl dX6_isThing_10 ?_
  obtain ⟨z5, e6, hf⟩ := fx_bnd hf
  obtain ⟨e6, hzz5⟩ := fx_zb_use e6
  refine fx_top (X := fx_X) e6 ?_
  cases hf
  exact fx_zreturn (pc := 13) F hzz5 K dX6_isThing_13
