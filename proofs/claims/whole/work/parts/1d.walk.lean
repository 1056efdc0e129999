def s_X0_addedToCopies_1 (Fu : Nat) (Λ : fx_L) (this_3 : Int) (now_4 : Int) (next_5 : Int) (person_6 : Int) (thing_7 : Int) (h : fx_H) : Int × Int → Option ((Int × Int) ⊕ (Int × Int)) := fun (more_1, other_2) =>
  if other_2 < (h this_3 4) then
    Option.bind (
      if ¬ other_2 = person_6 then
        (fx_rd Λ h next_5 other_2).bind fun v15 =>
        (fx_rd Λ h (fx_tg Λ this_3 0) v15).bind fun v17 =>
        (fx_rd Λ h (fx_tg Λ this_3 0) thing_7).bind fun v19 =>
        if v17 = v19 then
          (f_X0_wasDone Fu Λ this_3 now_4 other_2 thing_7 h).bind fun v22 =>
          if v22 = 0 then
            some true
          else
            some false
        else
          some false
      else
        some false
    ) fun b10 =>
    if b10 = true then
      some (.inl ((fx_w (more_1 + 2)), (fx_w (other_2 + 1))))
    else
      some (.inl (more_1, (fx_w (other_2 + 1))))
  else
    some (.inr (more_1, other_2))
def f_X0_addedToCopies (Fu : Nat) (Λ : fx_L) (this_0 : Int) (now_0 : Int) (next_0 : Int) (person_0 : Int) (thing_0 : Int) (h : fx_H) : Option (Int) :=
  Option.bind (fx_loop (s_X0_addedToCopies_1 Fu Λ this_0 now_0 next_0 person_0 thing_0 h) Fu (0, 0)) fun (more_46, other_47) =>
  some more_46
abbrev rm_X0_addedToCopies : Room := { frames := 1, cells := 0, slots := 0, locals := 24 }
set_option maxRecDepth 100000 in
set_option maxHeartbeats 4000000 in
theorem m_X0_addedToCopies (Fu : Nat) (Λ : fx_L) (this_0 : Int) (now_0 : Int) (next_0 : Int) (person_0 : Int) (thing_0 : Int) (h : fx_H) (r : Int) (hf : f_X0_addedToCopies Fu Λ this_0 now_0 next_0 person_0 thing_0 h = some r) : fx_Met yX0_addedToCopies cX0_addedToCopies 7 (some .int) rm_X0_addedToCopies Λ [(2, this_0), (10, now_0), (10, next_0), (0, person_0), (0, thing_0)] h (some (0, r)) h := by
  unfold f_X0_addedToCopies at hf
  refine fx_enter (ls := [some (2, this_0), some (10, now_0), some (10, next_0), some (0, person_0), some (0, thing_0), none, none]) (by decide) (Nat.le_of_ble_eq_true rfl) rfl (fun M G F K => ?_)
  refine fx_iconst (pc := 0) F ⟨by decide, by decide⟩ dX0_addedToCopies_0 ?_
  refine fx_istore (pc := 1) (ls' := [some (2, this_0), some (10, now_0), some (10, next_0), some (0, person_0), some (0, thing_0), some (0, 0), none]) F (by decide) rfl rfl dX0_addedToCopies_1 ?_
  refine fx_iconst (pc := 3) F ⟨by decide, by decide⟩ dX0_addedToCopies_3 ?_
  refine fx_istore (pc := 4) (ls' := [some (2, this_0), some (10, now_0), some (10, next_0), some (0, person_0), some (0, thing_0), some (0, 0), some (0, 0)]) F (by decide) rfl rfl dX0_addedToCopies_4 ?_
  obtain ⟨⟨more_46, other_47⟩, e48, hf⟩ := fx_bnd hf
  have hE49 : fx_J M G Λ 7 61 [some (2, this_0), some (10, now_0), some (10, next_0), some (0, person_0), some (0, thing_0), some (0, more_46), some (0, other_47)] [] h := by
    refine fx_iload (pc := 61) F rfl dX0_addedToCopies_61 ?_
    cases hf
    exact fx_ireturn (pc := 63) F K dX0_addedToCopies_63
  refine fx_loop_J (Hd := (fun z : Int × Int => fx_J M G Λ 7 6 [some (2, this_0), some (10, now_0), some (10, next_0), some (0, person_0), some (0, thing_0), some (0, z.1), some (0, z.2)] [] h)) (Ex := (fun z : Int × Int => fx_J M G Λ 7 61 [some (2, this_0), some (10, now_0), some (10, next_0), some (0, person_0), some (0, thing_0), some (0, z.1), some (0, z.2)] [] h)) ?_ Fu _ _ e48 hE49
  rintro ⟨more_26, other_27⟩ o9 eq28 ih ex
  unfold s_X0_addedToCopies_1 at eq28
  show fx_J M G Λ 7 6 [some (2, this_0), some (10, now_0), some (10, next_0), some (0, person_0), some (0, thing_0), some (0, more_26), some (0, other_27)] [] h
  refine fx_iload (pc := 6) F rfl dX0_addedToCopies_6 ?_
  refine fx_aload_n (pc := 8) (t := 0) F 0 rfl rfl dX0_addedToCopies_8 ?_
  refine fx_gI (pc := 9) F 0 4 4 rfl kC_X0 rfl wF_X0_36 dX0_addedToCopies_9 ?_
  refine fx_nlt (pc := 12) F 61 (by decide) dX0_addedToCopies_12 (fun c29 => ?_) (fun c29 => ?_)
  · have eq28 := (if_pos c29).symm.trans eq28
    obtain ⟨b30, e31, eq28⟩ := fx_bnd eq28
    have hT32 : b30 = true → fx_J M G Λ 7 52 [some (2, this_0), some (10, now_0), some (10, next_0), some (0, person_0), some (0, thing_0), some (0, more_26), some (0, other_27)] [] h := fun c45 => by
      have eq28 := (if_pos c45).symm.trans eq28
      refine fx_iinc (pc := 52) (ls' := [some (2, this_0), some (10, now_0), some (10, next_0), some (0, person_0), some (0, thing_0), some (0, (fx_w (more_26 + 2))), some (0, other_27)]) F (by decide) rfl rfl rfl dX0_addedToCopies_52 ?_
      refine fx_iinc (pc := 55) (ls' := [some (2, this_0), some (10, now_0), some (10, next_0), some (0, person_0), some (0, thing_0), some (0, (fx_w (more_26 + 2))), some (0, (fx_w (other_27 + 1)))]) F (by decide) rfl rfl rfl dX0_addedToCopies_55 ?_
      refine fx_goto (pc := 58) F 6 (by decide) dX0_addedToCopies_58 ?_
      cases eq28
      exact ih _ rfl
    have hF33 : ¬ b30 = true → fx_J M G Λ 7 55 [some (2, this_0), some (10, now_0), some (10, next_0), some (0, person_0), some (0, thing_0), some (0, more_26), some (0, other_27)] [] h := fun c45 => by
      have eq28 := (if_neg c45).symm.trans eq28
      refine fx_iinc (pc := 55) (ls' := [some (2, this_0), some (10, now_0), some (10, next_0), some (0, person_0), some (0, thing_0), some (0, more_26), some (0, (fx_w (other_27 + 1)))]) F (by decide) rfl rfl rfl dX0_addedToCopies_55 ?_
      refine fx_goto (pc := 58) F 6 (by decide) dX0_addedToCopies_58 ?_
      cases eq28
      exact ih _ rfl
    refine fx_iload (pc := 15) F rfl dX0_addedToCopies_15 ?_
    refine fx_iload_n (pc := 17) F 3 rfl rfl dX0_addedToCopies_17 ?_
    refine fx_nne (pc := 18) F 55 (by decide) dX0_addedToCopies_18 (fun c34 => ?_) (fun c34 => ?_)
    · have e31 := (if_pos c34).symm.trans e31
      refine fx_aload_n (pc := 21) (t := 0) F 0 rfl rfl dX0_addedToCopies_21 ?_
      refine fx_gR (pc := 22) F 0 0 0 8 rfl kC_X0 (by decide) rfl wF_X0_9 dX0_addedToCopies_22 ?_
      refine fx_aload_n (pc := 25) (t := 8) F 2 rfl rfl dX0_addedToCopies_25 ?_
      refine fx_iload (pc := 26) F rfl dX0_addedToCopies_26 ?_
      obtain ⟨v35, e36, e31⟩ := fx_bnd e31
      refine fx_raldI (pc := 28) F e36 dX0_addedToCopies_28 ?_
      obtain ⟨v37, e38, e31⟩ := fx_bnd e31
      refine fx_raldI (pc := 29) F e38 dX0_addedToCopies_29 ?_
      refine fx_aload_n (pc := 30) (t := 0) F 0 rfl rfl dX0_addedToCopies_30 ?_
      refine fx_gR (pc := 31) F 0 0 0 8 rfl kC_X0 (by decide) rfl wF_X0_9 dX0_addedToCopies_31 ?_
      refine fx_iload (pc := 34) F rfl dX0_addedToCopies_34 ?_
      obtain ⟨v39, e40, e31⟩ := fx_bnd e31
      refine fx_raldI (pc := 36) F e40 dX0_addedToCopies_36 ?_
      refine fx_neq (pc := 37) F 55 (by decide) dX0_addedToCopies_37 (fun c41 => ?_) (fun c41 => ?_)
      · have e31 := (if_pos c41).symm.trans e31
        refine fx_aload_n (pc := 40) (t := 0) F 0 rfl rfl dX0_addedToCopies_40 ?_
        refine fx_aload_n (pc := 41) (t := 8) F 1 rfl rfl dX0_addedToCopies_41 ?_
        refine fx_iload (pc := 42) F rfl dX0_addedToCopies_42 ?_
        refine fx_iload (pc := 44) F rfl dX0_addedToCopies_44 ?_
        obtain ⟨v42, e43, e31⟩ := fx_bnd e31
        refine fx_cV (pc := 46) F 0 kC_X0 [(10, now_0), (0, other_27), (0, thing_0)] this_0 [] (m_X0_wasDone Fu Λ this_0 now_0 other_27 thing_0 h _ e43) kD_X0_wasDone kI_X0_wasDone rfl wM_X0_88 ⟨rfl, rfl⟩ ⟨by decide, by decide⟩ (Nat.le_of_ble_eq_true rfl) rfl dX0_addedToCopies_46 ?_
        refine fx_nzeq (pc := 49) F 55 (by decide) dX0_addedToCopies_49 (fun c44 => ?_) (fun c44 => ?_)
        · have e31 := (if_pos c44).symm.trans e31
          cases e31
          exact hT32 (by decide)
        · have e31 := (if_neg c44).symm.trans e31
          cases e31
          exact hF33 (by decide)
      · have e31 := (if_neg c41).symm.trans e31
        cases e31
        exact hF33 (by decide)
    · have e31 := (if_neg c34).symm.trans e31
      cases e31
      exact hF33 (by decide)
  · have eq28 := (if_neg c29).symm.trans eq28
    cases eq28
    exact ex _ rfl
def f_X0_added (Fu : Nat) (Λ : fx_L) (this_0 : Int) (town_0 : Int) (day_0 : Int) (hour_0 : Int) (person_0 : Int) (thing_0 : Int) (h : fx_H) : Option (Int) :=
  (f_X4_kindOf Fu Λ town_0 hour_0 h).bind fun v1 =>
  (fx_rt 0 v1).bind fun v3 =>
  (fx_rr Λ day_0 hour_0).bind fun v5 =>
  (f_X0_othersWith Fu Λ this_0 v1 v5 person_0 thing_0 h).bind fun v7 =>
  Option.bind (
    Option.bind (
      if v1 = 5 then
        (f_X0_aheadOf Fu Λ this_0 day_0 hour_0 h).bind fun v17 =>
        (f_X0_wasDone Fu Λ this_0 v17 person_0 thing_0 h).bind fun v19 =>
        if ¬ v19 = 0 then
          some true
        else
          some false
      else
        some false
    ) fun b12 =>
    if b12 = true then
      some (fx_w ((fx_w (v3 * v7)) + 2))
    else
      some (fx_w (v3 * v7))
  ) fun more_9 =>
  Option.bind (
    (f_X4_kindOf Fu Λ town_0 (fx_w (hour_0 + 1)) h).bind fun v26 =>
    if v26 = 5 then
      (fx_rr Λ day_0 hour_0).bind fun v29 =>
      (fx_rr Λ day_0 (fx_w (hour_0 + 1))).bind fun v31 =>
      (f_X0_addedToCopies Fu Λ this_0 v29 v31 person_0 thing_0 h).bind fun v33 =>
      some (fx_w (more_9 + v33))
    else
      some more_9
  ) fun more_23 =>
  some more_23
abbrev rm_X0_added : Room := { frames := 2, cells := 0, slots := 0, locals := 50 }
set_option maxRecDepth 100000 in
set_option maxHeartbeats 4000000 in
theorem m_X0_added (Fu : Nat) (Λ : fx_L) (this_0 : Int) (town_0 : Int) (day_0 : Int) (hour_0 : Int) (person_0 : Int) (thing_0 : Int) (h : fx_H) (r : Int) (hf : f_X0_added Fu Λ this_0 town_0 day_0 hour_0 person_0 thing_0 h = some r) : fx_Met yX0_added cX0_added 8 (some .int) rm_X0_added Λ [(2, this_0), (6, town_0), (13, day_0), (0, hour_0), (0, person_0), (0, thing_0)] h (some (0, r)) h := by
  unfold f_X0_added at hf
  refine fx_enter (ls := [some (2, this_0), some (6, town_0), some (13, day_0), some (0, hour_0), some (0, person_0), some (0, thing_0), none, none]) (by decide) (Nat.le_of_ble_eq_true rfl) rfl (fun M G F K => ?_)
  refine fx_aload_n (pc := 0) (t := 4) F 1 rfl rfl dX0_added_0 ?_
  refine fx_iload_n (pc := 1) F 3 rfl rfl dX0_added_1 ?_
  obtain ⟨v1, e2, hf⟩ := fx_bnd hf
  refine fx_cV (pc := 2) F 4 kC_X4 [(0, hour_0)] town_0 [] (m_X4_kindOf Fu Λ town_0 hour_0 h _ e2) kD_X4_kindOf kI_X4_kindOf rfl wM_X0_51 ⟨rfl, rfl⟩ ⟨by decide, by decide⟩ (Nat.le_of_ble_eq_true rfl) rfl dX0_added_2 ?_
  refine fx_istore (pc := 5) (ls' := [some (2, this_0), some (6, town_0), some (13, day_0), some (0, hour_0), some (0, person_0), some (0, thing_0), some (0, v1), none]) F (by decide) rfl rfl dX0_added_5 ?_
  refine fx_gets (pc := 7) F 0 (nm := "PAIR_PAYS") (by decide) (by decide) dX0_added_7 ?_
  refine fx_iload (pc := 10) F rfl dX0_added_10 ?_
  obtain ⟨v3, e4, hf⟩ := fx_bnd hf
  refine fx_rtald (pc := 12) F 0 (by decide) e4 dX0_added_12 ?_
  refine fx_aload_n (pc := 13) (t := 0) F 0 rfl rfl dX0_added_13 ?_
  refine fx_iload (pc := 14) F rfl dX0_added_14 ?_
  refine fx_aload_n (pc := 16) (t := 11) F 2 rfl rfl dX0_added_16 ?_
  refine fx_iload_n (pc := 17) F 3 rfl rfl dX0_added_17 ?_
  obtain ⟨v5, e6, hf⟩ := fx_bnd hf
  refine fx_raldG (pc := 18) F e6 dX0_added_18 ?_
  refine fx_iload (pc := 19) F rfl dX0_added_19 ?_
  refine fx_iload (pc := 21) F rfl dX0_added_21 ?_
  obtain ⟨v7, e8, hf⟩ := fx_bnd hf
  refine fx_cV (pc := 23) F 0 kC_X0 [(0, v1), (10, v5), (0, person_0), (0, thing_0)] this_0 [(0, v3)] (m_X0_othersWith Fu Λ this_0 v1 v5 person_0 thing_0 h _ e8) kD_X0_othersWith kI_X0_othersWith rfl wM_X0_95 ⟨rfl, rfl⟩ ⟨by decide, by decide⟩ (Nat.le_of_ble_eq_true rfl) rfl dX0_added_23 ?_
  refine fx_imul (pc := 26) F dX0_added_26 ?_
  refine fx_istore (pc := 27) (ls' := [some (2, this_0), some (6, town_0), some (13, day_0), some (0, hour_0), some (0, person_0), some (0, thing_0), some (0, v1), some (0, (fx_w (v3 * v7)))]) F (by decide) rfl rfl dX0_added_27 ?_
  obtain ⟨more_9, e10, hf⟩ := fx_bnd hf
  have hJ11 : fx_J M G Λ 8 55 [some (2, this_0), some (6, town_0), some (13, day_0), some (0, hour_0), some (0, person_0), some (0, thing_0), some (0, v1), some (0, more_9)] [] h := by
    obtain ⟨more_23, e24, hf⟩ := fx_bnd hf
    have hJ25 : fx_J M G Λ 8 87 [some (2, this_0), some (6, town_0), some (13, day_0), some (0, hour_0), some (0, person_0), some (0, thing_0), some (0, v1), some (0, more_23)] [] h := by
      refine fx_iload (pc := 87) F rfl dX0_added_87 ?_
      cases hf
      exact fx_ireturn (pc := 89) F K dX0_added_89
    refine fx_aload_n (pc := 55) (t := 4) F 1 rfl rfl dX0_added_55 ?_
    refine fx_iload_n (pc := 56) F 3 rfl rfl dX0_added_56 ?_
    refine fx_iconst (pc := 57) F ⟨by decide, by decide⟩ dX0_added_57 ?_
    refine fx_iadd (pc := 58) F dX0_added_58 ?_
    obtain ⟨v26, e27, e24⟩ := fx_bnd e24
    refine fx_cV (pc := 59) F 4 kC_X4 [(0, (fx_w (hour_0 + 1)))] town_0 [] (m_X4_kindOf Fu Λ town_0 (fx_w (hour_0 + 1)) h _ e27) kD_X4_kindOf kI_X4_kindOf rfl wM_X0_51 ⟨rfl, rfl⟩ ⟨by decide, by decide⟩ (Nat.le_of_ble_eq_true rfl) rfl dX0_added_59 ?_
    refine fx_iconst (pc := 62) F ⟨by decide, by decide⟩ dX0_added_62 ?_
    refine fx_neq (pc := 63) F 87 (by decide) dX0_added_63 (fun c28 => ?_) (fun c28 => ?_)
    · have e24 := (if_pos c28).symm.trans e24
      refine fx_iload (pc := 66) F rfl dX0_added_66 ?_
      refine fx_aload_n (pc := 68) (t := 0) F 0 rfl rfl dX0_added_68 ?_
      refine fx_aload_n (pc := 69) (t := 11) F 2 rfl rfl dX0_added_69 ?_
      refine fx_iload_n (pc := 70) F 3 rfl rfl dX0_added_70 ?_
      obtain ⟨v29, e30, e24⟩ := fx_bnd e24
      refine fx_raldG (pc := 71) F e30 dX0_added_71 ?_
      refine fx_aload_n (pc := 72) (t := 11) F 2 rfl rfl dX0_added_72 ?_
      refine fx_iload_n (pc := 73) F 3 rfl rfl dX0_added_73 ?_
      refine fx_iconst (pc := 74) F ⟨by decide, by decide⟩ dX0_added_74 ?_
      refine fx_iadd (pc := 75) F dX0_added_75 ?_
      obtain ⟨v31, e32, e24⟩ := fx_bnd e24
      refine fx_raldG (pc := 76) F e32 dX0_added_76 ?_
      refine fx_iload (pc := 77) F rfl dX0_added_77 ?_
      refine fx_iload (pc := 79) F rfl dX0_added_79 ?_
      obtain ⟨v33, e34, e24⟩ := fx_bnd e24
      refine fx_cV (pc := 81) F 0 kC_X0 [(10, v29), (10, v31), (0, person_0), (0, thing_0)] this_0 [(0, more_9)] (m_X0_addedToCopies Fu Λ this_0 v29 v31 person_0 thing_0 h _ e34) kD_X0_addedToCopies kI_X0_addedToCopies rfl wM_X0_99 ⟨rfl, rfl⟩ ⟨by decide, by decide⟩ (Nat.le_of_ble_eq_true rfl) rfl dX0_added_81 ?_
      refine fx_iadd (pc := 84) F dX0_added_84 ?_
      refine fx_istore (pc := 85) (ls' := [some (2, this_0), some (6, town_0), some (13, day_0), some (0, hour_0), some (0, person_0), some (0, thing_0), some (0, v1), some (0, (fx_w (more_9 + v33)))]) F (by decide) rfl rfl dX0_added_85 ?_
      cases e24
      exact hJ25
    · have e24 := (if_neg c28).symm.trans e24
      cases e24
      exact hJ25
  obtain ⟨b12, e13, e10⟩ := fx_bnd e10
  have hT14 : b12 = true → fx_J M G Λ 8 52 [some (2, this_0), some (6, town_0), some (13, day_0), some (0, hour_0), some (0, person_0), some (0, thing_0), some (0, v1), some (0, (fx_w (v3 * v7)))] [] h := fun c22 => by
    have e10 := (if_pos c22).symm.trans e10
    refine fx_iinc (pc := 52) (ls' := [some (2, this_0), some (6, town_0), some (13, day_0), some (0, hour_0), some (0, person_0), some (0, thing_0), some (0, v1), some (0, (fx_w ((fx_w (v3 * v7)) + 2)))]) F (by decide) rfl rfl rfl dX0_added_52 ?_
    cases e10
    exact hJ11
  have hF15 : ¬ b12 = true → fx_J M G Λ 8 55 [some (2, this_0), some (6, town_0), some (13, day_0), some (0, hour_0), some (0, person_0), some (0, thing_0), some (0, v1), some (0, (fx_w (v3 * v7)))] [] h := fun c22 => by
    have e10 := (if_neg c22).symm.trans e10
    cases e10
    exact hJ11
  refine fx_iload (pc := 29) F rfl dX0_added_29 ?_
  refine fx_iconst (pc := 31) F ⟨by decide, by decide⟩ dX0_added_31 ?_
  refine fx_neq (pc := 32) F 55 (by decide) dX0_added_32 (fun c16 => ?_) (fun c16 => ?_)
  · have e13 := (if_pos c16).symm.trans e13
    refine fx_aload_n (pc := 35) (t := 0) F 0 rfl rfl dX0_added_35 ?_
    refine fx_aload_n (pc := 36) (t := 0) F 0 rfl rfl dX0_added_36 ?_
    refine fx_aload_n (pc := 37) (t := 11) F 2 rfl rfl dX0_added_37 ?_
    refine fx_iload_n (pc := 38) F 3 rfl rfl dX0_added_38 ?_
    obtain ⟨v17, e18, e13⟩ := fx_bnd e13
    refine fx_cV (pc := 39) F 0 kC_X0 [(13, day_0), (0, hour_0)] this_0 [(2, this_0)] (m_X0_aheadOf Fu Λ this_0 day_0 hour_0 h _ e18) kD_X0_aheadOf kI_X0_aheadOf rfl wM_X0_59 ⟨rfl, rfl⟩ ⟨by decide, by decide⟩ (Nat.le_of_ble_eq_true rfl) rfl dX0_added_39 ?_
    refine fx_iload (pc := 42) F rfl dX0_added_42 ?_
    refine fx_iload (pc := 44) F rfl dX0_added_44 ?_
    obtain ⟨v19, e20, e13⟩ := fx_bnd e13
    refine fx_cV (pc := 46) F 0 kC_X0 [(10, v17), (0, person_0), (0, thing_0)] this_0 [] (m_X0_wasDone Fu Λ this_0 v17 person_0 thing_0 h _ e20) kD_X0_wasDone kI_X0_wasDone rfl wM_X0_88 ⟨rfl, rfl⟩ ⟨by decide, by decide⟩ (Nat.le_of_ble_eq_true rfl) rfl dX0_added_46 ?_
    refine fx_nzne (pc := 49) F 55 (by decide) dX0_added_49 (fun c21 => ?_) (fun c21 => ?_)
    · have e13 := (if_pos c21).symm.trans e13
      cases e13
      exact hT14 (by decide)
    · have e13 := (if_neg c21).symm.trans e13
      cases e13
      exact hF15 (by decide)
  · have e13 := (if_neg c16).symm.trans e13
    cases e13
    exact hF15 (by decide)
def s_X1_startPerson_2 (Fu : Nat) (Λ : fx_L) (this_16 : Int) (town_17 : Int) (court_18 : Int) (person_19 : Int) (hour_20 : Int) : Int × fx_H → Option ((Int × fx_H) ⊕ (Int × fx_H)) := fun (t_14, h15) =>
  if t_14 < (h15 town_17 0) then
    (fx_rr Λ (fx_tg Λ town_17 9) person_19).bind fun v23 =>
    (fx_rd Λ h15 v23 t_14).bind fun v25 =>
    if 0 < v25 then
      (fx_rr Λ (fx_tg Λ this_16 12) person_19).bind fun v28 =>
      (f_X0_added Fu Λ court_18 town_17 (fx_tg Λ this_16 0) hour_20 person_19 t_14 h15).bind fun v30 =>
      (fx_wr Λ h15 v28 (fx_w ((fx_w (hour_20 * 10)) + t_14)) v30).bind fun h32 =>
      some (.inl ((fx_w (t_14 + 1)), h32))
    else
      some (.inl ((fx_w (t_14 + 1)), h15))
  else
    some (.inr (t_14, h15))
def s_X1_startPerson_1 (Fu : Nat) (Λ : fx_L) (this_7 : Int) (town_8 : Int) (court_9 : Int) (person_10 : Int) (hours_11 : Int) : Int × fx_H → Option ((Int × fx_H) ⊕ (Int × fx_H)) := fun (hour_5, h6) =>
  if hour_5 < hours_11 then
    Option.bind (fx_loop (s_X1_startPerson_2 Fu Λ this_7 town_8 court_9 person_10 hour_5) Fu (0, h6)) fun (t_49, h50) =>
    some (.inl ((fx_w (hour_5 + 1)), h50))
  else
    some (.inr (hour_5, h6))
def f_X1_startPerson (Fu : Nat) (Λ : fx_L) (this_0 : Int) (town_0 : Int) (court_0 : Int) (person_0 : Int) (fines_0 : Int) (hours_0 : Int) (h : fx_H) : Option (fx_H) :=
  (fx_wr Λ h (fx_tg Λ this_0 9) person_0 (-1)).bind fun h1 =>
  (fx_wr Λ h1 (fx_tg Λ this_0 10) person_0 fines_0).bind fun h3 =>
  Option.bind (fx_loop (s_X1_startPerson_1 Fu Λ this_0 town_0 court_0 person_0 hours_0) Fu (0, h3)) fun (hour_96, h97) =>
  some h97
abbrev rm_X1_startPerson : Room := { frames := 3, cells := 0, slots := 0, locals := 77 }
set_option maxRecDepth 100000 in
set_option maxHeartbeats 4000000 in
theorem m_X1_startPerson (Fu : Nat) (Λ : fx_L) (this_0 : Int) (town_0 : Int) (court_0 : Int) (person_0 : Int) (fines_0 : Int) (hours_0 : Int) (h : fx_H) (ho : fx_H) (hf : f_X1_startPerson Fu Λ this_0 town_0 court_0 person_0 fines_0 hours_0 h = some ho) : fx_Met yX1_startPerson cX1_startPerson 8 none rm_X1_startPerson Λ [(3, this_0), (6, town_0), (2, court_0), (0, person_0), (0, fines_0), (0, hours_0)] h none ho := by
  unfold f_X1_startPerson at hf
  refine fx_enter (ls := [some (3, this_0), some (6, town_0), some (2, court_0), some (0, person_0), some (0, fines_0), some (0, hours_0), none, none]) (by decide) (Nat.le_of_ble_eq_true rfl) rfl (fun M G F K => ?_)
  refine fx_aload_n (pc := 0) (t := 1) F 0 rfl rfl dX1_startPerson_0 ?_
  refine fx_gR (pc := 1) F 1 9 9 8 rfl kC_X1 (by decide) rfl wF_X1_36 dX1_startPerson_1 ?_
  refine fx_iload_n (pc := 4) F 3 rfl rfl dX1_startPerson_4 ?_
  refine fx_iconst (pc := 5) F ⟨by decide, by decide⟩ dX1_startPerson_5 ?_
  obtain ⟨h1, e2, hf⟩ := fx_bnd hf
  refine fx_rastI (pc := 6) F e2 dX1_startPerson_6 ?_
  refine fx_aload_n (pc := 7) (t := 1) F 0 rfl rfl dX1_startPerson_7 ?_
  refine fx_gR (pc := 8) F 1 10 10 8 rfl kC_X1 (by decide) rfl wF_X1_39 dX1_startPerson_8 ?_
  refine fx_iload_n (pc := 11) F 3 rfl rfl dX1_startPerson_11 ?_
  refine fx_iload (pc := 12) F rfl dX1_startPerson_12 ?_
  obtain ⟨h3, e4, hf⟩ := fx_bnd hf
  refine fx_rastI (pc := 14) F e4 dX1_startPerson_14 ?_
  refine fx_iconst (pc := 15) F ⟨by decide, by decide⟩ dX1_startPerson_15 ?_
  refine fx_istore (pc := 16) (ls' := [some (3, this_0), some (6, town_0), some (2, court_0), some (0, person_0), some (0, fines_0), some (0, hours_0), some (0, 0), none]) F (by decide) rfl rfl dX1_startPerson_16 ?_
  obtain ⟨⟨hour_96, h97⟩, e98, hf⟩ := fx_bnd hf
  have hE99 : fx_J M G Λ 8 90 [some (3, this_0), some (6, town_0), some (2, court_0), some (0, person_0), some (0, fines_0), some (0, hours_0), some (0, hour_96), none] [] h97 := by
    cases hf
    exact fx_vreturn (pc := 90) F K dX1_startPerson_90
  refine fx_loop_J (Hd := (fun z : Int × fx_H => fx_J M G Λ 8 18 [some (3, this_0), some (6, town_0), some (2, court_0), some (0, person_0), some (0, fines_0), some (0, hours_0), some (0, z.1), none] [] z.2)) (Ex := (fun z : Int × fx_H => fx_J M G Λ 8 90 [some (3, this_0), some (6, town_0), some (2, court_0), some (0, person_0), some (0, fines_0), some (0, hours_0), some (0, z.1), none] [] z.2)) ?_ Fu _ _ e98 hE99
  rintro ⟨hour_53, h54⟩ o9 eq55 ih ex
  unfold s_X1_startPerson_1 at eq55
  show fx_J M G Λ 8 18 [some (3, this_0), some (6, town_0), some (2, court_0), some (0, person_0), some (0, fines_0), some (0, hours_0), some (0, hour_53), none] [] h54
  refine fx_iload (pc := 18) F rfl dX1_startPerson_18 ?_
  refine fx_iload (pc := 20) F rfl dX1_startPerson_20 ?_
  refine fx_nlt (pc := 22) F 90 (by decide) dX1_startPerson_22 (fun c56 => ?_) (fun c56 => ?_)
  · have eq55 := (if_pos c56).symm.trans eq55
    refine fx_iconst (pc := 25) F ⟨by decide, by decide⟩ dX1_startPerson_25 ?_
    refine fx_istore (pc := 26) (ls' := [some (3, this_0), some (6, town_0), some (2, court_0), some (0, person_0), some (0, fines_0), some (0, hours_0), some (0, hour_53), some (0, 0)]) F (by decide) rfl rfl dX1_startPerson_26 ?_
    obtain ⟨⟨t_92, h93⟩, e94, eq55⟩ := fx_bnd eq55
    have hE95 : fx_J M G Λ 8 84 [some (3, this_0), some (6, town_0), some (2, court_0), some (0, person_0), some (0, fines_0), some (0, hours_0), some (0, hour_53), some (0, t_92)] [] h93 := by
      refine fx_iinc (pc := 84) (ls' := [some (3, this_0), some (6, town_0), some (2, court_0), some (0, person_0), some (0, fines_0), some (0, hours_0), some (0, (fx_w (hour_53 + 1))), some (0, t_92)]) F (by decide) rfl rfl rfl dX1_startPerson_84 ?_
      refine fx_goto (pc := 87) F 18 (by decide) dX1_startPerson_87 ?_
      cases eq55
      refine fx_drop (ls' := [some (3, this_0), some (6, town_0), some (2, court_0), some (0, person_0), some (0, fines_0), some (0, hours_0), some (0, (fx_w (hour_53 + 1))), none]) ⟨rfl, rfl, rfl, rfl, rfl, rfl, rfl, trivial⟩ ?_
      exact ih _ rfl
    refine fx_loop_J (Hd := (fun z : Int × fx_H => fx_J M G Λ 8 28 [some (3, this_0), some (6, town_0), some (2, court_0), some (0, person_0), some (0, fines_0), some (0, hours_0), some (0, hour_53), some (0, z.1)] [] z.2)) (Ex := (fun z : Int × fx_H => fx_J M G Λ 8 84 [some (3, this_0), some (6, town_0), some (2, court_0), some (0, person_0), some (0, fines_0), some (0, hours_0), some (0, hour_53), some (0, z.1)] [] z.2)) ?_ Fu _ _ e94 hE95
    rintro ⟨t_77, h78⟩ o9 eq79 ih ex
    unfold s_X1_startPerson_2 at eq79
    show fx_J M G Λ 8 28 [some (3, this_0), some (6, town_0), some (2, court_0), some (0, person_0), some (0, fines_0), some (0, hours_0), some (0, hour_53), some (0, t_77)] [] h78
    refine fx_iload (pc := 28) F rfl dX1_startPerson_28 ?_
    refine fx_aload_n (pc := 30) (t := 4) F 1 rfl rfl dX1_startPerson_30 ?_
    refine fx_gI (pc := 31) F 4 0 0 rfl kC_X4 rfl wF_X1_142 dX1_startPerson_31 ?_
    refine fx_nlt (pc := 34) F 84 (by decide) dX1_startPerson_34 (fun c80 => ?_) (fun c80 => ?_)
    · have eq79 := (if_pos c80).symm.trans eq79
      refine fx_aload_n (pc := 37) (t := 4) F 1 rfl rfl dX1_startPerson_37 ?_
      refine fx_gR (pc := 38) F 4 9 9 11 rfl kC_X4 (by decide) rfl wF_X1_157 dX1_startPerson_38 ?_
      refine fx_iload_n (pc := 41) F 3 rfl rfl dX1_startPerson_41 ?_
      obtain ⟨v81, e82, eq79⟩ := fx_bnd eq79
      refine fx_raldG (pc := 42) F e82 dX1_startPerson_42 ?_
      refine fx_iload (pc := 43) F rfl dX1_startPerson_43 ?_
      obtain ⟨v83, e84, eq79⟩ := fx_bnd eq79
      refine fx_raldI (pc := 45) F e84 dX1_startPerson_45 ?_
      refine fx_nzgt (pc := 46) F 78 (by decide) dX1_startPerson_46 (fun c85 => ?_) (fun c85 => ?_)
      · have eq79 := (if_pos c85).symm.trans eq79
        refine fx_aload_n (pc := 49) (t := 1) F 0 rfl rfl dX1_startPerson_49 ?_
        refine fx_gR (pc := 50) F 1 12 12 11 rfl kC_X1 (by decide) rfl wF_X1_45 dX1_startPerson_50 ?_
        refine fx_iload_n (pc := 53) F 3 rfl rfl dX1_startPerson_53 ?_
        obtain ⟨v86, e87, eq79⟩ := fx_bnd eq79
        refine fx_raldG (pc := 54) F e87 dX1_startPerson_54 ?_
        refine fx_iload (pc := 55) F rfl dX1_startPerson_55 ?_
        refine fx_bipush (pc := 57) F ⟨by decide, by decide⟩ (by decide) dX1_startPerson_57 ?_
        refine fx_imul (pc := 59) F dX1_startPerson_59 ?_
        refine fx_iload (pc := 60) F rfl dX1_startPerson_60 ?_
        refine fx_iadd (pc := 62) F dX1_startPerson_62 ?_
        refine fx_aload_n (pc := 63) (t := 0) F 2 rfl rfl dX1_startPerson_63 ?_
        refine fx_aload_n (pc := 64) (t := 4) F 1 rfl rfl dX1_startPerson_64 ?_
        refine fx_aload_n (pc := 65) (t := 1) F 0 rfl rfl dX1_startPerson_65 ?_
        refine fx_gR (pc := 66) F 1 0 0 11 rfl kC_X1 (by decide) rfl wF_X1_11 dX1_startPerson_66 ?_
        refine fx_iload (pc := 69) F rfl dX1_startPerson_69 ?_
        refine fx_iload_n (pc := 71) F 3 rfl rfl dX1_startPerson_71 ?_
        refine fx_iload (pc := 72) F rfl dX1_startPerson_72 ?_
        obtain ⟨v88, e89, eq79⟩ := fx_bnd eq79
        refine fx_cV (pc := 74) F 0 kC_X0 [(6, town_0), (13, (fx_tg Λ this_0 0)), (0, hour_53), (0, person_0), (0, t_77)] court_0 [(0, (fx_w ((fx_w (hour_53 * 10)) + t_77))), (10, v86)] (m_X0_added Fu Λ court_0 town_0 (fx_tg Λ this_0 0) hour_53 person_0 t_77 h78 _ e89) kD_X0_added kI_X0_added rfl wM_X1_160 ⟨rfl, rfl⟩ ⟨by decide, by decide⟩ (Nat.le_of_ble_eq_true rfl) rfl dX1_startPerson_74 ?_
        obtain ⟨h90, e91, eq79⟩ := fx_bnd eq79
        refine fx_rastI (pc := 77) F e91 dX1_startPerson_77 ?_
        refine fx_iinc (pc := 78) (ls' := [some (3, this_0), some (6, town_0), some (2, court_0), some (0, person_0), some (0, fines_0), some (0, hours_0), some (0, hour_53), some (0, (fx_w (t_77 + 1)))]) F (by decide) rfl rfl rfl dX1_startPerson_78 ?_
        refine fx_goto (pc := 81) F 28 (by decide) dX1_startPerson_81 ?_
        cases eq79
        exact ih _ rfl
      · have eq79 := (if_neg c85).symm.trans eq79
        refine fx_iinc (pc := 78) (ls' := [some (3, this_0), some (6, town_0), some (2, court_0), some (0, person_0), some (0, fines_0), some (0, hours_0), some (0, hour_53), some (0, (fx_w (t_77 + 1)))]) F (by decide) rfl rfl rfl dX1_startPerson_78 ?_
        refine fx_goto (pc := 81) F 28 (by decide) dX1_startPerson_81 ?_
        cases eq79
        exact ih _ rfl
    · have eq79 := (if_neg c80).symm.trans eq79
      cases eq79
      exact ex _ rfl
  · have eq55 := (if_neg c56).symm.trans eq55
    cases eq55
    exact ex _ rfl
def s_X1_priceOfRow_1 (Fu : Nat) (Λ : fx_L) (this_3 : Int) (person_4 : Int) (r_5 : Int) (hours_6 : Int) (h : fx_H) : Int × Int → Option ((Int × Int) ⊕ (Int × Int)) := fun (sum_1, hour_2) =>
  if hour_2 < hours_6 then
    (fx_rr Λ (fx_tg Λ this_3 12) person_4).bind fun v9 =>
    (fx_rr Λ (fx_tg Λ this_3 6) person_4).bind fun v11 =>
    (fx_rd Λ h v11 (fx_w ((fx_w (r_5 * 5)) + hour_2))).bind fun v13 =>
    (fx_rd Λ h v9 (fx_w ((fx_w (hour_2 * 10)) + v13))).bind fun v15 =>
    some (.inl ((fx_w (sum_1 + v15)), (fx_w (hour_2 + 1))))
  else
    some (.inr (sum_1, hour_2))
def f_X1_priceOfRow (Fu : Nat) (Λ : fx_L) (this_0 : Int) (person_0 : Int) (r_0 : Int) (hours_0 : Int) (h : fx_H) : Option (Int) :=
  Option.bind (fx_loop (s_X1_priceOfRow_1 Fu Λ this_0 person_0 r_0 hours_0 h) Fu (0, 0)) fun (sum_29, hour_30) =>
  some sum_29
abbrev rm_X1_priceOfRow : Room := { frames := 0, cells := 0, slots := 0, locals := 0 }
set_option maxRecDepth 100000 in
set_option maxHeartbeats 4000000 in
theorem m_X1_priceOfRow (Fu : Nat) (Λ : fx_L) (this_0 : Int) (person_0 : Int) (r_0 : Int) (hours_0 : Int) (h : fx_H) (r : Int) (hf : f_X1_priceOfRow Fu Λ this_0 person_0 r_0 hours_0 h = some r) : fx_Met yX1_priceOfRow cX1_priceOfRow 6 (some .int) rm_X1_priceOfRow Λ [(3, this_0), (0, person_0), (0, r_0), (0, hours_0)] h (some (0, r)) h := by
  unfold f_X1_priceOfRow at hf
  refine fx_enter (ls := [some (3, this_0), some (0, person_0), some (0, r_0), some (0, hours_0), none, none]) (by decide) (Nat.le_of_ble_eq_true rfl) rfl (fun M G F K => ?_)
  refine fx_iconst (pc := 0) F ⟨by decide, by decide⟩ dX1_priceOfRow_0 ?_
  refine fx_istore (pc := 1) (ls' := [some (3, this_0), some (0, person_0), some (0, r_0), some (0, hours_0), some (0, 0), none]) F (by decide) rfl rfl dX1_priceOfRow_1 ?_
  refine fx_iconst (pc := 3) F ⟨by decide, by decide⟩ dX1_priceOfRow_3 ?_
  refine fx_istore (pc := 4) (ls' := [some (3, this_0), some (0, person_0), some (0, r_0), some (0, hours_0), some (0, 0), some (0, 0)]) F (by decide) rfl rfl dX1_priceOfRow_4 ?_
  obtain ⟨⟨sum_29, hour_30⟩, e31, hf⟩ := fx_bnd hf
  have hE32 : fx_J M G Λ 6 49 [some (3, this_0), some (0, person_0), some (0, r_0), some (0, hours_0), some (0, sum_29), some (0, hour_30)] [] h := by
    refine fx_iload (pc := 49) F rfl dX1_priceOfRow_49 ?_
    cases hf
    exact fx_ireturn (pc := 51) F K dX1_priceOfRow_51
  refine fx_loop_J (Hd := (fun z : Int × Int => fx_J M G Λ 6 6 [some (3, this_0), some (0, person_0), some (0, r_0), some (0, hours_0), some (0, z.1), some (0, z.2)] [] h)) (Ex := (fun z : Int × Int => fx_J M G Λ 6 49 [some (3, this_0), some (0, person_0), some (0, r_0), some (0, hours_0), some (0, z.1), some (0, z.2)] [] h)) ?_ Fu _ _ e31 hE32
  rintro ⟨sum_17, hour_18⟩ o9 eq19 ih ex
  unfold s_X1_priceOfRow_1 at eq19
  show fx_J M G Λ 6 6 [some (3, this_0), some (0, person_0), some (0, r_0), some (0, hours_0), some (0, sum_17), some (0, hour_18)] [] h
  refine fx_iload (pc := 6) F rfl dX1_priceOfRow_6 ?_
  refine fx_iload_n (pc := 8) F 3 rfl rfl dX1_priceOfRow_8 ?_
  refine fx_nlt (pc := 9) F 49 (by decide) dX1_priceOfRow_9 (fun c20 => ?_) (fun c20 => ?_)
  · have eq19 := (if_pos c20).symm.trans eq19
    refine fx_iload (pc := 12) F rfl dX1_priceOfRow_12 ?_
    refine fx_aload_n (pc := 14) (t := 1) F 0 rfl rfl dX1_priceOfRow_14 ?_
    refine fx_gR (pc := 15) F 1 12 12 11 rfl kC_X1 (by decide) rfl wF_X1_45 dX1_priceOfRow_15 ?_
    refine fx_iload_n (pc := 18) F 1 rfl rfl dX1_priceOfRow_18 ?_
    obtain ⟨v21, e22, eq19⟩ := fx_bnd eq19
    refine fx_raldG (pc := 19) F e22 dX1_priceOfRow_19 ?_
    refine fx_iload (pc := 20) F rfl dX1_priceOfRow_20 ?_
    refine fx_bipush (pc := 22) F ⟨by decide, by decide⟩ (by decide) dX1_priceOfRow_22 ?_
    refine fx_imul (pc := 24) F dX1_priceOfRow_24 ?_
    refine fx_aload_n (pc := 25) (t := 1) F 0 rfl rfl dX1_priceOfRow_25 ?_
    refine fx_gR (pc := 26) F 1 6 6 11 rfl kC_X1 (by decide) rfl wF_X1_26 dX1_priceOfRow_26 ?_
    refine fx_iload_n (pc := 29) F 1 rfl rfl dX1_priceOfRow_29 ?_
    obtain ⟨v23, e24, eq19⟩ := fx_bnd eq19
    refine fx_raldG (pc := 30) F e24 dX1_priceOfRow_30 ?_
    refine fx_iload_n (pc := 31) F 2 rfl rfl dX1_priceOfRow_31 ?_
    refine fx_iconst (pc := 32) F ⟨by decide, by decide⟩ dX1_priceOfRow_32 ?_
    refine fx_imul (pc := 33) F dX1_priceOfRow_33 ?_
    refine fx_iload (pc := 34) F rfl dX1_priceOfRow_34 ?_
    refine fx_iadd (pc := 36) F dX1_priceOfRow_36 ?_
    obtain ⟨v25, e26, eq19⟩ := fx_bnd eq19
    refine fx_raldI (pc := 37) F e26 dX1_priceOfRow_37 ?_
    refine fx_iadd (pc := 38) F dX1_priceOfRow_38 ?_
    obtain ⟨v27, e28, eq19⟩ := fx_bnd eq19
    refine fx_raldI (pc := 39) F e28 dX1_priceOfRow_39 ?_
    refine fx_iadd (pc := 40) F dX1_priceOfRow_40 ?_
    refine fx_istore (pc := 41) (ls' := [some (3, this_0), some (0, person_0), some (0, r_0), some (0, hours_0), some (0, (fx_w (sum_17 + v27))), some (0, hour_18)]) F (by decide) rfl rfl dX1_priceOfRow_41 ?_
    refine fx_iinc (pc := 43) (ls' := [some (3, this_0), some (0, person_0), some (0, r_0), some (0, hours_0), some (0, (fx_w (sum_17 + v27))), some (0, (fx_w (hour_18 + 1)))]) F (by decide) rfl rfl rfl dX1_priceOfRow_43 ?_
    refine fx_goto (pc := 46) F 6 (by decide) dX1_priceOfRow_46 ?_
    cases eq19
    exact ih _ rfl
  · have eq19 := (if_neg c20).symm.trans eq19
    cases eq19
    exact ex _ rfl
def s_X1_layRow_1 (Fu : Nat) (Λ : fx_L) (this_3 : Int) (person_4 : Int) (r_5 : Int) (hours_6 : Int) : Int × fx_H → Option ((Int × fx_H) ⊕ (Int × fx_H)) := fun (hour_1, h2) =>
  if hour_1 < hours_6 then
    (fx_rr Λ (fx_tg Λ this_3 0) hour_1).bind fun v9 =>
    (fx_rr Λ (fx_tg Λ this_3 6) person_4).bind fun v11 =>
    (fx_rd Λ h2 v11 (fx_w ((fx_w (r_5 * 5)) + hour_1))).bind fun v13 =>
    (fx_wr Λ h2 v9 person_4 v13).bind fun h15 =>
    some (.inl ((fx_w (hour_1 + 1)), h15))
  else
    some (.inr (hour_1, h2))
def f_X1_layRow (Fu : Nat) (Λ : fx_L) (this_0 : Int) (person_0 : Int) (r_0 : Int) (hours_0 : Int) (h : fx_H) : Option (fx_H) :=
  Option.bind (fx_loop (s_X1_layRow_1 Fu Λ this_0 person_0 r_0 hours_0) Fu (0, h)) fun (hour_29, h30) =>
  some h30
abbrev rm_X1_layRow : Room := { frames := 0, cells := 0, slots := 0, locals := 0 }
set_option maxRecDepth 100000 in
set_option maxHeartbeats 4000000 in
theorem m_X1_layRow (Fu : Nat) (Λ : fx_L) (this_0 : Int) (person_0 : Int) (r_0 : Int) (hours_0 : Int) (h : fx_H) (ho : fx_H) (hf : f_X1_layRow Fu Λ this_0 person_0 r_0 hours_0 h = some ho) : fx_Met yX1_layRow cX1_layRow 5 none rm_X1_layRow Λ [(3, this_0), (0, person_0), (0, r_0), (0, hours_0)] h none ho := by
  unfold f_X1_layRow at hf
  refine fx_enter (ls := [some (3, this_0), some (0, person_0), some (0, r_0), some (0, hours_0), none]) (by decide) (Nat.le_of_ble_eq_true rfl) rfl (fun M G F K => ?_)
  refine fx_iconst (pc := 0) F ⟨by decide, by decide⟩ dX1_layRow_0 ?_
  refine fx_istore (pc := 1) (ls' := [some (3, this_0), some (0, person_0), some (0, r_0), some (0, hours_0), some (0, 0)]) F (by decide) rfl rfl dX1_layRow_1 ?_
  obtain ⟨⟨hour_29, h30⟩, e31, hf⟩ := fx_bnd hf
  have hE32 : fx_J M G Λ 5 37 [some (3, this_0), some (0, person_0), some (0, r_0), some (0, hours_0), some (0, hour_29)] [] h30 := by
    cases hf
    exact fx_vreturn (pc := 37) F K dX1_layRow_37
  refine fx_loop_J (Hd := (fun z : Int × fx_H => fx_J M G Λ 5 3 [some (3, this_0), some (0, person_0), some (0, r_0), some (0, hours_0), some (0, z.1)] [] z.2)) (Ex := (fun z : Int × fx_H => fx_J M G Λ 5 37 [some (3, this_0), some (0, person_0), some (0, r_0), some (0, hours_0), some (0, z.1)] [] z.2)) ?_ Fu _ _ e31 hE32
  rintro ⟨hour_17, h18⟩ o9 eq19 ih ex
  unfold s_X1_layRow_1 at eq19
  show fx_J M G Λ 5 3 [some (3, this_0), some (0, person_0), some (0, r_0), some (0, hours_0), some (0, hour_17)] [] h18
  refine fx_iload (pc := 3) F rfl dX1_layRow_3 ?_
  refine fx_iload_n (pc := 5) F 3 rfl rfl dX1_layRow_5 ?_
  refine fx_nlt (pc := 6) F 37 (by decide) dX1_layRow_6 (fun c20 => ?_) (fun c20 => ?_)
  · have eq19 := (if_pos c20).symm.trans eq19
    refine fx_aload_n (pc := 9) (t := 1) F 0 rfl rfl dX1_layRow_9 ?_
    refine fx_gR (pc := 10) F 1 0 0 11 rfl kC_X1 (by decide) rfl wF_X1_11 dX1_layRow_10 ?_
    refine fx_iload (pc := 13) F rfl dX1_layRow_13 ?_
    obtain ⟨v21, e22, eq19⟩ := fx_bnd eq19
    refine fx_raldG (pc := 15) F e22 dX1_layRow_15 ?_
    refine fx_iload_n (pc := 16) F 1 rfl rfl dX1_layRow_16 ?_
    refine fx_aload_n (pc := 17) (t := 1) F 0 rfl rfl dX1_layRow_17 ?_
    refine fx_gR (pc := 18) F 1 6 6 11 rfl kC_X1 (by decide) rfl wF_X1_26 dX1_layRow_18 ?_
    refine fx_iload_n (pc := 21) F 1 rfl rfl dX1_layRow_21 ?_
    obtain ⟨v23, e24, eq19⟩ := fx_bnd eq19
    refine fx_raldG (pc := 22) F e24 dX1_layRow_22 ?_
    refine fx_iload_n (pc := 23) F 2 rfl rfl dX1_layRow_23 ?_
    refine fx_iconst (pc := 24) F ⟨by decide, by decide⟩ dX1_layRow_24 ?_
    refine fx_imul (pc := 25) F dX1_layRow_25 ?_
    refine fx_iload (pc := 26) F rfl dX1_layRow_26 ?_
    refine fx_iadd (pc := 28) F dX1_layRow_28 ?_
    obtain ⟨v25, e26, eq19⟩ := fx_bnd eq19
    refine fx_raldI (pc := 29) F e26 dX1_layRow_29 ?_
    obtain ⟨h27, e28, eq19⟩ := fx_bnd eq19
    refine fx_rastI (pc := 30) F e28 dX1_layRow_30 ?_
    refine fx_iinc (pc := 31) (ls' := [some (3, this_0), some (0, person_0), some (0, r_0), some (0, hours_0), some (0, (fx_w (hour_17 + 1)))]) F (by decide) rfl rfl rfl dX1_layRow_31 ?_
    refine fx_goto (pc := 34) F 3 (by decide) dX1_layRow_34 ?_
    cases eq19
    exact ih _ rfl
  · have eq19 := (if_neg c20).symm.trans eq19
    cases eq19
    exact ex _ rfl
def s_X1_copyDay_1 (Fu : Nat) (Λ : fx_L) (source_3 : Int) (copy_4 : Int) : Int × fx_H → Option ((Int × fx_H) ⊕ (Int × fx_H)) := fun (hour_1, h2) =>
  if hour_1 < 5 then
    (fx_rr Λ source_3 hour_1).bind fun v7 =>
    (fx_rr Λ copy_4 hour_1).bind fun v9 =>
    (fx_cp Λ h2 v7 0 v9 0 5).bind fun h11 =>
    some (.inl ((fx_w (hour_1 + 1)), h11))
  else
    some (.inr (hour_1, h2))
def f_X1_copyDay (Fu : Nat) (Λ : fx_L) (source_0 : Int) (copy_0 : Int) (h : fx_H) : Option (fx_H) :=
  Option.bind (fx_loop (s_X1_copyDay_1 Fu Λ source_0 copy_0) Fu (0, h)) fun (hour_23, h24) =>
  some h24
abbrev rm_X1_copyDay : Room := { frames := 1, cells := 0, slots := 0, locals := 26 }
set_option maxRecDepth 100000 in
set_option maxHeartbeats 4000000 in
theorem m_X1_copyDay (Fu : Nat) (Λ : fx_L) (source_0 : Int) (copy_0 : Int) (h : fx_H) (ho : fx_H) (hf : f_X1_copyDay Fu Λ source_0 copy_0 h = some ho) : fx_Met yX1_copyDay cX1_copyDay 3 none rm_X1_copyDay Λ [(13, source_0), (13, copy_0)] h none ho := by
  unfold f_X1_copyDay at hf
  refine fx_enter (ls := [some (13, source_0), some (13, copy_0), none]) (by decide) (Nat.le_of_ble_eq_true rfl) rfl (fun M G F K => ?_)
  refine fx_iconst (pc := 0) F ⟨by decide, by decide⟩ dX1_copyDay_0 ?_
  refine fx_istore_n (pc := 1) (ls' := [some (13, source_0), some (13, copy_0), some (0, 0)]) F 2 rfl (by decide) rfl rfl dX1_copyDay_1 ?_
  obtain ⟨⟨hour_23, h24⟩, e25, hf⟩ := fx_bnd hf
  have hE26 : fx_J M G Λ 3 25 [some (13, source_0), some (13, copy_0), some (0, hour_23)] [] h24 := by
    cases hf
    exact fx_vreturn (pc := 25) F K dX1_copyDay_25
  refine fx_loop_J (Hd := (fun z : Int × fx_H => fx_J M G Λ 3 2 [some (13, source_0), some (13, copy_0), some (0, z.1)] [] z.2)) (Ex := (fun z : Int × fx_H => fx_J M G Λ 3 25 [some (13, source_0), some (13, copy_0), some (0, z.1)] [] z.2)) ?_ Fu _ _ e25 hE26
  rintro ⟨hour_13, h14⟩ o9 eq15 ih ex
  unfold s_X1_copyDay_1 at eq15
  show fx_J M G Λ 3 2 [some (13, source_0), some (13, copy_0), some (0, hour_13)] [] h14
  refine fx_iload_n (pc := 2) F 2 rfl rfl dX1_copyDay_2 ?_
  refine fx_iconst (pc := 3) F ⟨by decide, by decide⟩ dX1_copyDay_3 ?_
  refine fx_nlt (pc := 4) F 25 (by decide) dX1_copyDay_4 (fun c16 => ?_) (fun c16 => ?_)
  · have eq15 := (if_pos c16).symm.trans eq15
    refine fx_aload_n (pc := 7) (t := 11) F 0 rfl rfl dX1_copyDay_7 ?_
    refine fx_iload_n (pc := 8) F 2 rfl rfl dX1_copyDay_8 ?_
    obtain ⟨v17, e18, eq15⟩ := fx_bnd eq15
    refine fx_raldG (pc := 9) F e18 dX1_copyDay_9 ?_
    refine fx_iconst (pc := 10) F ⟨by decide, by decide⟩ dX1_copyDay_10 ?_
    refine fx_aload_n (pc := 11) (t := 11) F 1 rfl rfl dX1_copyDay_11 ?_
    refine fx_iload_n (pc := 12) F 2 rfl rfl dX1_copyDay_12 ?_
    obtain ⟨v19, e20, eq15⟩ := fx_bnd eq15
    refine fx_raldG (pc := 13) F e20 dX1_copyDay_13 ?_
    refine fx_iconst (pc := 14) F ⟨by decide, by decide⟩ dX1_copyDay_14 ?_
    refine fx_iconst (pc := 15) F ⟨by decide, by decide⟩ dX1_copyDay_15 ?_
    obtain ⟨h21, e22, eq15⟩ := fx_bnd eq15
    refine fx_racopy (pc := 16) F e22 wM_X1_164 wNa_arraycopy wSt_arraycopy wI_J10 (by decide) (Nat.le_of_ble_eq_true rfl) dX1_copyDay_16 ?_
    refine fx_iinc (pc := 19) (ls' := [some (13, source_0), some (13, copy_0), some (0, (fx_w (hour_13 + 1)))]) F (by decide) rfl rfl rfl dX1_copyDay_19 ?_
    refine fx_goto (pc := 22) F 2 (by decide) dX1_copyDay_22 ?_
    cases eq15
    exact ih _ rfl
  · have eq15 := (if_neg c16).symm.trans eq15
    cases eq15
    exact ex _ rfl
def s_X1_search_1 (Fu : Nat) (Λ : fx_L) (this_9 : Int) (town_10 : Int) (court_11 : Int) (hours_12 : Int) : Int × Int × Int × fx_H → Option ((Int × Int × Int × fx_H) ⊕ (Int × Int × Int × fx_H)) := fun (least_5, person_6, step_7, h8) =>
  if (((step_7 < 1000000) ∧ (0 ≤ person_6)) ∧ (0 < least_5)) then
    (fx_rd Λ h8 (fx_tg Λ this_9 9) person_6).bind fun v20 =>
    (fx_wr Λ h8 (fx_tg Λ this_9 9) person_6 (fx_w (v20 + 1))).bind fun h22 =>
    (fx_rd Λ h22 (fx_tg Λ this_9 9) person_6).bind fun v24 =>
    (fx_rd Λ h22 (fx_tg Λ this_9 7) person_6).bind fun v26 =>
    if v26 ≤ v24 then
      (f_X1_liftRow Fu Λ this_9 person_6 h22).bind fun h29 =>
      some (.inl (least_5, (fx_w (person_6 + (-1))), (fx_w (step_7 + 1)), h29))
    else
      (fx_rd Λ h22 (fx_tg Λ this_9 10) person_6).bind fun v31 =>
      (fx_rd Λ h22 (fx_tg Λ this_9 9) person_6).bind fun v33 =>
      (f_X1_priceOfRow Fu Λ this_9 person_6 v33 hours_12 h22).bind fun v35 =>
      if least_5 ≤ (fx_w (v31 + v35)) then
        some (.inl (least_5, person_6, (fx_w (step_7 + 1)), h22))
      else
        (fx_rd Λ h22 (fx_tg Λ this_9 9) person_6).bind fun v38 =>
        (f_X1_layRow Fu Λ this_9 person_6 v38 hours_12 h22).bind fun h40 =>
        if person_6 < (fx_w ((h40 town_10 2) - 1)) then
          (f_X1_startPerson Fu Λ this_9 town_10 court_11 (fx_w (person_6 + 1)) (fx_w (v31 + v35)) hours_12 h40).bind fun h43 =>
          some (.inl (least_5, (fx_w (person_6 + 1)), (fx_w (step_7 + 1)), h43))
        else
          (f_X1_copyDay Fu Λ (fx_tg Λ this_9 0) (fx_tg Λ this_9 3) h40).bind fun h45 =>
          some (.inl ((fx_w (v31 + v35)), person_6, (fx_w (step_7 + 1)), h45))
  else
    some (.inr (least_5, person_6, step_7, h8))
def f_X1_search (Fu : Nat) (Λ : fx_L) (this_0 : Int) (town_0 : Int) (court_0 : Int) (hours_0 : Int) (bound_0 : Int) (h : fx_H) : Option (Int × fx_H) :=
  (f_X1_clearDay Fu Λ this_0 h).bind fun h1 =>
  (f_X1_startPerson Fu Λ this_0 town_0 court_0 0 0 hours_0 h1).bind fun h3 =>
  Option.bind (fx_loop (s_X1_search_1 Fu Λ this_0 town_0 court_0 hours_0) Fu (bound_0, 0, 0, h3)) fun (least_85, person_86, step_87, h88) =>
  some (least_85, h88)
abbrev rm_X1_search : Room := { frames := 4, cells := 0, slots := 0, locals := 104 }
set_option maxRecDepth 100000 in
set_option maxHeartbeats 4000000 in
theorem m_X1_search (Fu : Nat) (Λ : fx_L) (this_0 : Int) (town_0 : Int) (court_0 : Int) (hours_0 : Int) (bound_0 : Int) (h : fx_H) (r : Int) (ho : fx_H) (hf : f_X1_search Fu Λ this_0 town_0 court_0 hours_0 bound_0 h = some (r, ho)) : fx_Met yX1_search cX1_search 9 (some .int) rm_X1_search Λ [(3, this_0), (6, town_0), (2, court_0), (0, hours_0), (0, bound_0)] h (some (0, r)) ho := by
  unfold f_X1_search at hf
  refine fx_enter (ls := [some (3, this_0), some (6, town_0), some (2, court_0), some (0, hours_0), some (0, bound_0), none, none, none, none]) (by decide) (Nat.le_of_ble_eq_true rfl) rfl (fun M G F K => ?_)
  refine fx_iload (pc := 0) F rfl dX1_search_0 ?_
  refine fx_istore (pc := 2) (ls' := [some (3, this_0), some (6, town_0), some (2, court_0), some (0, hours_0), some (0, bound_0), some (0, bound_0), none, none, none]) F (by decide) rfl rfl dX1_search_2 ?_
  refine fx_iconst (pc := 4) F ⟨by decide, by decide⟩ dX1_search_4 ?_
  refine fx_istore (pc := 5) (ls' := [some (3, this_0), some (6, town_0), some (2, court_0), some (0, hours_0), some (0, bound_0), some (0, bound_0), some (0, 0), none, none]) F (by decide) rfl rfl dX1_search_5 ?_
  refine fx_aload_n (pc := 7) (t := 1) F 0 rfl rfl dX1_search_7 ?_
  obtain ⟨h1, e2, hf⟩ := fx_bnd hf
  refine fx_cVv (pc := 8) F 1 kC_X1 [] this_0 [] (m_X1_clearDay Fu Λ this_0 h _ e2) kD_X1_clearDay kI_X1_clearDay rfl wM_X1_125 ⟨rfl, rfl⟩ ⟨by decide, by decide⟩ (Nat.le_of_ble_eq_true rfl) rfl dX1_search_8 ?_
  refine fx_aload_n (pc := 11) (t := 1) F 0 rfl rfl dX1_search_11 ?_
  refine fx_aload_n (pc := 12) (t := 4) F 1 rfl rfl dX1_search_12 ?_
  refine fx_aload_n (pc := 13) (t := 0) F 2 rfl rfl dX1_search_13 ?_
  refine fx_iconst (pc := 14) F ⟨by decide, by decide⟩ dX1_search_14 ?_
  refine fx_iconst (pc := 15) F ⟨by decide, by decide⟩ dX1_search_15 ?_
  refine fx_iload_n (pc := 16) F 3 rfl rfl dX1_search_16 ?_
  obtain ⟨h3, e4, hf⟩ := fx_bnd hf
  refine fx_cVv (pc := 17) F 1 kC_X1 [(6, town_0), (2, court_0), (0, 0), (0, 0), (0, hours_0)] this_0 [] (m_X1_startPerson Fu Λ this_0 town_0 court_0 0 0 hours_0 h1 _ e4) kD_X1_startPerson kI_X1_startPerson rfl wM_X1_149 ⟨rfl, rfl⟩ ⟨by decide, by decide⟩ (Nat.le_of_ble_eq_true rfl) rfl dX1_search_17 ?_
  refine fx_iconst (pc := 20) F ⟨by decide, by decide⟩ dX1_search_20 ?_
  refine fx_istore (pc := 21) (ls' := [some (3, this_0), some (6, town_0), some (2, court_0), some (0, hours_0), some (0, bound_0), some (0, bound_0), some (0, 0), some (0, 0), none]) F (by decide) rfl rfl dX1_search_21 ?_
  obtain ⟨⟨least_85, person_86, step_87, h88⟩, e89, hf⟩ := fx_bnd hf
  have hE90 : fx_J M G Λ 9 177 [some (3, this_0), some (6, town_0), some (2, court_0), some (0, hours_0), some (0, bound_0), some (0, least_85), some (0, person_86), some (0, step_87), none] [] h88 := by
    refine fx_iload (pc := 177) F rfl dX1_search_177 ?_
    cases hf
    exact fx_ireturn (pc := 179) F K dX1_search_179
  refine fx_loop_J (Hd := (fun z : Int × Int × Int × fx_H => fx_J M G Λ 9 23 [some (3, this_0), some (6, town_0), some (2, court_0), some (0, hours_0), some (0, bound_0), some (0, z.1), some (0, z.2.1), some (0, z.2.2.1), none] [] z.2.2.2)) (Ex := (fun z : Int × Int × Int × fx_H => fx_J M G Λ 9 177 [some (3, this_0), some (6, town_0), some (2, court_0), some (0, hours_0), some (0, bound_0), some (0, z.1), some (0, z.2.1), some (0, z.2.2.1), none] [] z.2.2.2)) ?_ Fu _ _ e89 hE90
  rintro ⟨least_47, person_48, step_49, h50⟩ o9 eq51 ih ex
  unfold s_X1_search_1 at eq51
  show fx_J M G Λ 9 23 [some (3, this_0), some (6, town_0), some (2, court_0), some (0, hours_0), some (0, bound_0), some (0, least_47), some (0, person_48), some (0, step_49), none] [] h50
  refine fx_iload (pc := 23) F rfl dX1_search_23 ?_
  refine fx_ldc (pc := 25) (z := 1000000) F (by decide) ⟨by decide, by decide⟩ wK_X1_67 dX1_search_25 ?_
  have hT52 : ((((step_49 < 1000000) ∧ (0 ≤ person_48)) ∧ (0 < least_47))) → fx_J M G Λ 9 40 [some (3, this_0), some (6, town_0), some (2, court_0), some (0, hours_0), some (0, bound_0), some (0, least_47), some (0, person_48), some (0, step_49), none] [] h50 := fun c57 => by
    have eq51 := (if_pos c57).symm.trans eq51
    refine fx_aload_n (pc := 40) (t := 1) F 0 rfl rfl dX1_search_40 ?_
    refine fx_gR (pc := 41) F 1 9 9 8 rfl kC_X1 (by decide) rfl wF_X1_36 dX1_search_41 ?_
    refine fx_iload (pc := 44) F rfl dX1_search_44 ?_
    refine fx_dup2 (pc := 46) F (show (0 : Nat) ≠ 1 by decide) (show (10 : Nat) ≠ 1 by decide) dX1_search_46 ?_
    obtain ⟨v58, e59, eq51⟩ := fx_bnd eq51
    refine fx_raldI (pc := 47) F e59 dX1_search_47 ?_
    refine fx_iconst (pc := 48) F ⟨by decide, by decide⟩ dX1_search_48 ?_
    refine fx_iadd (pc := 49) F dX1_search_49 ?_
    obtain ⟨h60, e61, eq51⟩ := fx_bnd eq51
    refine fx_rastI (pc := 50) F e61 dX1_search_50 ?_
    refine fx_aload_n (pc := 51) (t := 1) F 0 rfl rfl dX1_search_51 ?_
    refine fx_gR (pc := 52) F 1 9 9 8 rfl kC_X1 (by decide) rfl wF_X1_36 dX1_search_52 ?_
    refine fx_iload (pc := 55) F rfl dX1_search_55 ?_
    obtain ⟨v62, e63, eq51⟩ := fx_bnd eq51
    refine fx_raldI (pc := 57) F e63 dX1_search_57 ?_
    refine fx_aload_n (pc := 58) (t := 1) F 0 rfl rfl dX1_search_58 ?_
    refine fx_gR (pc := 59) F 1 7 7 8 rfl kC_X1 (by decide) rfl wF_X1_29 dX1_search_59 ?_
    refine fx_iload (pc := 62) F rfl dX1_search_62 ?_
    obtain ⟨v64, e65, eq51⟩ := fx_bnd eq51
    refine fx_raldI (pc := 64) F e65 dX1_search_64 ?_
    refine fx_nge (pc := 65) F 80 (by decide) dX1_search_65 (fun c66 => ?_) (fun c66 => ?_)
    · have eq51 := (if_pos c66).symm.trans eq51
      refine fx_aload_n (pc := 68) (t := 1) F 0 rfl rfl dX1_search_68 ?_
      refine fx_iload (pc := 69) F rfl dX1_search_69 ?_
      obtain ⟨h67, e68, eq51⟩ := fx_bnd eq51
      refine fx_cVv (pc := 71) F 1 kC_X1 [(0, person_48)] this_0 [] (m_X1_liftRow Fu Λ this_0 person_48 h60 _ e68) kD_X1_liftRow kI_X1_liftRow rfl wM_X1_153 ⟨rfl, rfl⟩ ⟨by decide, by decide⟩ (Nat.le_of_ble_eq_true rfl) rfl dX1_search_71 ?_
      refine fx_iinc (pc := 74) (ls' := [some (3, this_0), some (6, town_0), some (2, court_0), some (0, hours_0), some (0, bound_0), some (0, least_47), some (0, (fx_w (person_48 + (-1)))), some (0, step_49), none]) F (by decide) rfl rfl rfl dX1_search_74 ?_
      refine fx_goto (pc := 77) F 171 (by decide) dX1_search_77 ?_
      refine fx_iinc (pc := 171) (ls' := [some (3, this_0), some (6, town_0), some (2, court_0), some (0, hours_0), some (0, bound_0), some (0, least_47), some (0, (fx_w (person_48 + (-1)))), some (0, (fx_w (step_49 + 1))), none]) F (by decide) rfl rfl rfl dX1_search_171 ?_
      refine fx_goto (pc := 174) F 23 (by decide) dX1_search_174 ?_
      cases eq51
      exact ih _ rfl
    · have eq51 := (if_neg c66).symm.trans eq51
      refine fx_aload_n (pc := 80) (t := 1) F 0 rfl rfl dX1_search_80 ?_
      refine fx_gR (pc := 81) F 1 10 10 8 rfl kC_X1 (by decide) rfl wF_X1_39 dX1_search_81 ?_
      refine fx_iload (pc := 84) F rfl dX1_search_84 ?_
      obtain ⟨v69, e70, eq51⟩ := fx_bnd eq51
      refine fx_raldI (pc := 86) F e70 dX1_search_86 ?_
      refine fx_aload_n (pc := 87) (t := 1) F 0 rfl rfl dX1_search_87 ?_
      refine fx_iload (pc := 88) F rfl dX1_search_88 ?_
      refine fx_aload_n (pc := 90) (t := 1) F 0 rfl rfl dX1_search_90 ?_
      refine fx_gR (pc := 91) F 1 9 9 8 rfl kC_X1 (by decide) rfl wF_X1_36 dX1_search_91 ?_
      refine fx_iload (pc := 94) F rfl dX1_search_94 ?_
      obtain ⟨v71, e72, eq51⟩ := fx_bnd eq51
      refine fx_raldI (pc := 96) F e72 dX1_search_96 ?_
      refine fx_iload_n (pc := 97) F 3 rfl rfl dX1_search_97 ?_
      obtain ⟨v73, e74, eq51⟩ := fx_bnd eq51
      refine fx_cV (pc := 98) F 1 kC_X1 [(0, person_48), (0, v71), (0, hours_0)] this_0 [(0, v69)] (m_X1_priceOfRow Fu Λ this_0 person_48 v71 hours_0 h60 _ e74) kD_X1_priceOfRow kI_X1_priceOfRow rfl wM_X1_114 ⟨rfl, rfl⟩ ⟨by decide, by decide⟩ (Nat.le_of_ble_eq_true rfl) rfl dX1_search_98 ?_
      refine fx_iadd (pc := 101) F dX1_search_101 ?_
      refine fx_istore (pc := 102) (ls' := [some (3, this_0), some (6, town_0), some (2, court_0), some (0, hours_0), some (0, bound_0), some (0, least_47), some (0, person_48), some (0, step_49), some (0, (fx_w (v69 + v73)))]) F (by decide) rfl rfl dX1_search_102 ?_
      refine fx_iload (pc := 104) F rfl dX1_search_104 ?_
      refine fx_iload (pc := 106) F rfl dX1_search_106 ?_
      refine fx_nge (pc := 108) F 114 (by decide) dX1_search_108 (fun c75 => ?_) (fun c75 => ?_)
      · have eq51 := (if_pos c75).symm.trans eq51
        refine fx_goto (pc := 111) F 171 (by decide) dX1_search_111 ?_
        refine fx_iinc (pc := 171) (ls' := [some (3, this_0), some (6, town_0), some (2, court_0), some (0, hours_0), some (0, bound_0), some (0, least_47), some (0, person_48), some (0, (fx_w (step_49 + 1))), some (0, (fx_w (v69 + v73)))]) F (by decide) rfl rfl rfl dX1_search_171 ?_
        refine fx_goto (pc := 174) F 23 (by decide) dX1_search_174 ?_
        cases eq51
        refine fx_drop (ls' := [some (3, this_0), some (6, town_0), some (2, court_0), some (0, hours_0), some (0, bound_0), some (0, least_47), some (0, person_48), some (0, (fx_w (step_49 + 1))), none]) ⟨rfl, rfl, rfl, rfl, rfl, rfl, rfl, rfl, trivial⟩ ?_
        exact ih _ rfl
      · have eq51 := (if_neg c75).symm.trans eq51
        refine fx_aload_n (pc := 114) (t := 1) F 0 rfl rfl dX1_search_114 ?_
        refine fx_iload (pc := 115) F rfl dX1_search_115 ?_
        refine fx_aload_n (pc := 117) (t := 1) F 0 rfl rfl dX1_search_117 ?_
        refine fx_gR (pc := 118) F 1 9 9 8 rfl kC_X1 (by decide) rfl wF_X1_36 dX1_search_118 ?_
        refine fx_iload (pc := 121) F rfl dX1_search_121 ?_
        obtain ⟨v76, e77, eq51⟩ := fx_bnd eq51
        refine fx_raldI (pc := 123) F e77 dX1_search_123 ?_
        refine fx_iload_n (pc := 124) F 3 rfl rfl dX1_search_124 ?_
        obtain ⟨h78, e79, eq51⟩ := fx_bnd eq51
        refine fx_cVv (pc := 125) F 1 kC_X1 [(0, person_48), (0, v76), (0, hours_0)] this_0 [] (m_X1_layRow Fu Λ this_0 person_48 v76 hours_0 h60 _ e79) kD_X1_layRow kI_X1_layRow rfl wM_X1_121 ⟨rfl, rfl⟩ ⟨by decide, by decide⟩ (Nat.le_of_ble_eq_true rfl) rfl dX1_search_125 ?_
        refine fx_iload (pc := 128) F rfl dX1_search_128 ?_
        refine fx_aload_n (pc := 130) (t := 4) F 1 rfl rfl dX1_search_130 ?_
        refine fx_gI (pc := 131) F 4 2 2 rfl kC_X4 rfl wF_X1_87 dX1_search_131 ?_
        refine fx_iconst (pc := 134) F ⟨by decide, by decide⟩ dX1_search_134 ?_
        refine fx_isub (pc := 135) F dX1_search_135 ?_
        refine fx_nlt (pc := 136) F 156 (by decide) dX1_search_136 (fun c80 => ?_) (fun c80 => ?_)
        · have eq51 := (if_pos c80).symm.trans eq51
          refine fx_iinc (pc := 139) (ls' := [some (3, this_0), some (6, town_0), some (2, court_0), some (0, hours_0), some (0, bound_0), some (0, least_47), some (0, (fx_w (person_48 + 1))), some (0, step_49), some (0, (fx_w (v69 + v73)))]) F (by decide) rfl rfl rfl dX1_search_139 ?_
          refine fx_aload_n (pc := 142) (t := 1) F 0 rfl rfl dX1_search_142 ?_
          refine fx_aload_n (pc := 143) (t := 4) F 1 rfl rfl dX1_search_143 ?_
          refine fx_aload_n (pc := 144) (t := 0) F 2 rfl rfl dX1_search_144 ?_
          refine fx_iload (pc := 145) F rfl dX1_search_145 ?_
          refine fx_iload (pc := 147) F rfl dX1_search_147 ?_
          refine fx_iload_n (pc := 149) F 3 rfl rfl dX1_search_149 ?_
          obtain ⟨h81, e82, eq51⟩ := fx_bnd eq51
          refine fx_cVv (pc := 150) F 1 kC_X1 [(6, town_0), (2, court_0), (0, (fx_w (person_48 + 1))), (0, (fx_w (v69 + v73))), (0, hours_0)] this_0 [] (m_X1_startPerson Fu Λ this_0 town_0 court_0 (fx_w (person_48 + 1)) (fx_w (v69 + v73)) hours_0 h78 _ e82) kD_X1_startPerson kI_X1_startPerson rfl wM_X1_149 ⟨rfl, rfl⟩ ⟨by decide, by decide⟩ (Nat.le_of_ble_eq_true rfl) rfl dX1_search_150 ?_
          refine fx_goto (pc := 153) F 171 (by decide) dX1_search_153 ?_
          refine fx_iinc (pc := 171) (ls' := [some (3, this_0), some (6, town_0), some (2, court_0), some (0, hours_0), some (0, bound_0), some (0, least_47), some (0, (fx_w (person_48 + 1))), some (0, (fx_w (step_49 + 1))), some (0, (fx_w (v69 + v73)))]) F (by decide) rfl rfl rfl dX1_search_171 ?_
          refine fx_goto (pc := 174) F 23 (by decide) dX1_search_174 ?_
          cases eq51
          refine fx_drop (ls' := [some (3, this_0), some (6, town_0), some (2, court_0), some (0, hours_0), some (0, bound_0), some (0, least_47), some (0, (fx_w (person_48 + 1))), some (0, (fx_w (step_49 + 1))), none]) ⟨rfl, rfl, rfl, rfl, rfl, rfl, rfl, rfl, trivial⟩ ?_
          exact ih _ rfl
        · have eq51 := (if_neg c80).symm.trans eq51
          refine fx_iload (pc := 156) F rfl dX1_search_156 ?_
          refine fx_istore (pc := 158) (ls' := [some (3, this_0), some (6, town_0), some (2, court_0), some (0, hours_0), some (0, bound_0), some (0, (fx_w (v69 + v73))), some (0, person_48), some (0, step_49), some (0, (fx_w (v69 + v73)))]) F (by decide) rfl rfl dX1_search_158 ?_
          refine fx_aload_n (pc := 160) (t := 1) F 0 rfl rfl dX1_search_160 ?_
          refine fx_gR (pc := 161) F 1 0 0 11 rfl kC_X1 (by decide) rfl wF_X1_11 dX1_search_161 ?_
          refine fx_aload_n (pc := 164) (t := 1) F 0 rfl rfl dX1_search_164 ?_
          refine fx_gR (pc := 165) F 1 3 3 11 rfl kC_X1 (by decide) rfl wF_X1_19 dX1_search_165 ?_
          obtain ⟨h83, e84, eq51⟩ := fx_bnd eq51
          refine fx_cSv (pc := 168) F [(13, (fx_tg Λ this_0 0)), (13, (fx_tg Λ this_0 3))] [] (m_X1_copyDay Fu Λ (fx_tg Λ this_0 0) (fx_tg Λ this_0 3) h78 _ e84) kD_X1_copyDay wSt_X1_copyDay wM_X1_75 ⟨rfl, rfl⟩ ⟨by decide, by decide⟩ (Nat.le_of_ble_eq_true rfl) rfl dX1_search_168 ?_
          refine fx_iinc (pc := 171) (ls' := [some (3, this_0), some (6, town_0), some (2, court_0), some (0, hours_0), some (0, bound_0), some (0, (fx_w (v69 + v73))), some (0, person_48), some (0, (fx_w (step_49 + 1))), some (0, (fx_w (v69 + v73)))]) F (by decide) rfl rfl rfl dX1_search_171 ?_
          refine fx_goto (pc := 174) F 23 (by decide) dX1_search_174 ?_
          cases eq51
          refine fx_drop (ls' := [some (3, this_0), some (6, town_0), some (2, court_0), some (0, hours_0), some (0, bound_0), some (0, (fx_w (v69 + v73))), some (0, person_48), some (0, (fx_w (step_49 + 1))), none]) ⟨rfl, rfl, rfl, rfl, rfl, rfl, rfl, rfl, trivial⟩ ?_
          exact ih _ rfl
  have hF53 : ¬ ((((step_49 < 1000000) ∧ (0 ≤ person_48)) ∧ (0 < least_47))) → fx_J M G Λ 9 177 [some (3, this_0), some (6, town_0), some (2, court_0), some (0, hours_0), some (0, bound_0), some (0, least_47), some (0, person_48), some (0, step_49), none] [] h50 := fun c57 => by
    have eq51 := (if_neg c57).symm.trans eq51
    cases eq51
    exact ex _ rfl
  refine fx_nlt (pc := 27) F 177 (by decide) dX1_search_27 (fun c54 => ?_) (fun c54 => ?_)
  · refine fx_iload (pc := 30) F rfl dX1_search_30 ?_
    refine fx_nzge (pc := 32) F 177 (by decide) dX1_search_32 (fun c55 => ?_) (fun c55 => ?_)
    · refine fx_iload (pc := 35) F rfl dX1_search_35 ?_
      refine fx_nzgt (pc := 37) F 177 (by decide) dX1_search_37 (fun c56 => ?_) (fun c56 => ?_)
      · exact hT52 ⟨⟨c54, c55⟩, c56⟩
      · exact hF53 (fun q => c56 q.2)
    · exact hF53 (fun q => (fun q => c55 q.2) q.1)
  · exact hF53 (fun q => (fun q => c54 q.1) q.1)
def f_X1_findLeast (Fu : Nat) (Λ : fx_L) (this_0 : Int) (town_0 : Int) (court_0 : Int) (changes_0 : Int) (h : fx_H) : Option (Int × fx_H) :=
  if (h this_0 5) = changes_0 then
    (fx_zb (h this_0 4)).bind fun z2 =>
    some (z2, h)
  else
    (f_X1_writeRows Fu Λ this_0 town_0 ((fx_up h this_0 5 changes_0) town_0 3) (fx_up h this_0 5 changes_0)).bind fun h4 =>
    Option.bind (
      (f_X1_waysTogether Fu Λ this_0 town_0 h4).bind fun v9 =>
      if v9 ≤ 50000 then
        some (1 : Int)
      else
        some (0 : Int)
    ) fun v6 =>
    (fx_zb v6).bind fun z12 =>
    Option.bind (
      if ¬ ((fx_up h4 this_0 4 z12) this_0 4) = 0 then
        (f_X1_search Fu Λ this_0 town_0 court_0 ((fx_up h4 this_0 4 z12) town_0 3) 1000000 (fx_up h4 this_0 4 z12)).bind fun (v18, h19) =>
        (f_X1_copyDay Fu Λ (fx_tg Λ this_0 3) (fx_tg Λ this_0 1) (fx_up h19 this_0 2 v18)).bind fun h21 =>
        some h21
      else
        some (fx_up h4 this_0 4 z12)
    ) fun h14 =>
    (fx_zb (h14 this_0 4)).bind fun z23 =>
    some (z23, h14)
abbrev rm_X1_findLeast : Room := { frames := 5, cells := 0, slots := 0, locals := 132 }
set_option maxRecDepth 100000 in
set_option maxHeartbeats 4000000 in
theorem m_X1_findLeast (Fu : Nat) (Λ : fx_L) (this_0 : Int) (town_0 : Int) (court_0 : Int) (changes_0 : Int) (h : fx_H) (r : Int) (ho : fx_H) (hf : f_X1_findLeast Fu Λ this_0 town_0 court_0 changes_0 h = some (r, ho)) : fx_Met yX1_findLeast cX1_findLeast 4 (some .boolean) rm_X1_findLeast Λ [(3, this_0), (6, town_0), (2, court_0), (0, changes_0)] h (some (0, r)) ho := by
  unfold f_X1_findLeast at hf
  refine fx_enter (ls := [some (3, this_0), some (6, town_0), some (2, court_0), some (0, changes_0)]) (by decide) (Nat.le_of_ble_eq_true rfl) rfl (fun M G F K => ?_)
  refine fx_aload_n (pc := 0) (t := 1) F 0 rfl rfl dX1_findLeast_0 ?_
  refine fx_gI (pc := 1) F 1 5 5 rfl kC_X1 rfl wF_X1_22 dX1_findLeast_1 ?_
  refine fx_iload_n (pc := 4) F 3 rfl rfl dX1_findLeast_4 ?_
  refine fx_neq (pc := 5) F 13 (by decide) dX1_findLeast_5 (fun c1 => ?_) (fun c1 => ?_)
  · have hf := (if_pos c1).symm.trans hf
    refine fx_aload_n (pc := 8) (t := 1) F 0 rfl rfl dX1_findLeast_8 ?_
    refine fx_gI (pc := 9) F 1 4 4 rfl kC_X1 rfl wF_X1_48 dX1_findLeast_9 ?_
    obtain ⟨z2, e3, hf⟩ := fx_bnd hf
    obtain ⟨e3, hzz2⟩ := fx_zb_use e3
    refine fx_top (X := fx_X) e3 ?_
    cases hf
    exact fx_zreturn (pc := 12) F hzz2 K dX1_findLeast_12
  · have hf := (if_neg c1).symm.trans hf
    refine fx_aload_n (pc := 13) (t := 1) F 0 rfl rfl dX1_findLeast_13 ?_
    refine fx_iload_n (pc := 14) F 3 rfl rfl dX1_findLeast_14 ?_
    refine fx_pI (pc := 15) F 1 5 5 rfl kC_X1 rfl rfl (by decide +kernel) wF_X1_22 dX1_findLeast_15 ?_
    refine fx_aload_n (pc := 18) (t := 1) F 0 rfl rfl dX1_findLeast_18 ?_
    refine fx_aload_n (pc := 19) (t := 4) F 1 rfl rfl dX1_findLeast_19 ?_
    refine fx_aload_n (pc := 20) (t := 4) F 1 rfl rfl dX1_findLeast_20 ?_
    refine fx_gI (pc := 21) F 4 3 3 rfl kC_X4 rfl wF_X1_52 dX1_findLeast_21 ?_
    obtain ⟨h4, e5, hf⟩ := fx_bnd hf
    refine fx_cVv (pc := 24) F 1 kC_X1 [(6, town_0), (0, ((fx_up h this_0 5 changes_0) town_0 3))] this_0 [] (m_X1_writeRows Fu Λ this_0 town_0 ((fx_up h this_0 5 changes_0) town_0 3) (fx_up h this_0 5 changes_0) _ e5) kD_X1_writeRows kI_X1_writeRows rfl wM_X1_57 ⟨rfl, rfl⟩ ⟨by decide, by decide⟩ (Nat.le_of_ble_eq_true rfl) rfl dX1_findLeast_24 ?_
    refine fx_aload_n (pc := 27) (t := 1) F 0 rfl rfl dX1_findLeast_27 ?_
    obtain ⟨v6, e7, hf⟩ := fx_bnd hf
    have hJ8 : fx_J M G Λ 4 45 [some (3, this_0), some (6, town_0), some (2, court_0), some (0, changes_0)] [(0, v6), (3, this_0)] h4 := by
      obtain ⟨z12, e13, hf⟩ := fx_bnd hf
      obtain ⟨e13, hzz12⟩ := fx_zb_use e13
      refine fx_top (X := fx_X) e13 ?_
      refine fx_pZ (pc := 45) F 1 4 4 rfl kC_X1 rfl rfl (by decide +kernel) wF_X1_48 hzz12 dX1_findLeast_45 ?_
      obtain ⟨h14, e15, hf⟩ := fx_bnd hf
      have hJ16 : fx_J M G Λ 4 82 [some (3, this_0), some (6, town_0), some (2, court_0), some (0, changes_0)] [] h14 := by
        refine fx_aload_n (pc := 82) (t := 1) F 0 rfl rfl dX1_findLeast_82 ?_
        refine fx_gI (pc := 83) F 1 4 4 rfl kC_X1 rfl wF_X1_48 dX1_findLeast_83 ?_
        obtain ⟨z23, e24, hf⟩ := fx_bnd hf
        obtain ⟨e24, hzz23⟩ := fx_zb_use e24
        refine fx_top (X := fx_X) e24 ?_
        cases hf
        exact fx_zreturn (pc := 86) F hzz23 K dX1_findLeast_86
      refine fx_aload_n (pc := 48) (t := 1) F 0 rfl rfl dX1_findLeast_48 ?_
      refine fx_gI (pc := 49) F 1 4 4 rfl kC_X1 rfl wF_X1_48 dX1_findLeast_49 ?_
      refine fx_nzne (pc := 52) F 82 (by decide) dX1_findLeast_52 (fun c17 => ?_) (fun c17 => ?_)
      · have e15 := (if_pos c17).symm.trans e15
        refine fx_aload_n (pc := 55) (t := 1) F 0 rfl rfl dX1_findLeast_55 ?_
        refine fx_aload_n (pc := 56) (t := 1) F 0 rfl rfl dX1_findLeast_56 ?_
        refine fx_aload_n (pc := 57) (t := 4) F 1 rfl rfl dX1_findLeast_57 ?_
        refine fx_aload_n (pc := 58) (t := 0) F 2 rfl rfl dX1_findLeast_58 ?_
        refine fx_aload_n (pc := 59) (t := 4) F 1 rfl rfl dX1_findLeast_59 ?_
        refine fx_gI (pc := 60) F 4 3 3 rfl kC_X4 rfl wF_X1_52 dX1_findLeast_60 ?_
        refine fx_ldc (pc := 63) (z := 1000000) F (by decide) ⟨by decide, by decide⟩ wK_X1_67 dX1_findLeast_63 ?_
        obtain ⟨⟨v18, h19⟩, e20, e15⟩ := fx_bnd e15
        refine fx_cV (pc := 65) F 1 kC_X1 [(6, town_0), (2, court_0), (0, ((fx_up h4 this_0 4 z12) town_0 3)), (0, 1000000)] this_0 [(3, this_0)] (m_X1_search Fu Λ this_0 town_0 court_0 ((fx_up h4 this_0 4 z12) town_0 3) 1000000 (fx_up h4 this_0 4 z12) _ _ e20) kD_X1_search kI_X1_search rfl wM_X1_68 ⟨rfl, rfl⟩ ⟨by decide, by decide⟩ (Nat.le_of_ble_eq_true rfl) rfl dX1_findLeast_65 ?_
        refine fx_pI (pc := 68) F 1 2 2 rfl kC_X1 rfl rfl (by decide +kernel) wF_X1_72 dX1_findLeast_68 ?_
        refine fx_aload_n (pc := 71) (t := 1) F 0 rfl rfl dX1_findLeast_71 ?_
        refine fx_gR (pc := 72) F 1 3 3 11 rfl kC_X1 (by decide) rfl wF_X1_19 dX1_findLeast_72 ?_
        refine fx_aload_n (pc := 75) (t := 1) F 0 rfl rfl dX1_findLeast_75 ?_
        refine fx_gR (pc := 76) F 1 1 1 11 rfl kC_X1 (by decide) rfl wF_X1_16 dX1_findLeast_76 ?_
        obtain ⟨h21, e22, e15⟩ := fx_bnd e15
        refine fx_cSv (pc := 79) F [(13, (fx_tg Λ this_0 3)), (13, (fx_tg Λ this_0 1))] [] (m_X1_copyDay Fu Λ (fx_tg Λ this_0 3) (fx_tg Λ this_0 1) (fx_up h19 this_0 2 v18) _ e22) kD_X1_copyDay wSt_X1_copyDay wM_X1_75 ⟨rfl, rfl⟩ ⟨by decide, by decide⟩ (Nat.le_of_ble_eq_true rfl) rfl dX1_findLeast_79 ?_
        cases e15
        exact hJ16
      · have e15 := (if_neg c17).symm.trans e15
        cases e15
        exact hJ16
    refine fx_aload_n (pc := 28) (t := 1) F 0 rfl rfl dX1_findLeast_28 ?_
    refine fx_aload_n (pc := 29) (t := 4) F 1 rfl rfl dX1_findLeast_29 ?_
    obtain ⟨v9, e10, e7⟩ := fx_bnd e7
    refine fx_cV (pc := 30) F 1 kC_X1 [(6, town_0)] this_0 [(3, this_0)] (m_X1_waysTogether Fu Λ this_0 town_0 h4 _ e10) kD_X1_waysTogether kI_X1_waysTogether rfl wM_X1_61 ⟨rfl, rfl⟩ ⟨by decide, by decide⟩ (Nat.le_of_ble_eq_true rfl) rfl dX1_findLeast_30 ?_
    refine fx_ldc2 (pc := 33) (z := 50000) F (by decide) ⟨by decide, by decide⟩ wK_X1_65 dX1_findLeast_33 ?_
    refine fx_nlle (pc := 36) F 44 (by decide) dX1_findLeast_36 dX1_findLeast_37 (fun c11 => ?_) (fun c11 => ?_)
    · have e7 := (if_pos c11).symm.trans e7
      refine fx_iconst (pc := 40) F ⟨by decide, by decide⟩ dX1_findLeast_40 ?_
      cases e7
      refine fx_goto (pc := 41) F 45 (by decide) dX1_findLeast_41 ?_
      exact hJ8
    · have e7 := (if_neg c11).symm.trans e7
      refine fx_iconst (pc := 44) F ⟨by decide, by decide⟩ dX1_findLeast_44 ?_
      cases e7
      exact hJ8
def f_X5_least (Fu : Nat) (Λ : fx_L) (this_0 : Int) (person_0 : Int) (hour_0 : Int) (h : fx_H) : Option (Int × fx_H) :=
  Option.bind (
    if ((person_0 = (-1)) ∧ (hour_0 = 0)) then
      some (1 : Int)
    else
      some (0 : Int)
  ) fun v1 =>
  Option.bind (
    Option.bind (
      (f_X4_hasPerson Fu Λ (fx_tg Λ this_0 0) person_0 h).bind fun v16 =>
      if ¬ v16 = 0 then
        (f_X4_hasHour Fu Λ (fx_tg Λ this_0 0) hour_0 h).bind fun v19 =>
        if ¬ v19 = 0 then
          some true
        else
          some false
      else
        some false
    ) fun b12 =>
    if b12 = true then
      some (1 : Int)
    else
      some (0 : Int)
  ) fun v9 =>
  if ((v1 = 0) ∧ (v9 = 0)) then
    (f_X5_refuseBad Fu Λ this_0 (-2) h).bind fun (v28, h29) =>
    some (v28, h29)
  else
    (f_X0_sit Fu Λ (fx_tg Λ this_0 5) (fx_tg Λ this_0 0) (h (fx_tg Λ this_0 0) 1) (-1) h).bind fun h31 =>
    (f_X1_findLeast Fu Λ (fx_tg Λ this_0 6) (fx_tg Λ this_0 0) (fx_tg Λ this_0 5) (h31 this_0 13) h31).bind fun (v33, h34) =>
    if v33 = 0 then
      (f_X5_refuseNo Fu Λ this_0 h34).bind fun (v37, h38) =>
      some (v37, h38)
    else
      Option.bind (
        if ¬ v1 = 0 then
          some (h34 (fx_tg Λ this_0 6) 2)
        else
          (fx_rr Λ (fx_tg Λ (fx_tg Λ this_0 6) 1) hour_0).bind fun v44 =>
          (fx_rd Λ h34 v44 person_0).bind fun v46 =>
          some v46
      ) fun v40 =>
      some (v40, h34)
abbrev rm_X5_least : Room := { frames := 6, cells := 0, slots := 0, locals := 155 }
set_option maxRecDepth 100000 in
set_option maxHeartbeats 4000000 in
theorem m_X5_least (Fu : Nat) (Λ : fx_L) (this_0 : Int) (person_0 : Int) (hour_0 : Int) (h : fx_H) (r : Int) (ho : fx_H) (hf : f_X5_least Fu Λ this_0 person_0 hour_0 h = some (r, ho)) : fx_Met yX5_least cX5_least 5 (some .int) rm_X5_least Λ [(7, this_0), (0, person_0), (0, hour_0)] h (some (0, r)) ho := by
  unfold f_X5_least at hf
  refine fx_enter (ls := [some (7, this_0), some (0, person_0), some (0, hour_0), none, none]) (by decide) (Nat.le_of_ble_eq_true rfl) rfl (fun M G F K => ?_)
  obtain ⟨v1, e2, hf⟩ := fx_bnd hf
  have hJ3 : fx_J M G Λ 5 14 [some (7, this_0), some (0, person_0), some (0, hour_0), none, none] [(0, v1)] h := by
    refine fx_istore_n (pc := 14) (ls' := [some (7, this_0), some (0, person_0), some (0, hour_0), some (0, v1), none]) F 3 rfl (by decide) rfl rfl dX5_least_14 ?_
    obtain ⟨v9, e10, hf⟩ := fx_bnd hf
    have hJ11 : fx_J M G Λ 5 42 [some (7, this_0), some (0, person_0), some (0, hour_0), some (0, v1), none] [(0, v9)] h := by
      refine fx_istore (pc := 42) (ls' := [some (7, this_0), some (0, person_0), some (0, hour_0), some (0, v1), some (0, v9)]) F (by decide) rfl rfl dX5_least_42 ?_
      refine fx_iload_n (pc := 44) F 3 rfl rfl dX5_least_44 ?_
      have hT23 : (((v1 = 0) ∧ (v9 = 0))) → fx_J M G Λ 5 53 [some (7, this_0), some (0, person_0), some (0, hour_0), some (0, v1), some (0, v9)] [] h := fun c27 => by
        have hf := (if_pos c27).symm.trans hf
        refine fx_aload_n (pc := 53) (t := 5) F 0 rfl rfl dX5_least_53 ?_
        refine fx_bipush (pc := 54) F ⟨by decide, by decide⟩ (by decide) dX5_least_54 ?_
        obtain ⟨⟨v28, h29⟩, e30, hf⟩ := fx_bnd hf
        refine fx_cV (pc := 56) F 5 kC_X5 [(0, (-2))] this_0 [] (m_X5_refuseBad Fu Λ this_0 (-2) h _ _ e30) kD_X5_refuseBad kI_X5_refuseBad rfl wM_X5_63 ⟨rfl, rfl⟩ ⟨by decide, by decide⟩ (Nat.le_of_ble_eq_true rfl) rfl dX5_least_56 ?_
        cases hf
        exact fx_ireturn (pc := 59) F K dX5_least_59
      have hF24 : ¬ (((v1 = 0) ∧ (v9 = 0))) → fx_J M G Λ 5 60 [some (7, this_0), some (0, person_0), some (0, hour_0), some (0, v1), some (0, v9)] [] h := fun c27 => by
        have hf := (if_neg c27).symm.trans hf
        refine fx_aload_n (pc := 60) (t := 5) F 0 rfl rfl dX5_least_60 ?_
        refine fx_gR (pc := 61) F 5 5 5 0 rfl kC_X5 (by decide) rfl wF_X5_37 dX5_least_61 ?_
        refine fx_aload_n (pc := 64) (t := 5) F 0 rfl rfl dX5_least_64 ?_
        refine fx_gR (pc := 65) F 5 0 0 4 rfl kC_X5 (by decide) rfl wF_X5_10 dX5_least_65 ?_
        refine fx_aload_n (pc := 68) (t := 5) F 0 rfl rfl dX5_least_68 ?_
        refine fx_gR (pc := 69) F 5 0 0 4 rfl kC_X5 (by decide) rfl wF_X5_10 dX5_least_69 ?_
        refine fx_gI (pc := 72) F 4 1 1 rfl kC_X4 rfl wF_X5_147 dX5_least_72 ?_
        refine fx_iconst (pc := 75) F ⟨by decide, by decide⟩ dX5_least_75 ?_
        obtain ⟨h31, e32, hf⟩ := fx_bnd hf
        refine fx_cVv (pc := 76) F 0 kC_X0 [(6, (fx_tg Λ this_0 0)), (0, (h (fx_tg Λ this_0 0) 1)), (0, (-1))] (fx_tg Λ this_0 5) [] (m_X0_sit Fu Λ (fx_tg Λ this_0 5) (fx_tg Λ this_0 0) (h (fx_tg Λ this_0 0) 1) (-1) h _ e32) kD_X0_sit kI_X0_sit rfl wM_X5_150 ⟨rfl, rfl⟩ ⟨by decide, by decide⟩ (Nat.le_of_ble_eq_true rfl) rfl dX5_least_76 ?_
        refine fx_aload_n (pc := 79) (t := 5) F 0 rfl rfl dX5_least_79 ?_
        refine fx_gR (pc := 80) F 5 6 6 1 rfl kC_X5 (by decide) rfl wF_X5_44 dX5_least_80 ?_
        refine fx_aload_n (pc := 83) (t := 5) F 0 rfl rfl dX5_least_83 ?_
        refine fx_gR (pc := 84) F 5 0 0 4 rfl kC_X5 (by decide) rfl wF_X5_10 dX5_least_84 ?_
        refine fx_aload_n (pc := 87) (t := 5) F 0 rfl rfl dX5_least_87 ?_
        refine fx_gR (pc := 88) F 5 5 5 0 rfl kC_X5 (by decide) rfl wF_X5_37 dX5_least_88 ?_
        refine fx_aload_n (pc := 91) (t := 5) F 0 rfl rfl dX5_least_91 ?_
        refine fx_gI (pc := 92) F 5 13 13 rfl kC_X5 rfl wF_X5_75 dX5_least_92 ?_
        obtain ⟨⟨v33, h34⟩, e35, hf⟩ := fx_bnd hf
        refine fx_cV (pc := 95) F 1 kC_X1 [(6, (fx_tg Λ this_0 0)), (2, (fx_tg Λ this_0 5)), (0, (h31 this_0 13))] (fx_tg Λ this_0 6) [] (m_X1_findLeast Fu Λ (fx_tg Λ this_0 6) (fx_tg Λ this_0 0) (fx_tg Λ this_0 5) (h31 this_0 13) h31 _ _ e35) kD_X1_findLeast kI_X1_findLeast rfl wM_X5_165 ⟨rfl, rfl⟩ ⟨by decide, by decide⟩ (Nat.le_of_ble_eq_true rfl) rfl dX5_least_95 ?_
        refine fx_nzeq (pc := 98) F 106 (by decide) dX5_least_98 (fun c36 => ?_) (fun c36 => ?_)
        · have hf := (if_pos c36).symm.trans hf
          refine fx_aload_n (pc := 101) (t := 5) F 0 rfl rfl dX5_least_101 ?_
          obtain ⟨⟨v37, h38⟩, e39, hf⟩ := fx_bnd hf
          refine fx_cV (pc := 102) F 5 kC_X5 [] this_0 [] (m_X5_refuseNo Fu Λ this_0 h34 _ _ e39) kD_X5_refuseNo kI_X5_refuseNo rfl wM_X5_120 ⟨rfl, rfl⟩ ⟨by decide, by decide⟩ (Nat.le_of_ble_eq_true rfl) rfl dX5_least_102 ?_
          cases hf
          exact fx_ireturn (pc := 105) F K dX5_least_105
        · have hf := (if_neg c36).symm.trans hf
          obtain ⟨v40, e41, hf⟩ := fx_bnd hf
          have hJ42 : fx_J M G Λ 5 131 [some (7, this_0), some (0, person_0), some (0, hour_0), some (0, v1), some (0, v9)] [(0, v40)] h34 := by
            cases hf
            exact fx_ireturn (pc := 131) F K dX5_least_131
          refine fx_iload_n (pc := 106) F 3 rfl rfl dX5_least_106 ?_
          refine fx_nzne (pc := 107) F 120 (by decide) dX5_least_107 (fun c43 => ?_) (fun c43 => ?_)
          · have e41 := (if_pos c43).symm.trans e41
            refine fx_aload_n (pc := 110) (t := 5) F 0 rfl rfl dX5_least_110 ?_
            refine fx_gR (pc := 111) F 5 6 6 1 rfl kC_X5 (by decide) rfl wF_X5_44 dX5_least_111 ?_
            refine fx_gI (pc := 114) F 1 2 2 rfl kC_X1 rfl wF_X5_169 dX5_least_114 ?_
            cases e41
            refine fx_goto (pc := 117) F 131 (by decide) dX5_least_117 ?_
            exact hJ42
          · have e41 := (if_neg c43).symm.trans e41
            refine fx_aload_n (pc := 120) (t := 5) F 0 rfl rfl dX5_least_120 ?_
            refine fx_gR (pc := 121) F 5 6 6 1 rfl kC_X5 (by decide) rfl wF_X5_44 dX5_least_121 ?_
            refine fx_gR (pc := 124) F 1 1 1 11 rfl kC_X1 (by decide) rfl wF_X5_172 dX5_least_124 ?_
            refine fx_iload_n (pc := 127) F 2 rfl rfl dX5_least_127 ?_
            obtain ⟨v44, e45, e41⟩ := fx_bnd e41
            refine fx_raldG (pc := 128) F e45 dX5_least_128 ?_
            refine fx_iload_n (pc := 129) F 1 rfl rfl dX5_least_129 ?_
            obtain ⟨v46, e47, e41⟩ := fx_bnd e41
            refine fx_raldI (pc := 130) F e47 dX5_least_130 ?_
            cases e41
            exact hJ42
      refine fx_nzeq (pc := 45) F 60 (by decide) dX5_least_45 (fun c25 => ?_) (fun c25 => ?_)
      · refine fx_iload (pc := 48) F rfl dX5_least_48 ?_
        refine fx_nzeq (pc := 50) F 60 (by decide) dX5_least_50 (fun c26 => ?_) (fun c26 => ?_)
        · exact hT23 ⟨c25, c26⟩
        · exact hF24 (fun q => c26 q.2)
      · exact hF24 (fun q => c25 q.1)
    obtain ⟨b12, e13, e10⟩ := fx_bnd e10
    have hT14 : b12 = true → fx_J M G Λ 5 37 [some (7, this_0), some (0, person_0), some (0, hour_0), some (0, v1), none] [] h := fun c22 => by
      have e10 := (if_pos c22).symm.trans e10
      refine fx_iconst (pc := 37) F ⟨by decide, by decide⟩ dX5_least_37 ?_
      cases e10
      refine fx_goto (pc := 38) F 42 (by decide) dX5_least_38 ?_
      exact hJ11
    have hF15 : ¬ b12 = true → fx_J M G Λ 5 41 [some (7, this_0), some (0, person_0), some (0, hour_0), some (0, v1), none] [] h := fun c22 => by
      have e10 := (if_neg c22).symm.trans e10
      refine fx_iconst (pc := 41) F ⟨by decide, by decide⟩ dX5_least_41 ?_
      cases e10
      exact hJ11
    refine fx_aload_n (pc := 15) (t := 5) F 0 rfl rfl dX5_least_15 ?_
    refine fx_gR (pc := 16) F 5 0 0 4 rfl kC_X5 (by decide) rfl wF_X5_10 dX5_least_16 ?_
    refine fx_iload_n (pc := 19) F 1 rfl rfl dX5_least_19 ?_
    obtain ⟨v16, e17, e13⟩ := fx_bnd e13
    refine fx_cV (pc := 20) F 4 kC_X4 [(0, person_0)] (fx_tg Λ this_0 0) [] (m_X4_hasPerson Fu Λ (fx_tg Λ this_0 0) person_0 h _ e17) kD_X4_hasPerson kI_X4_hasPerson rfl wM_X5_100 ⟨rfl, rfl⟩ ⟨by decide, by decide⟩ (Nat.le_of_ble_eq_true rfl) rfl dX5_least_20 ?_
    refine fx_nzne (pc := 23) F 41 (by decide) dX5_least_23 (fun c18 => ?_) (fun c18 => ?_)
    · have e13 := (if_pos c18).symm.trans e13
      refine fx_aload_n (pc := 26) (t := 5) F 0 rfl rfl dX5_least_26 ?_
      refine fx_gR (pc := 27) F 5 0 0 4 rfl kC_X5 (by decide) rfl wF_X5_10 dX5_least_27 ?_
      refine fx_iload_n (pc := 30) F 2 rfl rfl dX5_least_30 ?_
      obtain ⟨v19, e20, e13⟩ := fx_bnd e13
      refine fx_cV (pc := 31) F 4 kC_X4 [(0, hour_0)] (fx_tg Λ this_0 0) [] (m_X4_hasHour Fu Λ (fx_tg Λ this_0 0) hour_0 h _ e20) kD_X4_hasHour kI_X4_hasHour rfl wM_X5_90 ⟨rfl, rfl⟩ ⟨by decide, by decide⟩ (Nat.le_of_ble_eq_true rfl) rfl dX5_least_31 ?_
      refine fx_nzne (pc := 34) F 41 (by decide) dX5_least_34 (fun c21 => ?_) (fun c21 => ?_)
      · have e13 := (if_pos c21).symm.trans e13
        cases e13
        exact hT14 (by decide)
      · have e13 := (if_neg c21).symm.trans e13
        cases e13
        exact hF15 (by decide)
    · have e13 := (if_neg c18).symm.trans e13
      cases e13
      exact hF15 (by decide)
  refine fx_iload_n (pc := 0) F 1 rfl rfl dX5_least_0 ?_
  refine fx_iconst (pc := 1) F ⟨by decide, by decide⟩ dX5_least_1 ?_
  have hT4 : (((person_0 = (-1)) ∧ (hour_0 = 0))) → fx_J M G Λ 5 9 [some (7, this_0), some (0, person_0), some (0, hour_0), none, none] [] h := fun c8 => by
    have e2 := (if_pos c8).symm.trans e2
    refine fx_iconst (pc := 9) F ⟨by decide, by decide⟩ dX5_least_9 ?_
    cases e2
    refine fx_goto (pc := 10) F 14 (by decide) dX5_least_10 ?_
    exact hJ3
  have hF5 : ¬ (((person_0 = (-1)) ∧ (hour_0 = 0))) → fx_J M G Λ 5 13 [some (7, this_0), some (0, person_0), some (0, hour_0), none, none] [] h := fun c8 => by
    have e2 := (if_neg c8).symm.trans e2
    refine fx_iconst (pc := 13) F ⟨by decide, by decide⟩ dX5_least_13 ?_
    cases e2
    exact hJ3
  refine fx_neq (pc := 2) F 13 (by decide) dX5_least_2 (fun c6 => ?_) (fun c6 => ?_)
  · refine fx_iload_n (pc := 5) F 2 rfl rfl dX5_least_5 ?_
    refine fx_nzeq (pc := 6) F 13 (by decide) dX5_least_6 (fun c7 => ?_) (fun c7 => ?_)
    · exact hT4 ⟨c6, c7⟩
    · exact hF5 (fun q => c7 q.2)
  · exact hF5 (fun q => c6 q.1)
def s_X1_fewestHours_1 (Fu : Nat) (Λ : fx_L) (this_3 : Int) (town_4 : Int) (court_5 : Int) : Int × fx_H → Option ((Int × fx_H) ⊕ ((Int × fx_H) ⊕ (Int × fx_H))) := fun (hours_1, h2) =>
  if hours_1 ≤ 5 then
    (f_X1_writeRows Fu Λ this_3 town_4 hours_1 h2).bind fun h8 =>
    (f_X1_waysTogether Fu Λ this_3 town_4 h8).bind fun v10 =>
    if 50000 < v10 then
      some (.inr (.inr ((-3), h8)))
    else
      (f_X1_search Fu Λ this_3 town_4 court_5 hours_1 1 h8).bind fun (v13, h14) =>
      if v13 = 0 then
        some (.inr (.inr (hours_1, h14)))
      else
        some (.inl ((fx_w (hours_1 + 1)), h14))
  else
    some (.inr (.inl (hours_1, h2)))
def f_X1_fewestHours (Fu : Nat) (Λ : fx_L) (this_0 : Int) (town_0 : Int) (court_0 : Int) (h : fx_H) : Option (Int × fx_H) :=
  Option.bind (fx_loop (s_X1_fewestHours_1 Fu Λ this_0 town_0 court_0) Fu (1, h)) fun x9 =>
  match x9 with
  | .inl (hours_30, h31) =>
    some ((-1), h31)
  | .inr r9 => some r9
abbrev rm_X1_fewestHours : Room := { frames := 5, cells := 0, slots := 0, locals := 132 }
set_option maxRecDepth 100000 in
set_option maxHeartbeats 4000000 in
theorem m_X1_fewestHours (Fu : Nat) (Λ : fx_L) (this_0 : Int) (town_0 : Int) (court_0 : Int) (h : fx_H) (r : Int) (ho : fx_H) (hf : f_X1_fewestHours Fu Λ this_0 town_0 court_0 h = some (r, ho)) : fx_Met yX1_fewestHours cX1_fewestHours 4 (some .int) rm_X1_fewestHours Λ [(3, this_0), (6, town_0), (2, court_0)] h (some (0, r)) ho := by
  unfold f_X1_fewestHours at hf
  refine fx_enter (ls := [some (3, this_0), some (6, town_0), some (2, court_0), none]) (by decide) (Nat.le_of_ble_eq_true rfl) rfl (fun M G F K => ?_)
  refine fx_iconst (pc := 0) F ⟨by decide, by decide⟩ dX1_fewestHours_0 ?_
  refine fx_istore_n (pc := 1) (ls' := [some (3, this_0), some (6, town_0), some (2, court_0), some (0, 1)]) F 3 rfl (by decide) rfl rfl dX1_fewestHours_1 ?_
  obtain ⟨x9, e32, hf⟩ := fx_bnd hf
  have hE33 : (fun y : (Int × fx_H) ⊕ (Int × fx_H) => match y with | .inl z => fx_J M G Λ 4 47 [some (3, this_0), some (6, town_0), some (2, court_0), some (0, z.1)] [] z.2 | .inr r9 => some r9 = some (r, ho)) x9 := by
    cases x9 with
    | inr r9 => exact hf
    | inl y9 =>
      obtain ⟨hours_30, h31⟩ := y9
      show fx_J M G Λ 4 47 [some (3, this_0), some (6, town_0), some (2, court_0), some (0, hours_30)] [] h31
      refine fx_iconst (pc := 47) F ⟨by decide, by decide⟩ dX1_fewestHours_47 ?_
      cases hf
      exact fx_ireturn (pc := 48) F K dX1_fewestHours_48
  refine fx_loop_J (Hd := (fun z : Int × fx_H => fx_J M G Λ 4 2 [some (3, this_0), some (6, town_0), some (2, court_0), some (0, z.1)] [] z.2)) (Ex := (fun y : (Int × fx_H) ⊕ (Int × fx_H) => match y with | .inl z => fx_J M G Λ 4 47 [some (3, this_0), some (6, town_0), some (2, court_0), some (0, z.1)] [] z.2 | .inr r9 => some r9 = some (r, ho))) ?_ Fu _ _ e32 hE33
  rintro ⟨hours_17, h18⟩ o9 eq19 ih ex
  unfold s_X1_fewestHours_1 at eq19
  show fx_J M G Λ 4 2 [some (3, this_0), some (6, town_0), some (2, court_0), some (0, hours_17)] [] h18
  refine fx_iload_n (pc := 2) F 3 rfl rfl dX1_fewestHours_2 ?_
  refine fx_iconst (pc := 3) F ⟨by decide, by decide⟩ dX1_fewestHours_3 ?_
  refine fx_nle (pc := 4) F 47 (by decide) dX1_fewestHours_4 (fun c20 => ?_) (fun c20 => ?_)
  · have eq19 := (if_pos c20).symm.trans eq19
    refine fx_aload_n (pc := 7) (t := 1) F 0 rfl rfl dX1_fewestHours_7 ?_
    refine fx_aload_n (pc := 8) (t := 4) F 1 rfl rfl dX1_fewestHours_8 ?_
    refine fx_iload_n (pc := 9) F 3 rfl rfl dX1_fewestHours_9 ?_
    obtain ⟨h21, e22, eq19⟩ := fx_bnd eq19
    refine fx_cVv (pc := 10) F 1 kC_X1 [(6, town_0), (0, hours_17)] this_0 [] (m_X1_writeRows Fu Λ this_0 town_0 hours_17 h18 _ e22) kD_X1_writeRows kI_X1_writeRows rfl wM_X1_57 ⟨rfl, rfl⟩ ⟨by decide, by decide⟩ (Nat.le_of_ble_eq_true rfl) rfl dX1_fewestHours_10 ?_
    refine fx_aload_n (pc := 13) (t := 1) F 0 rfl rfl dX1_fewestHours_13 ?_
    refine fx_aload_n (pc := 14) (t := 4) F 1 rfl rfl dX1_fewestHours_14 ?_
    obtain ⟨v23, e24, eq19⟩ := fx_bnd eq19
    refine fx_cV (pc := 15) F 1 kC_X1 [(6, town_0)] this_0 [] (m_X1_waysTogether Fu Λ this_0 town_0 h21 _ e24) kD_X1_waysTogether kI_X1_waysTogether rfl wM_X1_61 ⟨rfl, rfl⟩ ⟨by decide, by decide⟩ (Nat.le_of_ble_eq_true rfl) rfl dX1_fewestHours_15 ?_
    refine fx_ldc2 (pc := 18) (z := 50000) F (by decide) ⟨by decide, by decide⟩ wK_X1_65 dX1_fewestHours_18 ?_
    refine fx_nlgt (pc := 21) F 28 (by decide) dX1_fewestHours_21 dX1_fewestHours_22 (fun c25 => ?_) (fun c25 => ?_)
    · have eq19 := (if_pos c25).symm.trans eq19
      refine fx_bipush (pc := 25) F ⟨by decide, by decide⟩ (by decide) dX1_fewestHours_25 ?_
      cases eq19
      have q9 := ex _ rfl
      cases q9
      exact fx_ireturn (pc := 27) F K dX1_fewestHours_27
    · have eq19 := (if_neg c25).symm.trans eq19
      refine fx_aload_n (pc := 28) (t := 1) F 0 rfl rfl dX1_fewestHours_28 ?_
      refine fx_aload_n (pc := 29) (t := 4) F 1 rfl rfl dX1_fewestHours_29 ?_
      refine fx_aload_n (pc := 30) (t := 0) F 2 rfl rfl dX1_fewestHours_30 ?_
      refine fx_iload_n (pc := 31) F 3 rfl rfl dX1_fewestHours_31 ?_
      refine fx_iconst (pc := 32) F ⟨by decide, by decide⟩ dX1_fewestHours_32 ?_
      obtain ⟨⟨v26, h27⟩, e28, eq19⟩ := fx_bnd eq19
      refine fx_cV (pc := 33) F 1 kC_X1 [(6, town_0), (2, court_0), (0, hours_17), (0, 1)] this_0 [] (m_X1_search Fu Λ this_0 town_0 court_0 hours_17 1 h21 _ _ e28) kD_X1_search kI_X1_search rfl wM_X1_68 ⟨rfl, rfl⟩ ⟨by decide, by decide⟩ (Nat.le_of_ble_eq_true rfl) rfl dX1_fewestHours_33 ?_
      refine fx_nzeq (pc := 36) F 41 (by decide) dX1_fewestHours_36 (fun c29 => ?_) (fun c29 => ?_)
      · have eq19 := (if_pos c29).symm.trans eq19
        refine fx_iload_n (pc := 39) F 3 rfl rfl dX1_fewestHours_39 ?_
        cases eq19
        have q9 := ex _ rfl
        cases q9
        exact fx_ireturn (pc := 40) F K dX1_fewestHours_40
      · have eq19 := (if_neg c29).symm.trans eq19
        refine fx_iinc (pc := 41) (ls' := [some (3, this_0), some (6, town_0), some (2, court_0), some (0, (fx_w (hours_17 + 1)))]) F (by decide) rfl rfl rfl dX1_fewestHours_41 ?_
        refine fx_goto (pc := 44) F 2 (by decide) dX1_fewestHours_44 ?_
        cases eq19
        exact ih _ rfl
  · have eq19 := (if_neg c20).symm.trans eq19
    cases eq19
    exact ex _ rfl
def f_X5_fewest (Fu : Nat) (Λ : fx_L) (this_0 : Int) (h : fx_H) : Option (Int × fx_H) :=
  (f_X0_sit Fu Λ (fx_tg Λ this_0 5) (fx_tg Λ this_0 0) (h (fx_tg Λ this_0 0) 1) (-1) h).bind fun h1 =>
  (f_X1_fewestHours Fu Λ (fx_tg Λ this_0 6) (fx_tg Λ this_0 0) (fx_tg Λ this_0 5) h1).bind fun (v3, h4) =>
  Option.bind (
    if v3 = (-3) then
      (f_X5_refuseNo Fu Λ this_0 h4).bind fun (v11, h12) =>
      some (v11, h12)
    else
      some (v3, h4)
  ) fun (v6, h7) =>
  some (v6, h7)
abbrev rm_X5_fewest : Room := { frames := 6, cells := 0, slots := 0, locals := 155 }
set_option maxRecDepth 100000 in
set_option maxHeartbeats 4000000 in
theorem m_X5_fewest (Fu : Nat) (Λ : fx_L) (this_0 : Int) (h : fx_H) (r : Int) (ho : fx_H) (hf : f_X5_fewest Fu Λ this_0 h = some (r, ho)) : fx_Met yX5_fewest cX5_fewest 2 (some .int) rm_X5_fewest Λ [(7, this_0)] h (some (0, r)) ho := by
  unfold f_X5_fewest at hf
  refine fx_enter (ls := [some (7, this_0), none]) (by decide) (Nat.le_of_ble_eq_true rfl) rfl (fun M G F K => ?_)
  refine fx_aload_n (pc := 0) (t := 5) F 0 rfl rfl dX5_fewest_0 ?_
  refine fx_gR (pc := 1) F 5 5 5 0 rfl kC_X5 (by decide) rfl wF_X5_37 dX5_fewest_1 ?_
  refine fx_aload_n (pc := 4) (t := 5) F 0 rfl rfl dX5_fewest_4 ?_
  refine fx_gR (pc := 5) F 5 0 0 4 rfl kC_X5 (by decide) rfl wF_X5_10 dX5_fewest_5 ?_
  refine fx_aload_n (pc := 8) (t := 5) F 0 rfl rfl dX5_fewest_8 ?_
  refine fx_gR (pc := 9) F 5 0 0 4 rfl kC_X5 (by decide) rfl wF_X5_10 dX5_fewest_9 ?_
  refine fx_gI (pc := 12) F 4 1 1 rfl kC_X4 rfl wF_X5_147 dX5_fewest_12 ?_
  refine fx_iconst (pc := 15) F ⟨by decide, by decide⟩ dX5_fewest_15 ?_
  obtain ⟨h1, e2, hf⟩ := fx_bnd hf
  refine fx_cVv (pc := 16) F 0 kC_X0 [(6, (fx_tg Λ this_0 0)), (0, (h (fx_tg Λ this_0 0) 1)), (0, (-1))] (fx_tg Λ this_0 5) [] (m_X0_sit Fu Λ (fx_tg Λ this_0 5) (fx_tg Λ this_0 0) (h (fx_tg Λ this_0 0) 1) (-1) h _ e2) kD_X0_sit kI_X0_sit rfl wM_X5_150 ⟨rfl, rfl⟩ ⟨by decide, by decide⟩ (Nat.le_of_ble_eq_true rfl) rfl dX5_fewest_16 ?_
  refine fx_aload_n (pc := 19) (t := 5) F 0 rfl rfl dX5_fewest_19 ?_
  refine fx_gR (pc := 20) F 5 6 6 1 rfl kC_X5 (by decide) rfl wF_X5_44 dX5_fewest_20 ?_
  refine fx_aload_n (pc := 23) (t := 5) F 0 rfl rfl dX5_fewest_23 ?_
  refine fx_gR (pc := 24) F 5 0 0 4 rfl kC_X5 (by decide) rfl wF_X5_10 dX5_fewest_24 ?_
  refine fx_aload_n (pc := 27) (t := 5) F 0 rfl rfl dX5_fewest_27 ?_
  refine fx_gR (pc := 28) F 5 5 5 0 rfl kC_X5 (by decide) rfl wF_X5_37 dX5_fewest_28 ?_
  obtain ⟨⟨v3, h4⟩, e5, hf⟩ := fx_bnd hf
  refine fx_cV (pc := 31) F 1 kC_X1 [(6, (fx_tg Λ this_0 0)), (2, (fx_tg Λ this_0 5))] (fx_tg Λ this_0 6) [] (m_X1_fewestHours Fu Λ (fx_tg Λ this_0 6) (fx_tg Λ this_0 0) (fx_tg Λ this_0 5) h1 _ _ e5) kD_X1_fewestHours kI_X1_fewestHours rfl wM_X5_175 ⟨rfl, rfl⟩ ⟨by decide, by decide⟩ (Nat.le_of_ble_eq_true rfl) rfl dX5_fewest_31 ?_
  refine fx_istore_n (pc := 34) (ls' := [some (7, this_0), some (0, v3)]) F 1 rfl (by decide) rfl rfl dX5_fewest_34 ?_
  obtain ⟨⟨v6, h7⟩, e8, hf⟩ := fx_bnd hf
  have hJ9 : fx_J M G Λ 2 49 [some (7, this_0), some (0, v3)] [(0, v6)] h7 := by
    cases hf
    exact fx_ireturn (pc := 49) F K dX5_fewest_49
  refine fx_iload_n (pc := 35) F 1 rfl rfl dX5_fewest_35 ?_
  refine fx_bipush (pc := 36) F ⟨by decide, by decide⟩ (by decide) dX5_fewest_36 ?_
  refine fx_neq (pc := 38) F 48 (by decide) dX5_fewest_38 (fun c10 => ?_) (fun c10 => ?_)
  · have e8 := (if_pos c10).symm.trans e8
    refine fx_aload_n (pc := 41) (t := 5) F 0 rfl rfl dX5_fewest_41 ?_
    obtain ⟨⟨v11, h12⟩, e13, e8⟩ := fx_bnd e8
    refine fx_cV (pc := 42) F 5 kC_X5 [] this_0 [] (m_X5_refuseNo Fu Λ this_0 h4 _ _ e13) kD_X5_refuseNo kI_X5_refuseNo rfl wM_X5_120 ⟨rfl, rfl⟩ ⟨by decide, by decide⟩ (Nat.le_of_ble_eq_true rfl) rfl dX5_fewest_42 ?_
    cases e8
    refine fx_goto (pc := 45) F 49 (by decide) dX5_fewest_45 ?_
    exact hJ9
  · have e8 := (if_neg c10).symm.trans e8
    refine fx_iload_n (pc := 48) F 1 rfl rfl dX5_fewest_48 ?_
    cases e8
    exact hJ9
def s_X1_startOrders_1 (Fu : Nat) (Λ : fx_L) (this_5 : Int) : Int × fx_H → Option ((Int × fx_H) ⊕ (Int × fx_H)) := fun (i_3, h4) =>
  if i_3 < 5 then
    (fx_wr Λ h4 (fx_tg Λ this_5 11) i_3 i_3).bind fun h8 =>
    some (.inl ((fx_w (i_3 + 1)), h8))
  else
    some (.inr (i_3, h4))
def f_X1_startOrders (Fu : Nat) (Λ : fx_L) (this_0 : Int) (town_0 : Int) (h : fx_H) : Option (fx_H) :=
  (f_X1_writeRows Fu Λ this_0 town_0 (h town_0 3) h).bind fun h1 =>
  Option.bind (fx_loop (s_X1_startOrders_1 Fu Λ this_0) Fu (0, h1)) fun (i_16, h17) =>
  some h17
abbrev rm_X1_startOrders : Room := { frames := 4, cells := 0, slots := 0, locals := 96 }
set_option maxRecDepth 100000 in
set_option maxHeartbeats 4000000 in
theorem m_X1_startOrders (Fu : Nat) (Λ : fx_L) (this_0 : Int) (town_0 : Int) (h : fx_H) (ho : fx_H) (hf : f_X1_startOrders Fu Λ this_0 town_0 h = some ho) : fx_Met yX1_startOrders cX1_startOrders 3 none rm_X1_startOrders Λ [(3, this_0), (6, town_0)] h none ho := by
  unfold f_X1_startOrders at hf
  refine fx_enter (ls := [some (3, this_0), some (6, town_0), none]) (by decide) (Nat.le_of_ble_eq_true rfl) rfl (fun M G F K => ?_)
  refine fx_aload_n (pc := 0) (t := 1) F 0 rfl rfl dX1_startOrders_0 ?_
  refine fx_aload_n (pc := 1) (t := 4) F 1 rfl rfl dX1_startOrders_1 ?_
  refine fx_aload_n (pc := 2) (t := 4) F 1 rfl rfl dX1_startOrders_2 ?_
  refine fx_gI (pc := 3) F 4 3 3 rfl kC_X4 rfl wF_X1_52 dX1_startOrders_3 ?_
  obtain ⟨h1, e2, hf⟩ := fx_bnd hf
  refine fx_cVv (pc := 6) F 1 kC_X1 [(6, town_0), (0, (h town_0 3))] this_0 [] (m_X1_writeRows Fu Λ this_0 town_0 (h town_0 3) h _ e2) kD_X1_writeRows kI_X1_writeRows rfl wM_X1_57 ⟨rfl, rfl⟩ ⟨by decide, by decide⟩ (Nat.le_of_ble_eq_true rfl) rfl dX1_startOrders_6 ?_
  refine fx_iconst (pc := 9) F ⟨by decide, by decide⟩ dX1_startOrders_9 ?_
  refine fx_istore_n (pc := 10) (ls' := [some (3, this_0), some (6, town_0), some (0, 0)]) F 2 rfl (by decide) rfl rfl dX1_startOrders_10 ?_
  obtain ⟨⟨i_16, h17⟩, e18, hf⟩ := fx_bnd hf
  have hE19 : fx_J M G Λ 3 29 [some (3, this_0), some (6, town_0), some (0, i_16)] [] h17 := by
    cases hf
    exact fx_vreturn (pc := 29) F K dX1_startOrders_29
  refine fx_loop_J (Hd := (fun z : Int × fx_H => fx_J M G Λ 3 11 [some (3, this_0), some (6, town_0), some (0, z.1)] [] z.2)) (Ex := (fun z : Int × fx_H => fx_J M G Λ 3 29 [some (3, this_0), some (6, town_0), some (0, z.1)] [] z.2)) ?_ Fu _ _ e18 hE19
  rintro ⟨i_10, h11⟩ o9 eq12 ih ex
  unfold s_X1_startOrders_1 at eq12
  show fx_J M G Λ 3 11 [some (3, this_0), some (6, town_0), some (0, i_10)] [] h11
  refine fx_iload_n (pc := 11) F 2 rfl rfl dX1_startOrders_11 ?_
  refine fx_iconst (pc := 12) F ⟨by decide, by decide⟩ dX1_startOrders_12 ?_
  refine fx_nlt (pc := 13) F 29 (by decide) dX1_startOrders_13 (fun c13 => ?_) (fun c13 => ?_)
  · have eq12 := (if_pos c13).symm.trans eq12
    refine fx_aload_n (pc := 16) (t := 1) F 0 rfl rfl dX1_startOrders_16 ?_
    refine fx_gR (pc := 17) F 1 11 11 8 rfl kC_X1 (by decide) rfl wF_X1_42 dX1_startOrders_17 ?_
    refine fx_iload_n (pc := 20) F 2 rfl rfl dX1_startOrders_20 ?_
    refine fx_iload_n (pc := 21) F 2 rfl rfl dX1_startOrders_21 ?_
    obtain ⟨h14, e15, eq12⟩ := fx_bnd eq12
    refine fx_rastI (pc := 22) F e15 dX1_startOrders_22 ?_
    refine fx_iinc (pc := 23) (ls' := [some (3, this_0), some (6, town_0), some (0, (fx_w (i_10 + 1)))]) F (by decide) rfl rfl rfl dX1_startOrders_23 ?_
    refine fx_goto (pc := 26) F 11 (by decide) dX1_startOrders_26 ?_
    cases eq12
    exact ih _ rfl
  · have eq12 := (if_neg c13).symm.trans eq12
    cases eq12
    exact ex _ rfl
def s_X1_setPrices_2 (Fu : Nat) (Λ : fx_L) (this_15 : Int) (town_16 : Int) (court_17 : Int) (person_18 : Int) (hour_19 : Int) (kind_20 : Int) (ahead_21 : Int) : Int × fx_H → Option ((Int × fx_H) ⊕ (Int × fx_H)) := fun (t_13, h14) =>
  if t_13 < (h14 town_16 0) then
    (fx_rr Λ (fx_tg Λ this_15 12) person_18).bind fun v24 =>
    (fx_rr Λ (fx_tg Λ this_15 0) hour_19).bind fun v26 =>
    (f_X0_fine Fu Λ court_17 kind_20 v26 ahead_21 person_18 t_13 h14).bind fun v28 =>
    (fx_wr Λ h14 v24 (fx_w ((fx_w (hour_19 * 10)) + t_13)) v28).bind fun h30 =>
    some (.inl ((fx_w (t_13 + 1)), h30))
  else
    some (.inr (t_13, h14))
def s_X1_setPrices_1 (Fu : Nat) (Λ : fx_L) (this_3 : Int) (town_4 : Int) (court_5 : Int) (person_6 : Int) : Int × fx_H → Option ((Int × fx_H) ⊕ (Int × fx_H)) := fun (hour_1, h2) =>
  if hour_1 < (h2 town_4 3) then
    (f_X4_kindOf Fu Λ town_4 hour_1 h2).bind fun v9 =>
    (f_X0_aheadOf Fu Λ court_5 (fx_tg Λ this_3 0) hour_1 h2).bind fun v11 =>
    Option.bind (fx_loop (s_X1_setPrices_2 Fu Λ this_3 town_4 court_5 person_6 hour_1 v9 v11) Fu (0, h2)) fun (t_44, h45) =>
    some (.inl ((fx_w (hour_1 + 1)), h45))
  else
    some (.inr (hour_1, h2))
def f_X1_setPrices (Fu : Nat) (Λ : fx_L) (this_0 : Int) (town_0 : Int) (court_0 : Int) (person_0 : Int) (h : fx_H) : Option (fx_H) :=
  Option.bind (fx_loop (s_X1_setPrices_1 Fu Λ this_0 town_0 court_0 person_0) Fu (0, h)) fun (hour_91, h92) =>
  some h92
abbrev rm_X1_setPrices : Room := { frames := 2, cells := 0, slots := 0, locals := 53 }
set_option maxRecDepth 100000 in
set_option maxHeartbeats 4000000 in
theorem m_X1_setPrices (Fu : Nat) (Λ : fx_L) (this_0 : Int) (town_0 : Int) (court_0 : Int) (person_0 : Int) (h : fx_H) (ho : fx_H) (hf : f_X1_setPrices Fu Λ this_0 town_0 court_0 person_0 h = some ho) : fx_Met yX1_setPrices cX1_setPrices 8 none rm_X1_setPrices Λ [(3, this_0), (6, town_0), (2, court_0), (0, person_0)] h none ho := by
  unfold f_X1_setPrices at hf
  refine fx_enter (ls := [some (3, this_0), some (6, town_0), some (2, court_0), some (0, person_0), none, none, none, none]) (by decide) (Nat.le_of_ble_eq_true rfl) rfl (fun M G F K => ?_)
  refine fx_iconst (pc := 0) F ⟨by decide, by decide⟩ dX1_setPrices_0 ?_
  refine fx_istore (pc := 1) (ls' := [some (3, this_0), some (6, town_0), some (2, court_0), some (0, person_0), some (0, 0), none, none, none]) F (by decide) rfl rfl dX1_setPrices_1 ?_
  obtain ⟨⟨hour_91, h92⟩, e93, hf⟩ := fx_bnd hf
  have hE94 : fx_J M G Λ 8 89 [some (3, this_0), some (6, town_0), some (2, court_0), some (0, person_0), some (0, hour_91), none, none, none] [] h92 := by
    cases hf
    exact fx_vreturn (pc := 89) F K dX1_setPrices_89
  refine fx_loop_J (Hd := (fun z : Int × fx_H => fx_J M G Λ 8 3 [some (3, this_0), some (6, town_0), some (2, court_0), some (0, person_0), some (0, z.1), none, none, none] [] z.2)) (Ex := (fun z : Int × fx_H => fx_J M G Λ 8 89 [some (3, this_0), some (6, town_0), some (2, court_0), some (0, person_0), some (0, z.1), none, none, none] [] z.2)) ?_ Fu _ _ e93 hE94
  rintro ⟨hour_48, h49⟩ o9 eq50 ih ex
  unfold s_X1_setPrices_1 at eq50
  show fx_J M G Λ 8 3 [some (3, this_0), some (6, town_0), some (2, court_0), some (0, person_0), some (0, hour_48), none, none, none] [] h49
  refine fx_iload (pc := 3) F rfl dX1_setPrices_3 ?_
  refine fx_aload_n (pc := 5) (t := 4) F 1 rfl rfl dX1_setPrices_5 ?_
  refine fx_gI (pc := 6) F 4 3 3 rfl kC_X4 rfl wF_X1_52 dX1_setPrices_6 ?_
  refine fx_nlt (pc := 9) F 89 (by decide) dX1_setPrices_9 (fun c51 => ?_) (fun c51 => ?_)
  · have eq50 := (if_pos c51).symm.trans eq50
    refine fx_aload_n (pc := 12) (t := 4) F 1 rfl rfl dX1_setPrices_12 ?_
    refine fx_iload (pc := 13) F rfl dX1_setPrices_13 ?_
    obtain ⟨v52, e53, eq50⟩ := fx_bnd eq50
    refine fx_cV (pc := 15) F 4 kC_X4 [(0, hour_48)] town_0 [] (m_X4_kindOf Fu Λ town_0 hour_48 h49 _ e53) kD_X4_kindOf kI_X4_kindOf rfl wM_X1_134 ⟨rfl, rfl⟩ ⟨by decide, by decide⟩ (Nat.le_of_ble_eq_true rfl) rfl dX1_setPrices_15 ?_
    refine fx_istore (pc := 18) (ls' := [some (3, this_0), some (6, town_0), some (2, court_0), some (0, person_0), some (0, hour_48), some (0, v52), none, none]) F (by decide) rfl rfl dX1_setPrices_18 ?_
    refine fx_aload_n (pc := 20) (t := 0) F 2 rfl rfl dX1_setPrices_20 ?_
    refine fx_aload_n (pc := 21) (t := 1) F 0 rfl rfl dX1_setPrices_21 ?_
    refine fx_gR (pc := 22) F 1 0 0 11 rfl kC_X1 (by decide) rfl wF_X1_11 dX1_setPrices_22 ?_
    refine fx_iload (pc := 25) F rfl dX1_setPrices_25 ?_
    obtain ⟨v54, e55, eq50⟩ := fx_bnd eq50
    refine fx_cV (pc := 27) F 0 kC_X0 [(13, (fx_tg Λ this_0 0)), (0, hour_48)] court_0 [] (m_X0_aheadOf Fu Λ court_0 (fx_tg Λ this_0 0) hour_48 h49 _ e55) kD_X0_aheadOf kI_X0_aheadOf rfl wM_X1_138 ⟨rfl, rfl⟩ ⟨by decide, by decide⟩ (Nat.le_of_ble_eq_true rfl) rfl dX1_setPrices_27 ?_
    refine fx_astore (pc := 30) (ls' := [some (3, this_0), some (6, town_0), some (2, court_0), some (0, person_0), some (0, hour_48), some (0, v52), some (10, v54), none]) (t := 8) F (by decide) rfl rfl dX1_setPrices_30 ?_
    refine fx_iconst (pc := 32) F ⟨by decide, by decide⟩ dX1_setPrices_32 ?_
    refine fx_istore (pc := 33) (ls' := [some (3, this_0), some (6, town_0), some (2, court_0), some (0, person_0), some (0, hour_48), some (0, v52), some (10, v54), some (0, 0)]) F (by decide) rfl rfl dX1_setPrices_33 ?_
    obtain ⟨⟨t_87, h88⟩, e89, eq50⟩ := fx_bnd eq50
    have hE90 : fx_J M G Λ 8 83 [some (3, this_0), some (6, town_0), some (2, court_0), some (0, person_0), some (0, hour_48), some (0, v52), some (10, v54), some (0, t_87)] [] h88 := by
      refine fx_iinc (pc := 83) (ls' := [some (3, this_0), some (6, town_0), some (2, court_0), some (0, person_0), some (0, (fx_w (hour_48 + 1))), some (0, v52), some (10, v54), some (0, t_87)]) F (by decide) rfl rfl rfl dX1_setPrices_83 ?_
      refine fx_goto (pc := 86) F 3 (by decide) dX1_setPrices_86 ?_
      cases eq50
      refine fx_drop (ls' := [some (3, this_0), some (6, town_0), some (2, court_0), some (0, person_0), some (0, (fx_w (hour_48 + 1))), none, none, none]) ⟨rfl, rfl, rfl, rfl, rfl, trivial⟩ ?_
      exact ih _ rfl
    refine fx_loop_J (Hd := (fun z : Int × fx_H => fx_J M G Λ 8 35 [some (3, this_0), some (6, town_0), some (2, court_0), some (0, person_0), some (0, hour_48), some (0, v52), some (10, v54), some (0, z.1)] [] z.2)) (Ex := (fun z : Int × fx_H => fx_J M G Λ 8 83 [some (3, this_0), some (6, town_0), some (2, court_0), some (0, person_0), some (0, hour_48), some (0, v52), some (10, v54), some (0, z.1)] [] z.2)) ?_ Fu _ _ e89 hE90
    rintro ⟨t_75, h76⟩ o9 eq77 ih ex
    unfold s_X1_setPrices_2 at eq77
    show fx_J M G Λ 8 35 [some (3, this_0), some (6, town_0), some (2, court_0), some (0, person_0), some (0, hour_48), some (0, v52), some (10, v54), some (0, t_75)] [] h76
    refine fx_iload (pc := 35) F rfl dX1_setPrices_35 ?_
    refine fx_aload_n (pc := 37) (t := 4) F 1 rfl rfl dX1_setPrices_37 ?_
    refine fx_gI (pc := 38) F 4 0 0 rfl kC_X4 rfl wF_X1_142 dX1_setPrices_38 ?_
    refine fx_nlt (pc := 41) F 83 (by decide) dX1_setPrices_41 (fun c78 => ?_) (fun c78 => ?_)
    · have eq77 := (if_pos c78).symm.trans eq77
      refine fx_aload_n (pc := 44) (t := 1) F 0 rfl rfl dX1_setPrices_44 ?_
      refine fx_gR (pc := 45) F 1 12 12 11 rfl kC_X1 (by decide) rfl wF_X1_45 dX1_setPrices_45 ?_
      refine fx_iload_n (pc := 48) F 3 rfl rfl dX1_setPrices_48 ?_
      obtain ⟨v79, e80, eq77⟩ := fx_bnd eq77
      refine fx_raldG (pc := 49) F e80 dX1_setPrices_49 ?_
      refine fx_iload (pc := 50) F rfl dX1_setPrices_50 ?_
      refine fx_bipush (pc := 52) F ⟨by decide, by decide⟩ (by decide) dX1_setPrices_52 ?_
      refine fx_imul (pc := 54) F dX1_setPrices_54 ?_
      refine fx_iload (pc := 55) F rfl dX1_setPrices_55 ?_
      refine fx_iadd (pc := 57) F dX1_setPrices_57 ?_
      refine fx_aload_n (pc := 58) (t := 0) F 2 rfl rfl dX1_setPrices_58 ?_
      refine fx_iload (pc := 59) F rfl dX1_setPrices_59 ?_
      refine fx_aload_n (pc := 61) (t := 1) F 0 rfl rfl dX1_setPrices_61 ?_
      refine fx_gR (pc := 62) F 1 0 0 11 rfl kC_X1 (by decide) rfl wF_X1_11 dX1_setPrices_62 ?_
      refine fx_iload (pc := 65) F rfl dX1_setPrices_65 ?_
      obtain ⟨v81, e82, eq77⟩ := fx_bnd eq77
      refine fx_raldG (pc := 67) F e82 dX1_setPrices_67 ?_
      refine fx_aload (pc := 68) (t := 8) F rfl dX1_setPrices_68 ?_
      refine fx_iload_n (pc := 70) F 3 rfl rfl dX1_setPrices_70 ?_
      refine fx_iload (pc := 71) F rfl dX1_setPrices_71 ?_
      obtain ⟨v83, e84, eq77⟩ := fx_bnd eq77
      refine fx_cV (pc := 73) F 0 kC_X0 [(0, v52), (10, v81), (10, v54), (0, person_0), (0, t_75)] court_0 [(0, (fx_w ((fx_w (hour_48 * 10)) + t_75))), (10, v79)] (m_X0_fine Fu Λ court_0 v52 v81 v54 person_0 t_75 h76 _ e84) kD_X0_fine kI_X0_fine rfl wM_X1_145 ⟨rfl, rfl⟩ ⟨by decide, by decide⟩ (Nat.le_of_ble_eq_true rfl) rfl dX1_setPrices_73 ?_
      obtain ⟨h85, e86, eq77⟩ := fx_bnd eq77
      refine fx_rastI (pc := 76) F e86 dX1_setPrices_76 ?_
      refine fx_iinc (pc := 77) (ls' := [some (3, this_0), some (6, town_0), some (2, court_0), some (0, person_0), some (0, hour_48), some (0, v52), some (10, v54), some (0, (fx_w (t_75 + 1)))]) F (by decide) rfl rfl rfl dX1_setPrices_77 ?_
      refine fx_goto (pc := 80) F 35 (by decide) dX1_setPrices_80 ?_
      cases eq77
      exact ih _ rfl
    · have eq77 := (if_neg c78).symm.trans eq77
      cases eq77
      exact ex _ rfl
  · have eq50 := (if_neg c51).symm.trans eq50
    cases eq50
    exact ex _ rfl
def s_X1_bestRow_1 (Fu : Nat) (Λ : fx_L) (this_4 : Int) (person_5 : Int) (hours_6 : Int) (h : fx_H) : Int × Int × Int → Option ((Int × Int × Int) ⊕ (Int × Int × Int)) := fun (best_1, least_2, r_3) =>
  (fx_rd Λ h (fx_tg Λ this_4 7) person_5).bind fun v8 =>
  if r_3 < v8 then
    (f_X1_priceOfRow Fu Λ this_4 person_5 r_3 hours_6 h).bind fun v11 =>
    if v11 < least_2 then
      some (.inl (r_3, v11, (fx_w (r_3 + 1))))
    else
      some (.inl (best_1, least_2, (fx_w (r_3 + 1))))
  else
    some (.inr (best_1, least_2, r_3))
def f_X1_bestRow (Fu : Nat) (Λ : fx_L) (this_0 : Int) (person_0 : Int) (hours_0 : Int) (h : fx_H) : Option (Int) :=
  Option.bind (fx_loop (s_X1_bestRow_1 Fu Λ this_0 person_0 hours_0 h) Fu (0, 1000000, 0)) fun (best_24, least_25, r_26) =>
  some best_24
abbrev rm_X1_bestRow : Room := { frames := 1, cells := 0, slots := 0, locals := 25 }
set_option maxRecDepth 100000 in
set_option maxHeartbeats 4000000 in
theorem m_X1_bestRow (Fu : Nat) (Λ : fx_L) (this_0 : Int) (person_0 : Int) (hours_0 : Int) (h : fx_H) (r : Int) (hf : f_X1_bestRow Fu Λ this_0 person_0 hours_0 h = some r) : fx_Met yX1_bestRow cX1_bestRow 7 (some .int) rm_X1_bestRow Λ [(3, this_0), (0, person_0), (0, hours_0)] h (some (0, r)) h := by
  unfold f_X1_bestRow at hf
  refine fx_enter (ls := [some (3, this_0), some (0, person_0), some (0, hours_0), none, none, none, none]) (by decide) (Nat.le_of_ble_eq_true rfl) rfl (fun M G F K => ?_)
  refine fx_iconst (pc := 0) F ⟨by decide, by decide⟩ dX1_bestRow_0 ?_
  refine fx_istore_n (pc := 1) (ls' := [some (3, this_0), some (0, person_0), some (0, hours_0), some (0, 0), none, none, none]) F 3 rfl (by decide) rfl rfl dX1_bestRow_1 ?_
  refine fx_ldc (pc := 2) (z := 1000000) F (by decide) ⟨by decide, by decide⟩ wK_X1_67 dX1_bestRow_2 ?_
  refine fx_istore (pc := 4) (ls' := [some (3, this_0), some (0, person_0), some (0, hours_0), some (0, 0), some (0, 1000000), none, none]) F (by decide) rfl rfl dX1_bestRow_4 ?_
  refine fx_iconst (pc := 6) F ⟨by decide, by decide⟩ dX1_bestRow_6 ?_
  refine fx_istore (pc := 7) (ls' := [some (3, this_0), some (0, person_0), some (0, hours_0), some (0, 0), some (0, 1000000), some (0, 0), none]) F (by decide) rfl rfl dX1_bestRow_7 ?_
  obtain ⟨⟨best_24, least_25, r_26⟩, e27, hf⟩ := fx_bnd hf
  have hE28 : fx_J M G Λ 7 50 [some (3, this_0), some (0, person_0), some (0, hours_0), some (0, best_24), some (0, least_25), some (0, r_26), none] [] h := by
    refine fx_iload_n (pc := 50) F 3 rfl rfl dX1_bestRow_50 ?_
    cases hf
    exact fx_ireturn (pc := 51) F K dX1_bestRow_51
  refine fx_loop_J (Hd := (fun z : Int × Int × Int => fx_J M G Λ 7 9 [some (3, this_0), some (0, person_0), some (0, hours_0), some (0, z.1), some (0, z.2.1), some (0, z.2.2), none] [] h)) (Ex := (fun z : Int × Int × Int => fx_J M G Λ 7 50 [some (3, this_0), some (0, person_0), some (0, hours_0), some (0, z.1), some (0, z.2.1), some (0, z.2.2), none] [] h)) ?_ Fu _ _ e27 hE28
  rintro ⟨best_14, least_15, r_16⟩ o9 eq17 ih ex
  unfold s_X1_bestRow_1 at eq17
  show fx_J M G Λ 7 9 [some (3, this_0), some (0, person_0), some (0, hours_0), some (0, best_14), some (0, least_15), some (0, r_16), none] [] h
  refine fx_iload (pc := 9) F rfl dX1_bestRow_9 ?_
  refine fx_aload_n (pc := 11) (t := 1) F 0 rfl rfl dX1_bestRow_11 ?_
  refine fx_gR (pc := 12) F 1 7 7 8 rfl kC_X1 (by decide) rfl wF_X1_29 dX1_bestRow_12 ?_
  refine fx_iload_n (pc := 15) F 1 rfl rfl dX1_bestRow_15 ?_
  obtain ⟨v18, e19, eq17⟩ := fx_bnd eq17
  refine fx_raldI (pc := 16) F e19 dX1_bestRow_16 ?_
  refine fx_nlt (pc := 17) F 50 (by decide) dX1_bestRow_17 (fun c20 => ?_) (fun c20 => ?_)
  · have eq17 := (if_pos c20).symm.trans eq17
    refine fx_aload_n (pc := 20) (t := 1) F 0 rfl rfl dX1_bestRow_20 ?_
    refine fx_iload_n (pc := 21) F 1 rfl rfl dX1_bestRow_21 ?_
    refine fx_iload (pc := 22) F rfl dX1_bestRow_22 ?_
    refine fx_iload_n (pc := 24) F 2 rfl rfl dX1_bestRow_24 ?_
    obtain ⟨v21, e22, eq17⟩ := fx_bnd eq17
    refine fx_cV (pc := 25) F 1 kC_X1 [(0, person_0), (0, r_16), (0, hours_0)] this_0 [] (m_X1_priceOfRow Fu Λ this_0 person_0 r_16 hours_0 h _ e22) kD_X1_priceOfRow kI_X1_priceOfRow rfl wM_X1_114 ⟨rfl, rfl⟩ ⟨by decide, by decide⟩ (Nat.le_of_ble_eq_true rfl) rfl dX1_bestRow_25 ?_
    refine fx_istore (pc := 28) (ls' := [some (3, this_0), some (0, person_0), some (0, hours_0), some (0, best_14), some (0, least_15), some (0, r_16), some (0, v21)]) F (by decide) rfl rfl dX1_bestRow_28 ?_
    refine fx_iload (pc := 30) F rfl dX1_bestRow_30 ?_
    refine fx_iload (pc := 32) F rfl dX1_bestRow_32 ?_
    refine fx_nlt (pc := 34) F 44 (by decide) dX1_bestRow_34 (fun c23 => ?_) (fun c23 => ?_)
    · have eq17 := (if_pos c23).symm.trans eq17
      refine fx_iload (pc := 37) F rfl dX1_bestRow_37 ?_
      refine fx_istore (pc := 39) (ls' := [some (3, this_0), some (0, person_0), some (0, hours_0), some (0, best_14), some (0, v21), some (0, r_16), some (0, v21)]) F (by decide) rfl rfl dX1_bestRow_39 ?_
      refine fx_iload (pc := 41) F rfl dX1_bestRow_41 ?_
      refine fx_istore_n (pc := 43) (ls' := [some (3, this_0), some (0, person_0), some (0, hours_0), some (0, r_16), some (0, v21), some (0, r_16), some (0, v21)]) F 3 rfl (by decide) rfl rfl dX1_bestRow_43 ?_
      refine fx_iinc (pc := 44) (ls' := [some (3, this_0), some (0, person_0), some (0, hours_0), some (0, r_16), some (0, v21), some (0, (fx_w (r_16 + 1))), some (0, v21)]) F (by decide) rfl rfl rfl dX1_bestRow_44 ?_
      refine fx_goto (pc := 47) F 9 (by decide) dX1_bestRow_47 ?_
      cases eq17
      refine fx_drop (ls' := [some (3, this_0), some (0, person_0), some (0, hours_0), some (0, r_16), some (0, v21), some (0, (fx_w (r_16 + 1))), none]) ⟨rfl, rfl, rfl, rfl, rfl, rfl, trivial⟩ ?_
      exact ih _ rfl
    · have eq17 := (if_neg c23).symm.trans eq17
      refine fx_iinc (pc := 44) (ls' := [some (3, this_0), some (0, person_0), some (0, hours_0), some (0, best_14), some (0, least_15), some (0, (fx_w (r_16 + 1))), some (0, v21)]) F (by decide) rfl rfl rfl dX1_bestRow_44 ?_
      refine fx_goto (pc := 47) F 9 (by decide) dX1_bestRow_47 ?_
      cases eq17
      refine fx_drop (ls' := [some (3, this_0), some (0, person_0), some (0, hours_0), some (0, best_14), some (0, least_15), some (0, (fx_w (r_16 + 1))), none]) ⟨rfl, rfl, rfl, rfl, rfl, rfl, trivial⟩ ?_
      exact ih _ rfl
  · have eq17 := (if_neg c20).symm.trans eq17
    cases eq17
    exact ex _ rfl
def s_X1_finesInOrder_1 (Fu : Nat) (Λ : fx_L) (this_5 : Int) (town_6 : Int) (court_7 : Int) : Int × fx_H → Option ((Int × fx_H) ⊕ (Int × fx_H)) := fun (i_3, h4) =>
  if i_3 < (h4 town_6 2) then
    (fx_rd Λ h4 (fx_tg Λ this_5 11) i_3).bind fun v10 =>
    (f_X1_setPrices Fu Λ this_5 town_6 court_7 v10 h4).bind fun h12 =>
    (fx_rd Λ h12 (fx_tg Λ this_5 11) i_3).bind fun v14 =>
    (fx_rd Λ h12 (fx_tg Λ this_5 11) i_3).bind fun v16 =>
    (f_X1_bestRow Fu Λ this_5 v16 (h12 town_6 3) h12).bind fun v18 =>
    (f_X1_layRow Fu Λ this_5 v14 v18 (h12 town_6 3) h12).bind fun h20 =>
    some (.inl ((fx_w (i_3 + 1)), h20))
  else
    some (.inr (i_3, h4))
def f_X1_finesInOrder (Fu : Nat) (Λ : fx_L) (this_0 : Int) (town_0 : Int) (court_0 : Int) (h : fx_H) : Option (Int × fx_H) :=
  (f_X1_clearDay Fu Λ this_0 h).bind fun h1 =>
  Option.bind (fx_loop (s_X1_finesInOrder_1 Fu Λ this_0 town_0 court_0) Fu (0, h1)) fun (i_38, h39) =>
  (f_X0_finesOf Fu Λ court_0 town_0 (fx_tg Λ this_0 0) (h39 town_0 3) h39).bind fun v42 =>
  some (v42, h39)
abbrev rm_X1_finesInOrder : Room := { frames := 4, cells := 0, slots := 0, locals := 103 }
set_option maxRecDepth 100000 in
set_option maxHeartbeats 4000000 in
theorem m_X1_finesInOrder (Fu : Nat) (Λ : fx_L) (this_0 : Int) (town_0 : Int) (court_0 : Int) (h : fx_H) (r : Int) (ho : fx_H) (hf : f_X1_finesInOrder Fu Λ this_0 town_0 court_0 h = some (r, ho)) : fx_Met yX1_finesInOrder cX1_finesInOrder 4 (some .int) rm_X1_finesInOrder Λ [(3, this_0), (6, town_0), (2, court_0)] h (some (0, r)) ho := by
  unfold f_X1_finesInOrder at hf
  refine fx_enter (ls := [some (3, this_0), some (6, town_0), some (2, court_0), none]) (by decide) (Nat.le_of_ble_eq_true rfl) rfl (fun M G F K => ?_)
  refine fx_aload_n (pc := 0) (t := 1) F 0 rfl rfl dX1_finesInOrder_0 ?_
  obtain ⟨h1, e2, hf⟩ := fx_bnd hf
  refine fx_cVv (pc := 1) F 1 kC_X1 [] this_0 [] (m_X1_clearDay Fu Λ this_0 h _ e2) kD_X1_clearDay kI_X1_clearDay rfl wM_X1_125 ⟨rfl, rfl⟩ ⟨by decide, by decide⟩ (Nat.le_of_ble_eq_true rfl) rfl dX1_finesInOrder_1 ?_
  refine fx_iconst (pc := 4) F ⟨by decide, by decide⟩ dX1_finesInOrder_4 ?_
  refine fx_istore_n (pc := 5) (ls' := [some (3, this_0), some (6, town_0), some (2, court_0), some (0, 0)]) F 3 rfl (by decide) rfl rfl dX1_finesInOrder_5 ?_
  obtain ⟨⟨i_38, h39⟩, e40, hf⟩ := fx_bnd hf
  have hE41 : fx_J M G Λ 4 60 [some (3, this_0), some (6, town_0), some (2, court_0), some (0, i_38)] [] h39 := by
    refine fx_aload_n (pc := 60) (t := 0) F 2 rfl rfl dX1_finesInOrder_60 ?_
    refine fx_aload_n (pc := 61) (t := 4) F 1 rfl rfl dX1_finesInOrder_61 ?_
    refine fx_aload_n (pc := 62) (t := 1) F 0 rfl rfl dX1_finesInOrder_62 ?_
    refine fx_gR (pc := 63) F 1 0 0 11 rfl kC_X1 (by decide) rfl wF_X1_11 dX1_finesInOrder_63 ?_
    refine fx_aload_n (pc := 66) (t := 4) F 1 rfl rfl dX1_finesInOrder_66 ?_
    refine fx_gI (pc := 67) F 4 3 3 rfl kC_X4 rfl wF_X1_52 dX1_finesInOrder_67 ?_
    obtain ⟨v42, e43, hf⟩ := fx_bnd hf
    refine fx_cV (pc := 70) F 0 kC_X0 [(6, town_0), (13, (fx_tg Λ this_0 0)), (0, (h39 town_0 3))] court_0 [] (m_X0_finesOf Fu Λ court_0 town_0 (fx_tg Λ this_0 0) (h39 town_0 3) h39 _ e43) kD_X0_finesOf kI_X0_finesOf rfl wM_X1_128 ⟨rfl, rfl⟩ ⟨by decide, by decide⟩ (Nat.le_of_ble_eq_true rfl) rfl dX1_finesInOrder_70 ?_
    cases hf
    exact fx_ireturn (pc := 73) F K dX1_finesInOrder_73
  refine fx_loop_J (Hd := (fun z : Int × fx_H => fx_J M G Λ 4 6 [some (3, this_0), some (6, town_0), some (2, court_0), some (0, z.1)] [] z.2)) (Ex := (fun z : Int × fx_H => fx_J M G Λ 4 60 [some (3, this_0), some (6, town_0), some (2, court_0), some (0, z.1)] [] z.2)) ?_ Fu _ _ e40 hE41
  rintro ⟨i_22, h23⟩ o9 eq24 ih ex
  unfold s_X1_finesInOrder_1 at eq24
  show fx_J M G Λ 4 6 [some (3, this_0), some (6, town_0), some (2, court_0), some (0, i_22)] [] h23
  refine fx_iload_n (pc := 6) F 3 rfl rfl dX1_finesInOrder_6 ?_
  refine fx_aload_n (pc := 7) (t := 4) F 1 rfl rfl dX1_finesInOrder_7 ?_
  refine fx_gI (pc := 8) F 4 2 2 rfl kC_X4 rfl wF_X1_87 dX1_finesInOrder_8 ?_
  refine fx_nlt (pc := 11) F 60 (by decide) dX1_finesInOrder_11 (fun c25 => ?_) (fun c25 => ?_)
  · have eq24 := (if_pos c25).symm.trans eq24
    refine fx_aload_n (pc := 14) (t := 1) F 0 rfl rfl dX1_finesInOrder_14 ?_
    refine fx_aload_n (pc := 15) (t := 4) F 1 rfl rfl dX1_finesInOrder_15 ?_
    refine fx_aload_n (pc := 16) (t := 0) F 2 rfl rfl dX1_finesInOrder_16 ?_
    refine fx_aload_n (pc := 17) (t := 1) F 0 rfl rfl dX1_finesInOrder_17 ?_
    refine fx_gR (pc := 18) F 1 11 11 8 rfl kC_X1 (by decide) rfl wF_X1_42 dX1_finesInOrder_18 ?_
    refine fx_iload_n (pc := 21) F 3 rfl rfl dX1_finesInOrder_21 ?_
    obtain ⟨v26, e27, eq24⟩ := fx_bnd eq24
    refine fx_raldI (pc := 22) F e27 dX1_finesInOrder_22 ?_
    obtain ⟨h28, e29, eq24⟩ := fx_bnd eq24
    refine fx_cVv (pc := 23) F 1 kC_X1 [(6, town_0), (2, court_0), (0, v26)] this_0 [] (m_X1_setPrices Fu Λ this_0 town_0 court_0 v26 h23 _ e29) kD_X1_setPrices kI_X1_setPrices rfl wM_X1_107 ⟨rfl, rfl⟩ ⟨by decide, by decide⟩ (Nat.le_of_ble_eq_true rfl) rfl dX1_finesInOrder_23 ?_
    refine fx_aload_n (pc := 26) (t := 1) F 0 rfl rfl dX1_finesInOrder_26 ?_
    refine fx_aload_n (pc := 27) (t := 1) F 0 rfl rfl dX1_finesInOrder_27 ?_
    refine fx_gR (pc := 28) F 1 11 11 8 rfl kC_X1 (by decide) rfl wF_X1_42 dX1_finesInOrder_28 ?_
    refine fx_iload_n (pc := 31) F 3 rfl rfl dX1_finesInOrder_31 ?_
    obtain ⟨v30, e31, eq24⟩ := fx_bnd eq24
    refine fx_raldI (pc := 32) F e31 dX1_finesInOrder_32 ?_
    refine fx_aload_n (pc := 33) (t := 1) F 0 rfl rfl dX1_finesInOrder_33 ?_
    refine fx_aload_n (pc := 34) (t := 1) F 0 rfl rfl dX1_finesInOrder_34 ?_
    refine fx_gR (pc := 35) F 1 11 11 8 rfl kC_X1 (by decide) rfl wF_X1_42 dX1_finesInOrder_35 ?_
    refine fx_iload_n (pc := 38) F 3 rfl rfl dX1_finesInOrder_38 ?_
    obtain ⟨v32, e33, eq24⟩ := fx_bnd eq24
    refine fx_raldI (pc := 39) F e33 dX1_finesInOrder_39 ?_
    refine fx_aload_n (pc := 40) (t := 4) F 1 rfl rfl dX1_finesInOrder_40 ?_
    refine fx_gI (pc := 41) F 4 3 3 rfl kC_X4 rfl wF_X1_52 dX1_finesInOrder_41 ?_
    obtain ⟨v34, e35, eq24⟩ := fx_bnd eq24
    refine fx_cV (pc := 44) F 1 kC_X1 [(0, v32), (0, (h28 town_0 3))] this_0 [(0, v30), (3, this_0)] (m_X1_bestRow Fu Λ this_0 v32 (h28 town_0 3) h28 _ e35) kD_X1_bestRow kI_X1_bestRow rfl wM_X1_111 ⟨rfl, rfl⟩ ⟨by decide, by decide⟩ (Nat.le_of_ble_eq_true rfl) rfl dX1_finesInOrder_44 ?_
    refine fx_aload_n (pc := 47) (t := 4) F 1 rfl rfl dX1_finesInOrder_47 ?_
    refine fx_gI (pc := 48) F 4 3 3 rfl kC_X4 rfl wF_X1_52 dX1_finesInOrder_48 ?_
    obtain ⟨h36, e37, eq24⟩ := fx_bnd eq24
    refine fx_cVv (pc := 51) F 1 kC_X1 [(0, v30), (0, v34), (0, (h28 town_0 3))] this_0 [] (m_X1_layRow Fu Λ this_0 v30 v34 (h28 town_0 3) h28 _ e37) kD_X1_layRow kI_X1_layRow rfl wM_X1_121 ⟨rfl, rfl⟩ ⟨by decide, by decide⟩ (Nat.le_of_ble_eq_true rfl) rfl dX1_finesInOrder_51 ?_
    refine fx_iinc (pc := 54) (ls' := [some (3, this_0), some (6, town_0), some (2, court_0), some (0, (fx_w (i_22 + 1)))]) F (by decide) rfl rfl rfl dX1_finesInOrder_54 ?_
    refine fx_goto (pc := 57) F 6 (by decide) dX1_finesInOrder_57 ?_
    cases eq24
    exact ih _ rfl
  · have eq24 := (if_neg c25).symm.trans eq24
    cases eq24
    exact ex _ rfl
