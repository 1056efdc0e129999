def f_X6_isOne (Fu : Nat) (Λ : fx_L) (this_0 : Int) (p_0 : Int) (h : fx_H) : Option (Int) :=
  (f_X6_people Fu Λ this_0 h).bind fun v1 =>
  (f_X6_in Fu Λ p_0 0 (fx_w (v1 - 1)) h).bind fun v3 =>
  (fx_zb v3).bind fun z5 =>
  some z5
abbrev rm_X6_isOne : Room := { frames := 1, cells := 0, slots := 0, locals := 25 }
set_option maxRecDepth 100000 in
set_option maxHeartbeats 4000000 in
theorem m_X6_isOne (Fu : Nat) (Λ : fx_L) (this_0 : Int) (p_0 : Int) (h : fx_H) (r : Int) (hf : f_X6_isOne Fu Λ this_0 p_0 h = some r) : fx_Met yX6_isOne cX6_isOne 2 (some .boolean) rm_X6_isOne Λ [(8, this_0), (0, p_0)] h (some (0, r)) h := by
  unfold f_X6_isOne at hf
  refine fx_enter (ls := [some (8, this_0), some (0, p_0)]) (by decide) (Nat.le_of_ble_eq_true rfl) rfl (fun M G F K => ?_)
  refine fx_iload_n (pc := 0) F 1 rfl rfl dX6_isOne_0 ?_
  refine fx_ri2l (pc := 1) F dX6_isOne_1 ?_
  refine fx_lconst (pc := 2) (z := 0) F rfl ⟨by decide, by decide⟩ (by decide) dX6_isOne_2 ?_
  refine fx_aload_n (pc := 3) (t := 6) F 0 rfl rfl dX6_isOne_3 ?_
  obtain ⟨v1, e2, hf⟩ := fx_bnd hf
  refine fx_cV (pc := 4) F 6 kC_X6 [] this_0 [(1, 0), (1, p_0)] (m_X6_people Fu Λ this_0 h _ e2) kD_X6_people kI_X6_people rfl wM_X6_78 ⟨rfl, rfl⟩ ⟨by decide, by decide⟩ (Nat.le_of_ble_eq_true rfl) rfl dX6_isOne_4 ?_
  refine fx_iconst (pc := 7) F ⟨by decide, by decide⟩ dX6_isOne_7 ?_
  refine fx_isub (pc := 8) F dX6_isOne_8 ?_
  refine fx_ri2l (pc := 9) F dX6_isOne_9 ?_
  obtain ⟨v3, e4, hf⟩ := fx_bnd hf
  refine fx_cS (pc := 10) F [(1, p_0), (1, 0), (1, (fx_w (v1 - 1)))] [] (m_X6_in Fu Λ p_0 0 (fx_w (v1 - 1)) h _ e4) kD_X6_in wSt_X6_in wM_X6_74 ⟨rfl, rfl⟩ ⟨by decide, by decide⟩ (Nat.le_of_ble_eq_true rfl) rfl dX6_isOne_10 ?_
  obtain ⟨z5, e6, hf⟩ := fx_bnd hf
  obtain ⟨e6, hzz5⟩ := fx_zb_use e6
  refine fx_top (X := fx_X) e6 ?_
  cases hf
  exact fx_zreturn (pc := 13) F hzz5 K dX6_isOne_13
def f_X6_isHour (Fu : Nat) (Λ : fx_L) (this_0 : Int) (h_0 : Int) (h : fx_H) : Option (Int) :=
  (f_X6_hours Fu Λ this_0 h).bind fun v1 =>
  (f_X6_in Fu Λ h_0 0 (fx_w (v1 - 1)) h).bind fun v3 =>
  (fx_zb v3).bind fun z5 =>
  some z5
abbrev rm_X6_isHour : Room := { frames := 1, cells := 0, slots := 0, locals := 25 }
set_option maxRecDepth 100000 in
set_option maxHeartbeats 4000000 in
theorem m_X6_isHour (Fu : Nat) (Λ : fx_L) (this_0 : Int) (h_0 : Int) (h : fx_H) (r : Int) (hf : f_X6_isHour Fu Λ this_0 h_0 h = some r) : fx_Met yX6_isHour cX6_isHour 2 (some .boolean) rm_X6_isHour Λ [(8, this_0), (0, h_0)] h (some (0, r)) h := by
  unfold f_X6_isHour at hf
  refine fx_enter (ls := [some (8, this_0), some (0, h_0)]) (by decide) (Nat.le_of_ble_eq_true rfl) rfl (fun M G F K => ?_)
  refine fx_iload_n (pc := 0) F 1 rfl rfl dX6_isHour_0 ?_
  refine fx_ri2l (pc := 1) F dX6_isHour_1 ?_
  refine fx_lconst (pc := 2) (z := 0) F rfl ⟨by decide, by decide⟩ (by decide) dX6_isHour_2 ?_
  refine fx_aload_n (pc := 3) (t := 6) F 0 rfl rfl dX6_isHour_3 ?_
  obtain ⟨v1, e2, hf⟩ := fx_bnd hf
  refine fx_cV (pc := 4) F 6 kC_X6 [] this_0 [(1, 0), (1, h_0)] (m_X6_hours Fu Λ this_0 h _ e2) kD_X6_hours kI_X6_hours rfl wM_X6_81 ⟨rfl, rfl⟩ ⟨by decide, by decide⟩ (Nat.le_of_ble_eq_true rfl) rfl dX6_isHour_4 ?_
  refine fx_iconst (pc := 7) F ⟨by decide, by decide⟩ dX6_isHour_7 ?_
  refine fx_isub (pc := 8) F dX6_isHour_8 ?_
  refine fx_ri2l (pc := 9) F dX6_isHour_9 ?_
  obtain ⟨v3, e4, hf⟩ := fx_bnd hf
  refine fx_cS (pc := 10) F [(1, h_0), (1, 0), (1, (fx_w (v1 - 1)))] [] (m_X6_in Fu Λ h_0 0 (fx_w (v1 - 1)) h _ e4) kD_X6_in wSt_X6_in wM_X6_74 ⟨rfl, rfl⟩ ⟨by decide, by decide⟩ (Nat.le_of_ble_eq_true rfl) rfl dX6_isHour_10 ?_
  obtain ⟨z5, e6, hf⟩ := fx_bnd hf
  obtain ⟨e6, hzz5⟩ := fx_zb_use e6
  refine fx_top (X := fx_X) e6 ?_
  cases hf
  exact fx_zreturn (pc := 13) F hzz5 K dX6_isHour_13
def f_X6_thing (Fu : Nat) (Λ : fx_L) (this_0 : Int) (under_0 : Int) (h : fx_H) : Option (Int × fx_H) :=
  Option.bind (
    if ¬ under_0 = (-1) then
      (f_X6_isThing Fu Λ this_0 under_0 h).bind fun v6 =>
      if v6 = 0 then
        some true
      else
        some false
    else
      some false
  ) fun b1 =>
  if b1 = true then
    (f_X6_bad Fu Λ this_0 (-2) h).bind fun (v10, h11) =>
    some (v10, h11)
  else
    (f_X6_things Fu Λ this_0 h).bind fun v13 =>
    if v13 = 9 then
      (f_X6_full Fu Λ this_0 h).bind fun (v16, h17) =>
      some (v16, h17)
    else
      (fx_wr Λ h (fx_tg Λ this_0 0) (fx_w (1 + v13)) under_0).bind fun h19 =>
      (fx_rd Λ h19 (fx_tg Λ this_0 0) 0).bind fun v21 =>
      (fx_wr Λ h19 (fx_tg Λ this_0 0) 0 (fx_w (v21 + 1))).bind fun h23 =>
      some (v13, h23)
abbrev rm_X6_thing : Room := { frames := 2, cells := 0, slots := 0, locals := 46 }
set_option maxRecDepth 100000 in
set_option maxHeartbeats 4000000 in
theorem m_X6_thing (Fu : Nat) (Λ : fx_L) (this_0 : Int) (under_0 : Int) (h : fx_H) (r : Int) (ho : fx_H) (hf : f_X6_thing Fu Λ this_0 under_0 h = some (r, ho)) : fx_Met yX6_thing cX6_thing 3 (some .int) rm_X6_thing Λ [(8, this_0), (0, under_0)] h (some (0, r)) ho := by
  unfold f_X6_thing at hf
  refine fx_enter (ls := [some (8, this_0), some (0, under_0), none]) (by decide) (Nat.le_of_ble_eq_true rfl) rfl (fun M G F K => ?_)
  obtain ⟨b1, e2, hf⟩ := fx_bnd hf
  have hT3 : b1 = true → fx_J M G Λ 3 13 [some (8, this_0), some (0, under_0), none] [] h := fun c9 => by
    have hf := (if_pos c9).symm.trans hf
    refine fx_aload_n (pc := 13) (t := 6) F 0 rfl rfl dX6_thing_13 ?_
    refine fx_bipush (pc := 14) F ⟨by decide, by decide⟩ (by decide) dX6_thing_14 ?_
    obtain ⟨⟨v10, h11⟩, e12, hf⟩ := fx_bnd hf
    refine fx_cV (pc := 16) F 6 kC_X6 [(0, (-2))] this_0 [] (m_X6_bad Fu Λ this_0 (-2) h _ _ e12) kD_X6_bad kI_X6_bad rfl wM_X6_88 ⟨rfl, rfl⟩ ⟨by decide, by decide⟩ (Nat.le_of_ble_eq_true rfl) rfl dX6_thing_16 ?_
    cases hf
    exact fx_ireturn (pc := 19) F K dX6_thing_19
  have hF4 : ¬ b1 = true → fx_J M G Λ 3 20 [some (8, this_0), some (0, under_0), none] [] h := fun c9 => by
    have hf := (if_neg c9).symm.trans hf
    refine fx_aload_n (pc := 20) (t := 6) F 0 rfl rfl dX6_thing_20 ?_
    obtain ⟨v13, e14, hf⟩ := fx_bnd hf
    refine fx_cV (pc := 21) F 6 kC_X6 [] this_0 [] (m_X6_things Fu Λ this_0 h _ e14) kD_X6_things kI_X6_things rfl wM_X6_70 ⟨rfl, rfl⟩ ⟨by decide, by decide⟩ (Nat.le_of_ble_eq_true rfl) rfl dX6_thing_21 ?_
    refine fx_istore_n (pc := 24) (ls' := [some (8, this_0), some (0, under_0), some (0, v13)]) F 2 rfl (by decide) rfl rfl dX6_thing_24 ?_
    refine fx_iload_n (pc := 25) F 2 rfl rfl dX6_thing_25 ?_
    refine fx_bipush (pc := 26) F ⟨by decide, by decide⟩ (by decide) dX6_thing_26 ?_
    refine fx_neq (pc := 28) F 36 (by decide) dX6_thing_28 (fun c15 => ?_) (fun c15 => ?_)
    · have hf := (if_pos c15).symm.trans hf
      refine fx_aload_n (pc := 31) (t := 6) F 0 rfl rfl dX6_thing_31 ?_
      obtain ⟨⟨v16, h17⟩, e18, hf⟩ := fx_bnd hf
      refine fx_cV (pc := 32) F 6 kC_X6 [] this_0 [] (m_X6_full Fu Λ this_0 h _ _ e18) kD_X6_full kI_X6_full rfl wM_X6_92 ⟨rfl, rfl⟩ ⟨by decide, by decide⟩ (Nat.le_of_ble_eq_true rfl) rfl dX6_thing_32 ?_
      cases hf
      exact fx_ireturn (pc := 35) F K dX6_thing_35
    · have hf := (if_neg c15).symm.trans hf
      refine fx_aload_n (pc := 36) (t := 6) F 0 rfl rfl dX6_thing_36 ?_
      refine fx_gR (pc := 37) F 6 0 0 8 rfl kC_X6 (by decide) rfl wF_X6_7 dX6_thing_37 ?_
      refine fx_iconst (pc := 40) F ⟨by decide, by decide⟩ dX6_thing_40 ?_
      refine fx_iload_n (pc := 41) F 2 rfl rfl dX6_thing_41 ?_
      refine fx_iadd (pc := 42) F dX6_thing_42 ?_
      refine fx_iload_n (pc := 43) F 1 rfl rfl dX6_thing_43 ?_
      obtain ⟨h19, e20, hf⟩ := fx_bnd hf
      refine fx_rastI (pc := 44) F e20 dX6_thing_44 ?_
      refine fx_aload_n (pc := 45) (t := 6) F 0 rfl rfl dX6_thing_45 ?_
      refine fx_gR (pc := 46) F 6 0 0 8 rfl kC_X6 (by decide) rfl wF_X6_7 dX6_thing_46 ?_
      refine fx_iconst (pc := 49) F ⟨by decide, by decide⟩ dX6_thing_49 ?_
      refine fx_dup2 (pc := 50) F (show (0 : Nat) ≠ 1 by decide) (show (10 : Nat) ≠ 1 by decide) dX6_thing_50 ?_
      obtain ⟨v21, e22, hf⟩ := fx_bnd hf
      refine fx_raldI (pc := 51) F e22 dX6_thing_51 ?_
      refine fx_iconst (pc := 52) F ⟨by decide, by decide⟩ dX6_thing_52 ?_
      refine fx_iadd (pc := 53) F dX6_thing_53 ?_
      obtain ⟨h23, e24, hf⟩ := fx_bnd hf
      refine fx_rastI (pc := 54) F e24 dX6_thing_54 ?_
      refine fx_iload_n (pc := 55) F 2 rfl rfl dX6_thing_55 ?_
      cases hf
      exact fx_ireturn (pc := 56) F K dX6_thing_56
  refine fx_iload_n (pc := 0) F 1 rfl rfl dX6_thing_0 ?_
  refine fx_iconst (pc := 1) F ⟨by decide, by decide⟩ dX6_thing_1 ?_
  refine fx_nne (pc := 2) F 20 (by decide) dX6_thing_2 (fun c5 => ?_) (fun c5 => ?_)
  · have e2 := (if_pos c5).symm.trans e2
    refine fx_aload_n (pc := 5) (t := 6) F 0 rfl rfl dX6_thing_5 ?_
    refine fx_iload_n (pc := 6) F 1 rfl rfl dX6_thing_6 ?_
    obtain ⟨v6, e7, e2⟩ := fx_bnd e2
    refine fx_cV (pc := 7) F 6 kC_X6 [(0, under_0)] this_0 [] (m_X6_isThing Fu Λ this_0 under_0 h _ e7) kD_X6_isThing kI_X6_isThing rfl wM_X6_84 ⟨rfl, rfl⟩ ⟨by decide, by decide⟩ (Nat.le_of_ble_eq_true rfl) rfl dX6_thing_7 ?_
    refine fx_nzeq (pc := 10) F 20 (by decide) dX6_thing_10 (fun c8 => ?_) (fun c8 => ?_)
    · have e2 := (if_pos c8).symm.trans e2
      cases e2
      exact hT3 (by decide)
    · have e2 := (if_neg c8).symm.trans e2
      cases e2
      exact hF4 (by decide)
  · have e2 := (if_neg c5).symm.trans e2
    cases e2
    exact hF4 (by decide)
def f_X6_town (Fu : Nat) (Λ : fx_L) (this_0 : Int) (n_0 : Int) (h_0 : Int) (h : fx_H) : Option (Int × fx_H) :=
  Option.bind (
    (f_X6_in Fu Λ n_0 1 5 h).bind fun v5 =>
    if v5 = 0 then
      some true
    else
      (f_X6_in Fu Λ h_0 1 5 h).bind fun v8 =>
      if v8 = 0 then
        some true
      else
        some false
  ) fun b1 =>
  if b1 = true then
    (f_X6_bad Fu Λ this_0 (-2) h).bind fun (v12, h13) =>
    some (v12, h13)
  else
    (f_X6_begin Fu Λ (fx_tg Λ this_0 0) n_0 h_0 h).bind fun h15 =>
    some (1, h15)
abbrev rm_X6_town : Room := { frames := 1, cells := 0, slots := 0, locals := 25 }
set_option maxRecDepth 100000 in
set_option maxHeartbeats 4000000 in
theorem m_X6_town (Fu : Nat) (Λ : fx_L) (this_0 : Int) (n_0 : Int) (h_0 : Int) (h : fx_H) (r : Int) (ho : fx_H) (hf : f_X6_town Fu Λ this_0 n_0 h_0 h = some (r, ho)) : fx_Met yX6_town cX6_town 3 (some .int) rm_X6_town Λ [(8, this_0), (0, n_0), (0, h_0)] h (some (0, r)) ho := by
  unfold f_X6_town at hf
  refine fx_enter (ls := [some (8, this_0), some (0, n_0), some (0, h_0)]) (by decide) (Nat.le_of_ble_eq_true rfl) rfl (fun M G F K => ?_)
  obtain ⟨b1, e2, hf⟩ := fx_bnd hf
  have hT3 : b1 = true → fx_J M G Λ 3 24 [some (8, this_0), some (0, n_0), some (0, h_0)] [] h := fun c11 => by
    have hf := (if_pos c11).symm.trans hf
    refine fx_aload_n (pc := 24) (t := 6) F 0 rfl rfl dX6_town_24 ?_
    refine fx_bipush (pc := 25) F ⟨by decide, by decide⟩ (by decide) dX6_town_25 ?_
    obtain ⟨⟨v12, h13⟩, e14, hf⟩ := fx_bnd hf
    refine fx_cV (pc := 27) F 6 kC_X6 [(0, (-2))] this_0 [] (m_X6_bad Fu Λ this_0 (-2) h _ _ e14) kD_X6_bad kI_X6_bad rfl wM_X6_88 ⟨rfl, rfl⟩ ⟨by decide, by decide⟩ (Nat.le_of_ble_eq_true rfl) rfl dX6_town_27 ?_
    cases hf
    exact fx_ireturn (pc := 30) F K dX6_town_30
  have hF4 : ¬ b1 = true → fx_J M G Λ 3 31 [some (8, this_0), some (0, n_0), some (0, h_0)] [] h := fun c11 => by
    have hf := (if_neg c11).symm.trans hf
    refine fx_aload_n (pc := 31) (t := 6) F 0 rfl rfl dX6_town_31 ?_
    refine fx_gR (pc := 32) F 6 0 0 8 rfl kC_X6 (by decide) rfl wF_X6_7 dX6_town_32 ?_
    refine fx_iload_n (pc := 35) F 1 rfl rfl dX6_town_35 ?_
    refine fx_iload_n (pc := 36) F 2 rfl rfl dX6_town_36 ?_
    obtain ⟨h15, e16, hf⟩ := fx_bnd hf
    refine fx_cSv (pc := 37) F [(10, (fx_tg Λ this_0 0)), (0, n_0), (0, h_0)] [] (m_X6_begin Fu Λ (fx_tg Λ this_0 0) n_0 h_0 h _ e16) kD_X6_begin wSt_X6_begin wM_X6_66 ⟨rfl, rfl⟩ ⟨by decide, by decide⟩ (Nat.le_of_ble_eq_true rfl) rfl dX6_town_37 ?_
    refine fx_iconst (pc := 40) F ⟨by decide, by decide⟩ dX6_town_40 ?_
    cases hf
    exact fx_ireturn (pc := 41) F K dX6_town_41
  refine fx_iload_n (pc := 0) F 1 rfl rfl dX6_town_0 ?_
  refine fx_ri2l (pc := 1) F dX6_town_1 ?_
  refine fx_lconst (pc := 2) (z := 1) F rfl ⟨by decide, by decide⟩ (by decide) dX6_town_2 ?_
  refine fx_ldc2 (pc := 3) (z := 5) F (by decide) ⟨by decide, by decide⟩ wK_X6_95 dX6_town_3 ?_
  obtain ⟨v5, e6, e2⟩ := fx_bnd e2
  refine fx_cS (pc := 6) F [(1, n_0), (1, 1), (1, 5)] [] (m_X6_in Fu Λ n_0 1 5 h _ e6) kD_X6_in wSt_X6_in wM_X6_74 ⟨rfl, rfl⟩ ⟨by decide, by decide⟩ (Nat.le_of_ble_eq_true rfl) rfl dX6_town_6 ?_
  refine fx_jzeq (pc := 9) F 24 (by decide) dX6_town_9 (fun c7 => ?_) (fun c7 => ?_)
  · have e2 := (if_pos c7).symm.trans e2
    cases e2
    exact hT3 (by decide)
  · have e2 := (if_neg c7).symm.trans e2
    refine fx_iload_n (pc := 12) F 2 rfl rfl dX6_town_12 ?_
    refine fx_ri2l (pc := 13) F dX6_town_13 ?_
    refine fx_lconst (pc := 14) (z := 1) F rfl ⟨by decide, by decide⟩ (by decide) dX6_town_14 ?_
    refine fx_ldc2 (pc := 15) (z := 5) F (by decide) ⟨by decide, by decide⟩ wK_X6_95 dX6_town_15 ?_
    obtain ⟨v8, e9, e2⟩ := fx_bnd e2
    refine fx_cS (pc := 18) F [(1, h_0), (1, 1), (1, 5)] [] (m_X6_in Fu Λ h_0 1 5 h _ e9) kD_X6_in wSt_X6_in wM_X6_74 ⟨rfl, rfl⟩ ⟨by decide, by decide⟩ (Nat.le_of_ble_eq_true rfl) rfl dX6_town_18 ?_
    refine fx_nzeq (pc := 21) F 31 (by decide) dX6_town_21 (fun c10 => ?_) (fun c10 => ?_)
    · have e2 := (if_pos c10).symm.trans e2
      cases e2
      exact hT3 (by decide)
    · have e2 := (if_neg c10).symm.trans e2
      cases e2
      exact hF4 (by decide)
def f_X6_put (Fu : Nat) (Λ : fx_L) (this_0 : Int) (what_0 : Int) (i_0 : Int) (v_0 : Int) (h : fx_H) : Option (Int × fx_H) :=
  Option.bind (
    if what_0 = 0 then
      Option.bind (
        Option.bind (
          (f_X6_isHour Fu Λ this_0 i_0 h).bind fun v12 =>
          if ¬ v12 = 0 then
            (f_X6_in Fu Λ v_0 0 5 h).bind fun v15 =>
            if ¬ v15 = 0 then
              some true
            else
              some false
          else
            some false
        ) fun b8 =>
        if b8 = true then
          some (1 : Int)
        else
          some (0 : Int)
      ) fun v5 =>
      some v5
    else
      Option.bind (
        Option.bind (
          if i_0 = 0 then
            if what_0 = 1 then
              (f_X6_in Fu Λ v_0 0 4 h).bind fun v28 =>
              if ¬ v28 = 0 then
                some true
              else
                if what_0 = 2 then
                  (f_X6_isOne Fu Λ this_0 v_0 h).bind fun v32 =>
                  if ¬ v32 = 0 then
                    some true
                  else
                    some false
                else
                  some false
            else
              if what_0 = 2 then
                (f_X6_isOne Fu Λ this_0 v_0 h).bind fun v36 =>
                if ¬ v36 = 0 then
                  some true
                else
                  some false
              else
                some false
          else
            some false
        ) fun b22 =>
        if b22 = true then
          some (1 : Int)
        else
          some (0 : Int)
      ) fun v19 =>
      some v19
  ) fun v1 =>
  if v1 = 0 then
    (f_X6_bad Fu Λ this_0 (-2) h).bind fun (v41, h42) =>
    some (v41, h42)
  else
    Option.bind (
      if what_0 = 0 then
        some (fx_w (14 + i_0))
      else
        Option.bind (
          if what_0 = 1 then
            some (12 : Int)
          else
            some (13 : Int)
        ) fun v48 =>
        some v48
    ) fun v44 =>
    (fx_rd Λ h (fx_tg Λ this_0 0) v44).bind fun v52 =>
    (fx_wr Λ h (fx_tg Λ this_0 0) v44 v_0).bind fun h54 =>
    some (v52, h54)
abbrev rm_X6_put : Room := { frames := 2, cells := 0, slots := 0, locals := 46 }
set_option maxRecDepth 100000 in
set_option maxHeartbeats 4000000 in
theorem m_X6_put (Fu : Nat) (Λ : fx_L) (this_0 : Int) (what_0 : Int) (i_0 : Int) (v_0 : Int) (h : fx_H) (r : Int) (ho : fx_H) (hf : f_X6_put Fu Λ this_0 what_0 i_0 v_0 h = some (r, ho)) : fx_Met yX6_put cX6_put 7 (some .int) rm_X6_put Λ [(8, this_0), (0, what_0), (0, i_0), (0, v_0)] h (some (0, r)) ho := by
  unfold f_X6_put at hf
  refine fx_enter (ls := [some (8, this_0), some (0, what_0), some (0, i_0), some (0, v_0), none, none, none]) (by decide) (Nat.le_of_ble_eq_true rfl) rfl (fun M G F K => ?_)
  obtain ⟨v1, e2, hf⟩ := fx_bnd hf
  have hJ3 : fx_J M G Λ 7 71 [some (8, this_0), some (0, what_0), some (0, i_0), some (0, v_0), none, none, none] [(0, v1)] h := by
    refine fx_istore (pc := 71) (ls' := [some (8, this_0), some (0, what_0), some (0, i_0), some (0, v_0), some (0, v1), none, none]) F (by decide) rfl rfl dX6_put_71 ?_
    refine fx_iload (pc := 73) F rfl dX6_put_73 ?_
    refine fx_nzeq (pc := 75) F 85 (by decide) dX6_put_75 (fun c40 => ?_) (fun c40 => ?_)
    · have hf := (if_pos c40).symm.trans hf
      refine fx_aload_n (pc := 78) (t := 6) F 0 rfl rfl dX6_put_78 ?_
      refine fx_bipush (pc := 79) F ⟨by decide, by decide⟩ (by decide) dX6_put_79 ?_
      obtain ⟨⟨v41, h42⟩, e43, hf⟩ := fx_bnd hf
      refine fx_cV (pc := 81) F 6 kC_X6 [(0, (-2))] this_0 [] (m_X6_bad Fu Λ this_0 (-2) h _ _ e43) kD_X6_bad kI_X6_bad rfl wM_X6_88 ⟨rfl, rfl⟩ ⟨by decide, by decide⟩ (Nat.le_of_ble_eq_true rfl) rfl dX6_put_81 ?_
      cases hf
      exact fx_ireturn (pc := 84) F K dX6_put_84
    · have hf := (if_neg c40).symm.trans hf
      obtain ⟨v44, e45, hf⟩ := fx_bnd hf
      have hJ46 : fx_J M G Λ 7 108 [some (8, this_0), some (0, what_0), some (0, i_0), some (0, v_0), some (0, v1), none, none] [(0, v44)] h := by
        refine fx_istore (pc := 108) (ls' := [some (8, this_0), some (0, what_0), some (0, i_0), some (0, v_0), some (0, v1), some (0, v44), none]) F (by decide) rfl rfl dX6_put_108 ?_
        refine fx_aload_n (pc := 110) (t := 6) F 0 rfl rfl dX6_put_110 ?_
        refine fx_gR (pc := 111) F 6 0 0 8 rfl kC_X6 (by decide) rfl wF_X6_7 dX6_put_111 ?_
        refine fx_iload (pc := 114) F rfl dX6_put_114 ?_
        obtain ⟨v52, e53, hf⟩ := fx_bnd hf
        refine fx_raldI (pc := 116) F e53 dX6_put_116 ?_
        refine fx_istore (pc := 117) (ls' := [some (8, this_0), some (0, what_0), some (0, i_0), some (0, v_0), some (0, v1), some (0, v44), some (0, v52)]) F (by decide) rfl rfl dX6_put_117 ?_
        refine fx_aload_n (pc := 119) (t := 6) F 0 rfl rfl dX6_put_119 ?_
        refine fx_gR (pc := 120) F 6 0 0 8 rfl kC_X6 (by decide) rfl wF_X6_7 dX6_put_120 ?_
        refine fx_iload (pc := 123) F rfl dX6_put_123 ?_
        refine fx_iload_n (pc := 125) F 3 rfl rfl dX6_put_125 ?_
        obtain ⟨h54, e55, hf⟩ := fx_bnd hf
        refine fx_rastI (pc := 126) F e55 dX6_put_126 ?_
        refine fx_iload (pc := 127) F rfl dX6_put_127 ?_
        cases hf
        exact fx_ireturn (pc := 129) F K dX6_put_129
      refine fx_iload_n (pc := 85) F 1 rfl rfl dX6_put_85 ?_
      refine fx_nzeq (pc := 86) F 96 (by decide) dX6_put_86 (fun c47 => ?_) (fun c47 => ?_)
      · have e45 := (if_pos c47).symm.trans e45
        refine fx_bipush (pc := 89) F ⟨by decide, by decide⟩ (by decide) dX6_put_89 ?_
        refine fx_iload_n (pc := 91) F 2 rfl rfl dX6_put_91 ?_
        refine fx_iadd (pc := 92) F dX6_put_92 ?_
        cases e45
        refine fx_goto (pc := 93) F 108 (by decide) dX6_put_93 ?_
        exact hJ46
      · have e45 := (if_neg c47).symm.trans e45
        obtain ⟨v48, e49, e45⟩ := fx_bnd e45
        have hJ50 : fx_J M G Λ 7 108 [some (8, this_0), some (0, what_0), some (0, i_0), some (0, v_0), some (0, v1), none, none] [(0, v48)] h := by
          cases e45
          exact hJ46
        refine fx_iload_n (pc := 96) F 1 rfl rfl dX6_put_96 ?_
        refine fx_iconst (pc := 97) F ⟨by decide, by decide⟩ dX6_put_97 ?_
        refine fx_neq (pc := 98) F 106 (by decide) dX6_put_98 (fun c51 => ?_) (fun c51 => ?_)
        · have e49 := (if_pos c51).symm.trans e49
          refine fx_bipush (pc := 101) F ⟨by decide, by decide⟩ (by decide) dX6_put_101 ?_
          cases e49
          refine fx_goto (pc := 103) F 108 (by decide) dX6_put_103 ?_
          exact hJ50
        · have e49 := (if_neg c51).symm.trans e49
          refine fx_bipush (pc := 106) F ⟨by decide, by decide⟩ (by decide) dX6_put_106 ?_
          cases e49
          exact hJ50
  refine fx_iload_n (pc := 0) F 1 rfl rfl dX6_put_0 ?_
  refine fx_nzeq (pc := 1) F 32 (by decide) dX6_put_1 (fun c4 => ?_) (fun c4 => ?_)
  · have e2 := (if_pos c4).symm.trans e2
    obtain ⟨v5, e6, e2⟩ := fx_bnd e2
    have hJ7 : fx_J M G Λ 7 71 [some (8, this_0), some (0, what_0), some (0, i_0), some (0, v_0), none, none, none] [(0, v5)] h := by
      cases e2
      exact hJ3
    obtain ⟨b8, e9, e6⟩ := fx_bnd e6
    have hT10 : b8 = true → fx_J M G Λ 7 24 [some (8, this_0), some (0, what_0), some (0, i_0), some (0, v_0), none, none, none] [] h := fun c18 => by
      have e6 := (if_pos c18).symm.trans e6
      refine fx_iconst (pc := 24) F ⟨by decide, by decide⟩ dX6_put_24 ?_
      cases e6
      refine fx_goto (pc := 25) F 71 (by decide) dX6_put_25 ?_
      exact hJ7
    have hF11 : ¬ b8 = true → fx_J M G Λ 7 28 [some (8, this_0), some (0, what_0), some (0, i_0), some (0, v_0), none, none, none] [] h := fun c18 => by
      have e6 := (if_neg c18).symm.trans e6
      refine fx_iconst (pc := 28) F ⟨by decide, by decide⟩ dX6_put_28 ?_
      cases e6
      refine fx_goto (pc := 29) F 71 (by decide) dX6_put_29 ?_
      exact hJ7
    refine fx_aload_n (pc := 4) (t := 6) F 0 rfl rfl dX6_put_4 ?_
    refine fx_iload_n (pc := 5) F 2 rfl rfl dX6_put_5 ?_
    obtain ⟨v12, e13, e9⟩ := fx_bnd e9
    refine fx_cV (pc := 6) F 6 kC_X6 [(0, i_0)] this_0 [] (m_X6_isHour Fu Λ this_0 i_0 h _ e13) kD_X6_isHour kI_X6_isHour rfl wM_X6_97 ⟨rfl, rfl⟩ ⟨by decide, by decide⟩ (Nat.le_of_ble_eq_true rfl) rfl dX6_put_6 ?_
    refine fx_nzne (pc := 9) F 28 (by decide) dX6_put_9 (fun c14 => ?_) (fun c14 => ?_)
    · have e9 := (if_pos c14).symm.trans e9
      refine fx_iload_n (pc := 12) F 3 rfl rfl dX6_put_12 ?_
      refine fx_ri2l (pc := 13) F dX6_put_13 ?_
      refine fx_lconst (pc := 14) (z := 0) F rfl ⟨by decide, by decide⟩ (by decide) dX6_put_14 ?_
      refine fx_ldc2 (pc := 15) (z := 5) F (by decide) ⟨by decide, by decide⟩ wK_X6_95 dX6_put_15 ?_
      obtain ⟨v15, e16, e9⟩ := fx_bnd e9
      refine fx_cS (pc := 18) F [(1, v_0), (1, 0), (1, 5)] [] (m_X6_in Fu Λ v_0 0 5 h _ e16) kD_X6_in wSt_X6_in wM_X6_74 ⟨rfl, rfl⟩ ⟨by decide, by decide⟩ (Nat.le_of_ble_eq_true rfl) rfl dX6_put_18 ?_
      refine fx_nzne (pc := 21) F 28 (by decide) dX6_put_21 (fun c17 => ?_) (fun c17 => ?_)
      · have e9 := (if_pos c17).symm.trans e9
        cases e9
        exact hT10 (by decide)
      · have e9 := (if_neg c17).symm.trans e9
        cases e9
        exact hF11 (by decide)
    · have e9 := (if_neg c14).symm.trans e9
      cases e9
      exact hF11 (by decide)
  · have e2 := (if_neg c4).symm.trans e2
    obtain ⟨v19, e20, e2⟩ := fx_bnd e2
    have hJ21 : fx_J M G Λ 7 71 [some (8, this_0), some (0, what_0), some (0, i_0), some (0, v_0), none, none, none] [(0, v19)] h := by
      cases e2
      exact hJ3
    obtain ⟨b22, e23, e20⟩ := fx_bnd e20
    have hT24 : b22 = true → fx_J M G Λ 7 66 [some (8, this_0), some (0, what_0), some (0, i_0), some (0, v_0), none, none, none] [] h := fun c39 => by
      have e20 := (if_pos c39).symm.trans e20
      refine fx_iconst (pc := 66) F ⟨by decide, by decide⟩ dX6_put_66 ?_
      cases e20
      refine fx_goto (pc := 67) F 71 (by decide) dX6_put_67 ?_
      exact hJ21
    have hF25 : ¬ b22 = true → fx_J M G Λ 7 70 [some (8, this_0), some (0, what_0), some (0, i_0), some (0, v_0), none, none, none] [] h := fun c39 => by
      have e20 := (if_neg c39).symm.trans e20
      refine fx_iconst (pc := 70) F ⟨by decide, by decide⟩ dX6_put_70 ?_
      cases e20
      exact hJ21
    refine fx_iload_n (pc := 32) F 2 rfl rfl dX6_put_32 ?_
    refine fx_nzeq (pc := 33) F 70 (by decide) dX6_put_33 (fun c26 => ?_) (fun c26 => ?_)
    · have e23 := (if_pos c26).symm.trans e23
      refine fx_iload_n (pc := 36) F 1 rfl rfl dX6_put_36 ?_
      refine fx_iconst (pc := 37) F ⟨by decide, by decide⟩ dX6_put_37 ?_
      refine fx_neq (pc := 38) F 53 (by decide) dX6_put_38 (fun c27 => ?_) (fun c27 => ?_)
      · have e23 := (if_pos c27).symm.trans e23
        refine fx_iload_n (pc := 41) F 3 rfl rfl dX6_put_41 ?_
        refine fx_ri2l (pc := 42) F dX6_put_42 ?_
        refine fx_lconst (pc := 43) (z := 0) F rfl ⟨by decide, by decide⟩ (by decide) dX6_put_43 ?_
        refine fx_ldc2 (pc := 44) (z := 4) F (by decide) ⟨by decide, by decide⟩ wK_X6_100 dX6_put_44 ?_
        obtain ⟨v28, e29, e23⟩ := fx_bnd e23
        refine fx_cS (pc := 47) F [(1, v_0), (1, 0), (1, 4)] [] (m_X6_in Fu Λ v_0 0 4 h _ e29) kD_X6_in wSt_X6_in wM_X6_74 ⟨rfl, rfl⟩ ⟨by decide, by decide⟩ (Nat.le_of_ble_eq_true rfl) rfl dX6_put_47 ?_
        refine fx_jzne (pc := 50) F 66 (by decide) dX6_put_50 (fun c30 => ?_) (fun c30 => ?_)
        · have e23 := (if_pos c30).symm.trans e23
          cases e23
          exact hT24 (by decide)
        · have e23 := (if_neg c30).symm.trans e23
          refine fx_iload_n (pc := 53) F 1 rfl rfl dX6_put_53 ?_
          refine fx_iconst (pc := 54) F ⟨by decide, by decide⟩ dX6_put_54 ?_
          refine fx_neq (pc := 55) F 70 (by decide) dX6_put_55 (fun c31 => ?_) (fun c31 => ?_)
          · have e23 := (if_pos c31).symm.trans e23
            refine fx_aload_n (pc := 58) (t := 6) F 0 rfl rfl dX6_put_58 ?_
            refine fx_iload_n (pc := 59) F 3 rfl rfl dX6_put_59 ?_
            obtain ⟨v32, e33, e23⟩ := fx_bnd e23
            refine fx_cV (pc := 60) F 6 kC_X6 [(0, v_0)] this_0 [] (m_X6_isOne Fu Λ this_0 v_0 h _ e33) kD_X6_isOne kI_X6_isOne rfl wM_X6_102 ⟨rfl, rfl⟩ ⟨by decide, by decide⟩ (Nat.le_of_ble_eq_true rfl) rfl dX6_put_60 ?_
            refine fx_nzne (pc := 63) F 70 (by decide) dX6_put_63 (fun c34 => ?_) (fun c34 => ?_)
            · have e23 := (if_pos c34).symm.trans e23
              cases e23
              exact hT24 (by decide)
            · have e23 := (if_neg c34).symm.trans e23
              cases e23
              exact hF25 (by decide)
          · have e23 := (if_neg c31).symm.trans e23
            cases e23
            exact hF25 (by decide)
      · have e23 := (if_neg c27).symm.trans e23
        refine fx_iload_n (pc := 53) F 1 rfl rfl dX6_put_53 ?_
        refine fx_iconst (pc := 54) F ⟨by decide, by decide⟩ dX6_put_54 ?_
        refine fx_neq (pc := 55) F 70 (by decide) dX6_put_55 (fun c35 => ?_) (fun c35 => ?_)
        · have e23 := (if_pos c35).symm.trans e23
          refine fx_aload_n (pc := 58) (t := 6) F 0 rfl rfl dX6_put_58 ?_
          refine fx_iload_n (pc := 59) F 3 rfl rfl dX6_put_59 ?_
          obtain ⟨v36, e37, e23⟩ := fx_bnd e23
          refine fx_cV (pc := 60) F 6 kC_X6 [(0, v_0)] this_0 [] (m_X6_isOne Fu Λ this_0 v_0 h _ e37) kD_X6_isOne kI_X6_isOne rfl wM_X6_102 ⟨rfl, rfl⟩ ⟨by decide, by decide⟩ (Nat.le_of_ble_eq_true rfl) rfl dX6_put_60 ?_
          refine fx_nzne (pc := 63) F 70 (by decide) dX6_put_63 (fun c38 => ?_) (fun c38 => ?_)
          · have e23 := (if_pos c38).symm.trans e23
            cases e23
            exact hT24 (by decide)
          · have e23 := (if_neg c38).symm.trans e23
            cases e23
            exact hF25 (by decide)
        · have e23 := (if_neg c35).symm.trans e23
          cases e23
          exact hF25 (by decide)
    · have e23 := (if_neg c26).symm.trans e23
      cases e23
      exact hF25 (by decide)
def s_X6_does_1 (Fu : Nat) (Λ : fx_L) (this_27 : Int) : Int × fx_H → Option ((Int × fx_H) ⊕ (Int × fx_H)) := fun (k_25, h26) =>
  if k_25 < 27 then
    (fx_rd Λ h26 (fx_tg Λ this_27 0) (fx_w (98 + k_25))).bind fun v30 =>
    (fx_wr Λ h26 (fx_tg Λ this_27 0) (fx_w (95 + k_25)) v30).bind fun h32 =>
    some (.inl ((fx_w (k_25 + 1)), h32))
  else
    some (.inr (k_25, h26))
def f_X6_does (Fu : Nat) (Λ : fx_L) (this_0 : Int) (person_0 : Int) (hour_0 : Int) (thing_0 : Int) (h : fx_H) : Option (Int × fx_H) :=
  Option.bind (
    (f_X6_isOne Fu Λ this_0 person_0 h).bind fun v5 =>
    if v5 = 0 then
      some true
    else
      (f_X6_isHour Fu Λ this_0 hour_0 h).bind fun v8 =>
      if v8 = 0 then
        some true
      else
        if ¬ thing_0 = (-1) then
          (f_X6_isThing Fu Λ this_0 thing_0 h).bind fun v12 =>
          if v12 = 0 then
            some true
          else
            some false
        else
          some false
  ) fun b1 =>
  if b1 = true then
    (f_X6_bad Fu Λ this_0 (-10) h).bind fun (v16, h17) =>
    some (v16, h17)
  else
    Option.bind (
      (fx_rd Λ h (fx_tg Λ this_0 0) 94).bind fun v22 =>
      if v22 = 10 then
        Option.bind (fx_loop (s_X6_does_1 Fu Λ this_0) Fu (0, h)) fun (k_42, h43) =>
        (fx_wr Λ h43 (fx_tg Λ this_0 0) 94 9).bind fun h46 =>
        some h46
      else
        some h
    ) fun h19 =>
    (fx_rd Λ h19 (fx_tg Λ this_0 0) (fx_w ((fx_w (19 + (fx_w (5 * person_0)))) + hour_0))).bind fun v48 =>
    (fx_rd Λ h19 (fx_tg Λ this_0 0) 94).bind fun v50 =>
    (fx_wr Λ h19 (fx_tg Λ this_0 0) (fx_w (95 + (fx_w (3 * v50)))) person_0).bind fun h52 =>
    (fx_wr Λ h52 (fx_tg Λ this_0 0) (fx_w ((fx_w (95 + (fx_w (3 * v50)))) + 1)) hour_0).bind fun h54 =>
    (fx_wr Λ h54 (fx_tg Λ this_0 0) (fx_w ((fx_w (95 + (fx_w (3 * v50)))) + 2)) v48).bind fun h56 =>
    (fx_rd Λ h56 (fx_tg Λ this_0 0) 94).bind fun v58 =>
    (fx_wr Λ h56 (fx_tg Λ this_0 0) 94 (fx_w (v58 + 1))).bind fun h60 =>
    (fx_wr Λ h60 (fx_tg Λ this_0 0) (fx_w ((fx_w (19 + (fx_w (5 * person_0)))) + hour_0)) thing_0).bind fun h62 =>
    some (v48, h62)
abbrev rm_X6_does : Room := { frames := 2, cells := 0, slots := 0, locals := 46 }
set_option maxRecDepth 100000 in
set_option maxHeartbeats 4000000 in
theorem m_X6_does (Fu : Nat) (Λ : fx_L) (this_0 : Int) (person_0 : Int) (hour_0 : Int) (thing_0 : Int) (h : fx_H) (r : Int) (ho : fx_H) (hf : f_X6_does Fu Λ this_0 person_0 hour_0 thing_0 h = some (r, ho)) : fx_Met yX6_does cX6_does 6 (some .int) rm_X6_does Λ [(8, this_0), (0, person_0), (0, hour_0), (0, thing_0)] h (some (0, r)) ho := by
  unfold f_X6_does at hf
  refine fx_enter (ls := [some (8, this_0), some (0, person_0), some (0, hour_0), some (0, thing_0), none, none]) (by decide) (Nat.le_of_ble_eq_true rfl) rfl (fun M G F K => ?_)
  obtain ⟨b1, e2, hf⟩ := fx_bnd hf
  have hT3 : b1 = true → fx_J M G Λ 6 29 [some (8, this_0), some (0, person_0), some (0, hour_0), some (0, thing_0), none, none] [] h := fun c15 => by
    have hf := (if_pos c15).symm.trans hf
    refine fx_aload_n (pc := 29) (t := 6) F 0 rfl rfl dX6_does_29 ?_
    refine fx_bipush (pc := 30) F ⟨by decide, by decide⟩ (by decide) dX6_does_30 ?_
    obtain ⟨⟨v16, h17⟩, e18, hf⟩ := fx_bnd hf
    refine fx_cV (pc := 32) F 6 kC_X6 [(0, (-10))] this_0 [] (m_X6_bad Fu Λ this_0 (-10) h _ _ e18) kD_X6_bad kI_X6_bad rfl wM_X6_88 ⟨rfl, rfl⟩ ⟨by decide, by decide⟩ (Nat.le_of_ble_eq_true rfl) rfl dX6_does_32 ?_
    cases hf
    exact fx_ireturn (pc := 35) F K dX6_does_35
  have hF4 : ¬ b1 = true → fx_J M G Λ 6 36 [some (8, this_0), some (0, person_0), some (0, hour_0), some (0, thing_0), none, none] [] h := fun c15 => by
    have hf := (if_neg c15).symm.trans hf
    obtain ⟨h19, e20, hf⟩ := fx_bnd hf
    have hJ21 : fx_J M G Λ 6 93 [some (8, this_0), some (0, person_0), some (0, hour_0), some (0, thing_0), none, none] [] h19 := by
      refine fx_aload_n (pc := 93) (t := 6) F 0 rfl rfl dX6_does_93 ?_
      refine fx_gR (pc := 94) F 6 0 0 8 rfl kC_X6 (by decide) rfl wF_X6_7 dX6_does_94 ?_
      refine fx_bipush (pc := 97) F ⟨by decide, by decide⟩ (by decide) dX6_does_97 ?_
      refine fx_iconst (pc := 99) F ⟨by decide, by decide⟩ dX6_does_99 ?_
      refine fx_iload_n (pc := 100) F 1 rfl rfl dX6_does_100 ?_
      refine fx_imul (pc := 101) F dX6_does_101 ?_
      refine fx_iadd (pc := 102) F dX6_does_102 ?_
      refine fx_iload_n (pc := 103) F 2 rfl rfl dX6_does_103 ?_
      refine fx_iadd (pc := 104) F dX6_does_104 ?_
      obtain ⟨v48, e49, hf⟩ := fx_bnd hf
      refine fx_raldI (pc := 105) F e49 dX6_does_105 ?_
      refine fx_istore (pc := 106) (ls' := [some (8, this_0), some (0, person_0), some (0, hour_0), some (0, thing_0), some (0, v48), none]) F (by decide) rfl rfl dX6_does_106 ?_
      refine fx_bipush (pc := 108) F ⟨by decide, by decide⟩ (by decide) dX6_does_108 ?_
      refine fx_iconst (pc := 110) F ⟨by decide, by decide⟩ dX6_does_110 ?_
      refine fx_aload_n (pc := 111) (t := 6) F 0 rfl rfl dX6_does_111 ?_
      refine fx_gR (pc := 112) F 6 0 0 8 rfl kC_X6 (by decide) rfl wF_X6_7 dX6_does_112 ?_
      refine fx_bipush (pc := 115) F ⟨by decide, by decide⟩ (by decide) dX6_does_115 ?_
      obtain ⟨v50, e51, hf⟩ := fx_bnd hf
      refine fx_raldI (pc := 117) F e51 dX6_does_117 ?_
      refine fx_imul (pc := 118) F dX6_does_118 ?_
      refine fx_iadd (pc := 119) F dX6_does_119 ?_
      refine fx_istore (pc := 120) (ls' := [some (8, this_0), some (0, person_0), some (0, hour_0), some (0, thing_0), some (0, v48), some (0, (fx_w (95 + (fx_w (3 * v50)))))]) F (by decide) rfl rfl dX6_does_120 ?_
      refine fx_aload_n (pc := 122) (t := 6) F 0 rfl rfl dX6_does_122 ?_
      refine fx_gR (pc := 123) F 6 0 0 8 rfl kC_X6 (by decide) rfl wF_X6_7 dX6_does_123 ?_
      refine fx_iload (pc := 126) F rfl dX6_does_126 ?_
      refine fx_iload_n (pc := 128) F 1 rfl rfl dX6_does_128 ?_
      obtain ⟨h52, e53, hf⟩ := fx_bnd hf
      refine fx_rastI (pc := 129) F e53 dX6_does_129 ?_
      refine fx_aload_n (pc := 130) (t := 6) F 0 rfl rfl dX6_does_130 ?_
      refine fx_gR (pc := 131) F 6 0 0 8 rfl kC_X6 (by decide) rfl wF_X6_7 dX6_does_131 ?_
      refine fx_iload (pc := 134) F rfl dX6_does_134 ?_
      refine fx_iconst (pc := 136) F ⟨by decide, by decide⟩ dX6_does_136 ?_
      refine fx_iadd (pc := 137) F dX6_does_137 ?_
      refine fx_iload_n (pc := 138) F 2 rfl rfl dX6_does_138 ?_
      obtain ⟨h54, e55, hf⟩ := fx_bnd hf
      refine fx_rastI (pc := 139) F e55 dX6_does_139 ?_
      refine fx_aload_n (pc := 140) (t := 6) F 0 rfl rfl dX6_does_140 ?_
      refine fx_gR (pc := 141) F 6 0 0 8 rfl kC_X6 (by decide) rfl wF_X6_7 dX6_does_141 ?_
      refine fx_iload (pc := 144) F rfl dX6_does_144 ?_
      refine fx_iconst (pc := 146) F ⟨by decide, by decide⟩ dX6_does_146 ?_
      refine fx_iadd (pc := 147) F dX6_does_147 ?_
      refine fx_iload (pc := 148) F rfl dX6_does_148 ?_
      obtain ⟨h56, e57, hf⟩ := fx_bnd hf
      refine fx_rastI (pc := 150) F e57 dX6_does_150 ?_
      refine fx_aload_n (pc := 151) (t := 6) F 0 rfl rfl dX6_does_151 ?_
      refine fx_gR (pc := 152) F 6 0 0 8 rfl kC_X6 (by decide) rfl wF_X6_7 dX6_does_152 ?_
      refine fx_bipush (pc := 155) F ⟨by decide, by decide⟩ (by decide) dX6_does_155 ?_
      refine fx_dup2 (pc := 157) F (show (0 : Nat) ≠ 1 by decide) (show (10 : Nat) ≠ 1 by decide) dX6_does_157 ?_
      obtain ⟨v58, e59, hf⟩ := fx_bnd hf
      refine fx_raldI (pc := 158) F e59 dX6_does_158 ?_
      refine fx_iconst (pc := 159) F ⟨by decide, by decide⟩ dX6_does_159 ?_
      refine fx_iadd (pc := 160) F dX6_does_160 ?_
      obtain ⟨h60, e61, hf⟩ := fx_bnd hf
      refine fx_rastI (pc := 161) F e61 dX6_does_161 ?_
      refine fx_aload_n (pc := 162) (t := 6) F 0 rfl rfl dX6_does_162 ?_
      refine fx_gR (pc := 163) F 6 0 0 8 rfl kC_X6 (by decide) rfl wF_X6_7 dX6_does_163 ?_
      refine fx_bipush (pc := 166) F ⟨by decide, by decide⟩ (by decide) dX6_does_166 ?_
      refine fx_iconst (pc := 168) F ⟨by decide, by decide⟩ dX6_does_168 ?_
      refine fx_iload_n (pc := 169) F 1 rfl rfl dX6_does_169 ?_
      refine fx_imul (pc := 170) F dX6_does_170 ?_
      refine fx_iadd (pc := 171) F dX6_does_171 ?_
      refine fx_iload_n (pc := 172) F 2 rfl rfl dX6_does_172 ?_
      refine fx_iadd (pc := 173) F dX6_does_173 ?_
      refine fx_iload_n (pc := 174) F 3 rfl rfl dX6_does_174 ?_
      obtain ⟨h62, e63, hf⟩ := fx_bnd hf
      refine fx_rastI (pc := 175) F e63 dX6_does_175 ?_
      refine fx_iload (pc := 176) F rfl dX6_does_176 ?_
      cases hf
      exact fx_ireturn (pc := 178) F K dX6_does_178
    refine fx_aload_n (pc := 36) (t := 6) F 0 rfl rfl dX6_does_36 ?_
    refine fx_gR (pc := 37) F 6 0 0 8 rfl kC_X6 (by decide) rfl wF_X6_7 dX6_does_37 ?_
    refine fx_bipush (pc := 40) F ⟨by decide, by decide⟩ (by decide) dX6_does_40 ?_
    obtain ⟨v22, e23, e20⟩ := fx_bnd e20
    refine fx_raldI (pc := 42) F e23 dX6_does_42 ?_
    refine fx_bipush (pc := 43) F ⟨by decide, by decide⟩ (by decide) dX6_does_43 ?_
    refine fx_neq (pc := 45) F 93 (by decide) dX6_does_45 (fun c24 => ?_) (fun c24 => ?_)
    · have e20 := (if_pos c24).symm.trans e20
      refine fx_iconst (pc := 48) F ⟨by decide, by decide⟩ dX6_does_48 ?_
      refine fx_istore (pc := 49) (ls' := [some (8, this_0), some (0, person_0), some (0, hour_0), some (0, thing_0), some (0, 0), none]) F (by decide) rfl rfl dX6_does_49 ?_
      obtain ⟨⟨k_42, h43⟩, e44, e20⟩ := fx_bnd e20
      have hE45 : fx_J M G Λ 6 84 [some (8, this_0), some (0, person_0), some (0, hour_0), some (0, thing_0), some (0, k_42), none] [] h43 := by
        refine fx_aload_n (pc := 84) (t := 6) F 0 rfl rfl dX6_does_84 ?_
        refine fx_gR (pc := 85) F 6 0 0 8 rfl kC_X6 (by decide) rfl wF_X6_7 dX6_does_85 ?_
        refine fx_bipush (pc := 88) F ⟨by decide, by decide⟩ (by decide) dX6_does_88 ?_
        refine fx_bipush (pc := 90) F ⟨by decide, by decide⟩ (by decide) dX6_does_90 ?_
        obtain ⟨h46, e47, e20⟩ := fx_bnd e20
        refine fx_rastI (pc := 92) F e47 dX6_does_92 ?_
        cases e20
        refine fx_drop (ls' := [some (8, this_0), some (0, person_0), some (0, hour_0), some (0, thing_0), none, none]) ⟨rfl, rfl, rfl, rfl, trivial⟩ ?_
        exact hJ21
      refine fx_loop_J (Hd := (fun z : Int × fx_H => fx_J M G Λ 6 51 [some (8, this_0), some (0, person_0), some (0, hour_0), some (0, thing_0), some (0, z.1), none] [] z.2)) (Ex := (fun z : Int × fx_H => fx_J M G Λ 6 84 [some (8, this_0), some (0, person_0), some (0, hour_0), some (0, thing_0), some (0, z.1), none] [] z.2)) ?_ Fu _ _ e44 hE45
      rintro ⟨k_34, h35⟩ o9 eq36 ih ex
      unfold s_X6_does_1 at eq36
      show fx_J M G Λ 6 51 [some (8, this_0), some (0, person_0), some (0, hour_0), some (0, thing_0), some (0, k_34), none] [] h35
      refine fx_iload (pc := 51) F rfl dX6_does_51 ?_
      refine fx_bipush (pc := 53) F ⟨by decide, by decide⟩ (by decide) dX6_does_53 ?_
      refine fx_nlt (pc := 55) F 84 (by decide) dX6_does_55 (fun c37 => ?_) (fun c37 => ?_)
      · have eq36 := (if_pos c37).symm.trans eq36
        refine fx_aload_n (pc := 58) (t := 6) F 0 rfl rfl dX6_does_58 ?_
        refine fx_gR (pc := 59) F 6 0 0 8 rfl kC_X6 (by decide) rfl wF_X6_7 dX6_does_59 ?_
        refine fx_bipush (pc := 62) F ⟨by decide, by decide⟩ (by decide) dX6_does_62 ?_
        refine fx_iload (pc := 64) F rfl dX6_does_64 ?_
        refine fx_iadd (pc := 66) F dX6_does_66 ?_
        refine fx_aload_n (pc := 67) (t := 6) F 0 rfl rfl dX6_does_67 ?_
        refine fx_gR (pc := 68) F 6 0 0 8 rfl kC_X6 (by decide) rfl wF_X6_7 dX6_does_68 ?_
        refine fx_bipush (pc := 71) F ⟨by decide, by decide⟩ (by decide) dX6_does_71 ?_
        refine fx_iload (pc := 73) F rfl dX6_does_73 ?_
        refine fx_iadd (pc := 75) F dX6_does_75 ?_
        obtain ⟨v38, e39, eq36⟩ := fx_bnd eq36
        refine fx_raldI (pc := 76) F e39 dX6_does_76 ?_
        obtain ⟨h40, e41, eq36⟩ := fx_bnd eq36
        refine fx_rastI (pc := 77) F e41 dX6_does_77 ?_
        refine fx_iinc (pc := 78) (ls' := [some (8, this_0), some (0, person_0), some (0, hour_0), some (0, thing_0), some (0, (fx_w (k_34 + 1))), none]) F (by decide) rfl rfl rfl dX6_does_78 ?_
        refine fx_goto (pc := 81) F 51 (by decide) dX6_does_81 ?_
        cases eq36
        exact ih _ rfl
      · have eq36 := (if_neg c37).symm.trans eq36
        cases eq36
        exact ex _ rfl
    · have e20 := (if_neg c24).symm.trans e20
      cases e20
      exact hJ21
  refine fx_aload_n (pc := 0) (t := 6) F 0 rfl rfl dX6_does_0 ?_
  refine fx_iload_n (pc := 1) F 1 rfl rfl dX6_does_1 ?_
  obtain ⟨v5, e6, e2⟩ := fx_bnd e2
  refine fx_cV (pc := 2) F 6 kC_X6 [(0, person_0)] this_0 [] (m_X6_isOne Fu Λ this_0 person_0 h _ e6) kD_X6_isOne kI_X6_isOne rfl wM_X6_102 ⟨rfl, rfl⟩ ⟨by decide, by decide⟩ (Nat.le_of_ble_eq_true rfl) rfl dX6_does_2 ?_
  refine fx_jzeq (pc := 5) F 29 (by decide) dX6_does_5 (fun c7 => ?_) (fun c7 => ?_)
  · have e2 := (if_pos c7).symm.trans e2
    cases e2
    exact hT3 (by decide)
  · have e2 := (if_neg c7).symm.trans e2
    refine fx_aload_n (pc := 8) (t := 6) F 0 rfl rfl dX6_does_8 ?_
    refine fx_iload_n (pc := 9) F 2 rfl rfl dX6_does_9 ?_
    obtain ⟨v8, e9, e2⟩ := fx_bnd e2
    refine fx_cV (pc := 10) F 6 kC_X6 [(0, hour_0)] this_0 [] (m_X6_isHour Fu Λ this_0 hour_0 h _ e9) kD_X6_isHour kI_X6_isHour rfl wM_X6_97 ⟨rfl, rfl⟩ ⟨by decide, by decide⟩ (Nat.le_of_ble_eq_true rfl) rfl dX6_does_10 ?_
    refine fx_jzeq (pc := 13) F 29 (by decide) dX6_does_13 (fun c10 => ?_) (fun c10 => ?_)
    · have e2 := (if_pos c10).symm.trans e2
      cases e2
      exact hT3 (by decide)
    · have e2 := (if_neg c10).symm.trans e2
      refine fx_iload_n (pc := 16) F 3 rfl rfl dX6_does_16 ?_
      refine fx_iconst (pc := 17) F ⟨by decide, by decide⟩ dX6_does_17 ?_
      refine fx_nne (pc := 18) F 36 (by decide) dX6_does_18 (fun c11 => ?_) (fun c11 => ?_)
      · have e2 := (if_pos c11).symm.trans e2
        refine fx_aload_n (pc := 21) (t := 6) F 0 rfl rfl dX6_does_21 ?_
        refine fx_iload_n (pc := 22) F 3 rfl rfl dX6_does_22 ?_
        obtain ⟨v12, e13, e2⟩ := fx_bnd e2
        refine fx_cV (pc := 23) F 6 kC_X6 [(0, thing_0)] this_0 [] (m_X6_isThing Fu Λ this_0 thing_0 h _ e13) kD_X6_isThing kI_X6_isThing rfl wM_X6_84 ⟨rfl, rfl⟩ ⟨by decide, by decide⟩ (Nat.le_of_ble_eq_true rfl) rfl dX6_does_23 ?_
        refine fx_nzeq (pc := 26) F 36 (by decide) dX6_does_26 (fun c14 => ?_) (fun c14 => ?_)
        · have e2 := (if_pos c14).symm.trans e2
          cases e2
          exact hT3 (by decide)
        · have e2 := (if_neg c14).symm.trans e2
          cases e2
          exact hF4 (by decide)
      · have e2 := (if_neg c11).symm.trans e2
        cases e2
        exact hF4 (by decide)
def f_X6_undo (Fu : Nat) (Λ : fx_L) (this_0 : Int) (h : fx_H) : Option (Int × fx_H) :=
  (fx_rd Λ h (fx_tg Λ this_0 0) 94).bind fun v1 =>
  if v1 = 0 then
    (f_X6_no Fu Λ this_0 h).bind fun (v4, h5) =>
    some (v4, h5)
  else
    (fx_rd Λ h (fx_tg Λ this_0 0) 94).bind fun v7 =>
    (fx_wr Λ h (fx_tg Λ this_0 0) 94 (fx_w (v7 - 1))).bind fun h9 =>
    (fx_rd Λ h9 (fx_tg Λ this_0 0) 94).bind fun v11 =>
    (fx_rd Λ h9 (fx_tg Λ this_0 0) (fx_w (95 + (fx_w (3 * v11))))).bind fun v13 =>
    (fx_rd Λ h9 (fx_tg Λ this_0 0) (fx_w ((fx_w (95 + (fx_w (3 * v11)))) + 1))).bind fun v15 =>
    (fx_rd Λ h9 (fx_tg Λ this_0 0) (fx_w ((fx_w (95 + (fx_w (3 * v11)))) + 2))).bind fun v17 =>
    (fx_wr Λ h9 (fx_tg Λ this_0 0) (fx_w ((fx_w (19 + (fx_w (5 * v13)))) + v15)) v17).bind fun h19 =>
    some (1, h19)
abbrev rm_X6_undo : Room := { frames := 1, cells := 0, slots := 0, locals := 20 }
set_option maxRecDepth 100000 in
set_option maxHeartbeats 4000000 in
theorem m_X6_undo (Fu : Nat) (Λ : fx_L) (this_0 : Int) (h : fx_H) (r : Int) (ho : fx_H) (hf : f_X6_undo Fu Λ this_0 h = some (r, ho)) : fx_Met yX6_undo cX6_undo 2 (some .int) rm_X6_undo Λ [(8, this_0)] h (some (0, r)) ho := by
  unfold f_X6_undo at hf
  refine fx_enter (ls := [some (8, this_0), none]) (by decide) (Nat.le_of_ble_eq_true rfl) rfl (fun M G F K => ?_)
  refine fx_aload_n (pc := 0) (t := 6) F 0 rfl rfl dX6_undo_0 ?_
  refine fx_gR (pc := 1) F 6 0 0 8 rfl kC_X6 (by decide) rfl wF_X6_7 dX6_undo_1 ?_
  refine fx_bipush (pc := 4) F ⟨by decide, by decide⟩ (by decide) dX6_undo_4 ?_
  obtain ⟨v1, e2, hf⟩ := fx_bnd hf
  refine fx_raldI (pc := 6) F e2 dX6_undo_6 ?_
  refine fx_nzeq (pc := 7) F 15 (by decide) dX6_undo_7 (fun c3 => ?_) (fun c3 => ?_)
  · have hf := (if_pos c3).symm.trans hf
    refine fx_aload_n (pc := 10) (t := 6) F 0 rfl rfl dX6_undo_10 ?_
    obtain ⟨⟨v4, h5⟩, e6, hf⟩ := fx_bnd hf
    refine fx_cV (pc := 11) F 6 kC_X6 [] this_0 [] (m_X6_no Fu Λ this_0 h _ _ e6) kD_X6_no kI_X6_no rfl wM_X6_105 ⟨rfl, rfl⟩ ⟨by decide, by decide⟩ (Nat.le_of_ble_eq_true rfl) rfl dX6_undo_11 ?_
    cases hf
    exact fx_ireturn (pc := 14) F K dX6_undo_14
  · have hf := (if_neg c3).symm.trans hf
    refine fx_aload_n (pc := 15) (t := 6) F 0 rfl rfl dX6_undo_15 ?_
    refine fx_gR (pc := 16) F 6 0 0 8 rfl kC_X6 (by decide) rfl wF_X6_7 dX6_undo_16 ?_
    refine fx_bipush (pc := 19) F ⟨by decide, by decide⟩ (by decide) dX6_undo_19 ?_
    refine fx_dup2 (pc := 21) F (show (0 : Nat) ≠ 1 by decide) (show (10 : Nat) ≠ 1 by decide) dX6_undo_21 ?_
    obtain ⟨v7, e8, hf⟩ := fx_bnd hf
    refine fx_raldI (pc := 22) F e8 dX6_undo_22 ?_
    refine fx_iconst (pc := 23) F ⟨by decide, by decide⟩ dX6_undo_23 ?_
    refine fx_isub (pc := 24) F dX6_undo_24 ?_
    obtain ⟨h9, e10, hf⟩ := fx_bnd hf
    refine fx_rastI (pc := 25) F e10 dX6_undo_25 ?_
    refine fx_bipush (pc := 26) F ⟨by decide, by decide⟩ (by decide) dX6_undo_26 ?_
    refine fx_iconst (pc := 28) F ⟨by decide, by decide⟩ dX6_undo_28 ?_
    refine fx_aload_n (pc := 29) (t := 6) F 0 rfl rfl dX6_undo_29 ?_
    refine fx_gR (pc := 30) F 6 0 0 8 rfl kC_X6 (by decide) rfl wF_X6_7 dX6_undo_30 ?_
    refine fx_bipush (pc := 33) F ⟨by decide, by decide⟩ (by decide) dX6_undo_33 ?_
    obtain ⟨v11, e12, hf⟩ := fx_bnd hf
    refine fx_raldI (pc := 35) F e12 dX6_undo_35 ?_
    refine fx_imul (pc := 36) F dX6_undo_36 ?_
    refine fx_iadd (pc := 37) F dX6_undo_37 ?_
    refine fx_istore_n (pc := 38) (ls' := [some (8, this_0), some (0, (fx_w (95 + (fx_w (3 * v11)))))]) F 1 rfl (by decide) rfl rfl dX6_undo_38 ?_
    refine fx_aload_n (pc := 39) (t := 6) F 0 rfl rfl dX6_undo_39 ?_
    refine fx_gR (pc := 40) F 6 0 0 8 rfl kC_X6 (by decide) rfl wF_X6_7 dX6_undo_40 ?_
    refine fx_bipush (pc := 43) F ⟨by decide, by decide⟩ (by decide) dX6_undo_43 ?_
    refine fx_iconst (pc := 45) F ⟨by decide, by decide⟩ dX6_undo_45 ?_
    refine fx_aload_n (pc := 46) (t := 6) F 0 rfl rfl dX6_undo_46 ?_
    refine fx_gR (pc := 47) F 6 0 0 8 rfl kC_X6 (by decide) rfl wF_X6_7 dX6_undo_47 ?_
    refine fx_iload_n (pc := 50) F 1 rfl rfl dX6_undo_50 ?_
    obtain ⟨v13, e14, hf⟩ := fx_bnd hf
    refine fx_raldI (pc := 51) F e14 dX6_undo_51 ?_
    refine fx_imul (pc := 52) F dX6_undo_52 ?_
    refine fx_iadd (pc := 53) F dX6_undo_53 ?_
    refine fx_aload_n (pc := 54) (t := 6) F 0 rfl rfl dX6_undo_54 ?_
    refine fx_gR (pc := 55) F 6 0 0 8 rfl kC_X6 (by decide) rfl wF_X6_7 dX6_undo_55 ?_
    refine fx_iload_n (pc := 58) F 1 rfl rfl dX6_undo_58 ?_
    refine fx_iconst (pc := 59) F ⟨by decide, by decide⟩ dX6_undo_59 ?_
    refine fx_iadd (pc := 60) F dX6_undo_60 ?_
    obtain ⟨v15, e16, hf⟩ := fx_bnd hf
    refine fx_raldI (pc := 61) F e16 dX6_undo_61 ?_
    refine fx_iadd (pc := 62) F dX6_undo_62 ?_
    refine fx_aload_n (pc := 63) (t := 6) F 0 rfl rfl dX6_undo_63 ?_
    refine fx_gR (pc := 64) F 6 0 0 8 rfl kC_X6 (by decide) rfl wF_X6_7 dX6_undo_64 ?_
    refine fx_iload_n (pc := 67) F 1 rfl rfl dX6_undo_67 ?_
    refine fx_iconst (pc := 68) F ⟨by decide, by decide⟩ dX6_undo_68 ?_
    refine fx_iadd (pc := 69) F dX6_undo_69 ?_
    obtain ⟨v17, e18, hf⟩ := fx_bnd hf
    refine fx_raldI (pc := 70) F e18 dX6_undo_70 ?_
    obtain ⟨h19, e20, hf⟩ := fx_bnd hf
    refine fx_rastI (pc := 71) F e20 dX6_undo_71 ?_
    refine fx_iconst (pc := 72) F ⟨by decide, by decide⟩ dX6_undo_72 ?_
    cases hf
    exact fx_ireturn (pc := 73) F K dX6_undo_73
def s_X6_needsOf_1 (Fu : Nat) (Λ : fx_L) (row_3 : Int) (p_4 : Int) (h : fx_H) : Int × Int → Option ((Int × Int) ⊕ (Int × Int)) := fun (sum_1, t_2) =>
  if t_2 < 9 then
    (fx_rd Λ h row_3 (fx_w ((fx_w (44 + (fx_w (9 * p_4)))) + t_2))).bind fun v7 =>
    some (.inl ((fx_w (sum_1 + v7)), (fx_w (t_2 + 1))))
  else
    some (.inr (sum_1, t_2))
def f_X6_needsOf (Fu : Nat) (Λ : fx_L) (row_0 : Int) (p_0 : Int) (h : fx_H) : Option (Int) :=
  Option.bind (fx_loop (s_X6_needsOf_1 Fu Λ row_0 p_0 h) Fu (0, 0)) fun (sum_15, t_16) =>
  some sum_15
abbrev rm_X6_needsOf : Room := { frames := 0, cells := 0, slots := 0, locals := 0 }
set_option maxRecDepth 100000 in
set_option maxHeartbeats 4000000 in
theorem m_X6_needsOf (Fu : Nat) (Λ : fx_L) (row_0 : Int) (p_0 : Int) (h : fx_H) (r : Int) (hf : f_X6_needsOf Fu Λ row_0 p_0 h = some r) : fx_Met yX6_needsOf cX6_needsOf 4 (some .int) rm_X6_needsOf Λ [(10, row_0), (0, p_0)] h (some (0, r)) h := by
  unfold f_X6_needsOf at hf
  refine fx_enter (ls := [some (10, row_0), some (0, p_0), none, none]) (by decide) (Nat.le_of_ble_eq_true rfl) rfl (fun M G F K => ?_)
  refine fx_iconst (pc := 0) F ⟨by decide, by decide⟩ dX6_needsOf_0 ?_
  refine fx_istore_n (pc := 1) (ls' := [some (10, row_0), some (0, p_0), some (0, 0), none]) F 2 rfl (by decide) rfl rfl dX6_needsOf_1 ?_
  refine fx_iconst (pc := 2) F ⟨by decide, by decide⟩ dX6_needsOf_2 ?_
  refine fx_istore_n (pc := 3) (ls' := [some (10, row_0), some (0, p_0), some (0, 0), some (0, 0)]) F 3 rfl (by decide) rfl rfl dX6_needsOf_3 ?_
  obtain ⟨⟨sum_15, t_16⟩, e17, hf⟩ := fx_bnd hf
  have hE18 : fx_J M G Λ 4 30 [some (10, row_0), some (0, p_0), some (0, sum_15), some (0, t_16)] [] h := by
    refine fx_iload_n (pc := 30) F 2 rfl rfl dX6_needsOf_30 ?_
    cases hf
    exact fx_ireturn (pc := 31) F K dX6_needsOf_31
  refine fx_loop_J (Hd := (fun z : Int × Int => fx_J M G Λ 4 4 [some (10, row_0), some (0, p_0), some (0, z.1), some (0, z.2)] [] h)) (Ex := (fun z : Int × Int => fx_J M G Λ 4 30 [some (10, row_0), some (0, p_0), some (0, z.1), some (0, z.2)] [] h)) ?_ Fu _ _ e17 hE18
  rintro ⟨sum_9, t_10⟩ o9 eq11 ih ex
  unfold s_X6_needsOf_1 at eq11
  show fx_J M G Λ 4 4 [some (10, row_0), some (0, p_0), some (0, sum_9), some (0, t_10)] [] h
  refine fx_iload_n (pc := 4) F 3 rfl rfl dX6_needsOf_4 ?_
  refine fx_bipush (pc := 5) F ⟨by decide, by decide⟩ (by decide) dX6_needsOf_5 ?_
  refine fx_nlt (pc := 7) F 30 (by decide) dX6_needsOf_7 (fun c12 => ?_) (fun c12 => ?_)
  · have eq11 := (if_pos c12).symm.trans eq11
    refine fx_iload_n (pc := 10) F 2 rfl rfl dX6_needsOf_10 ?_
    refine fx_aload_n (pc := 11) (t := 8) F 0 rfl rfl dX6_needsOf_11 ?_
    refine fx_bipush (pc := 12) F ⟨by decide, by decide⟩ (by decide) dX6_needsOf_12 ?_
    refine fx_bipush (pc := 14) F ⟨by decide, by decide⟩ (by decide) dX6_needsOf_14 ?_
    refine fx_iload_n (pc := 16) F 1 rfl rfl dX6_needsOf_16 ?_
    refine fx_imul (pc := 17) F dX6_needsOf_17 ?_
    refine fx_iadd (pc := 18) F dX6_needsOf_18 ?_
    refine fx_iload_n (pc := 19) F 3 rfl rfl dX6_needsOf_19 ?_
    refine fx_iadd (pc := 20) F dX6_needsOf_20 ?_
    obtain ⟨v13, e14, eq11⟩ := fx_bnd eq11
    refine fx_raldI (pc := 21) F e14 dX6_needsOf_21 ?_
    refine fx_iadd (pc := 22) F dX6_needsOf_22 ?_
    refine fx_istore_n (pc := 23) (ls' := [some (10, row_0), some (0, p_0), some (0, (fx_w (sum_9 + v13))), some (0, t_10)]) F 2 rfl (by decide) rfl rfl dX6_needsOf_23 ?_
    refine fx_iinc (pc := 24) (ls' := [some (10, row_0), some (0, p_0), some (0, (fx_w (sum_9 + v13))), some (0, (fx_w (t_10 + 1)))]) F (by decide) rfl rfl rfl dX6_needsOf_24 ?_
    refine fx_goto (pc := 27) F 4 (by decide) dX6_needsOf_27 ?_
    cases eq11
    exact ih _ rfl
  · have eq11 := (if_neg c12).symm.trans eq11
    cases eq11
    exact ex _ rfl
def f_X6_need (Fu : Nat) (Λ : fx_L) (this_0 : Int) (person_0 : Int) (thing_0 : Int) (n_0 : Int) (h : fx_H) : Option (Int × fx_H) :=
  Option.bind (
    Option.bind (
      (f_X6_isOne Fu Λ this_0 person_0 h).bind fun v8 =>
      if ¬ v8 = 0 then
        (f_X6_isThing Fu Λ this_0 thing_0 h).bind fun v11 =>
        if ¬ v11 = 0 then
          (f_X6_in Fu Λ n_0 0 5 h).bind fun v14 =>
          if ¬ v14 = 0 then
            some true
          else
            some false
        else
          some false
      else
        some false
    ) fun b4 =>
    if b4 = true then
      some (1 : Int)
    else
      some (0 : Int)
  ) fun v1 =>
  Option.bind (
    if v1 = 0 then
      some true
    else
      (f_X6_needsOf Fu Λ (fx_tg Λ this_0 0) person_0 h).bind fun v23 =>
      (fx_rd Λ h (fx_tg Λ this_0 0) (fx_w ((fx_w (44 + (fx_w (9 * person_0)))) + thing_0))).bind fun v25 =>
      (f_X6_hours Fu Λ this_0 h).bind fun v27 =>
      if v27 < (fx_w ((fx_w (v23 - v25)) + n_0)) then
        some true
      else
        some false
  ) fun b18 =>
  if b18 = true then
    (f_X6_bad Fu Λ this_0 (-2) h).bind fun (v31, h32) =>
    some (v31, h32)
  else
    (fx_rd Λ h (fx_tg Λ this_0 0) (fx_w ((fx_w (44 + (fx_w (9 * person_0)))) + thing_0))).bind fun v34 =>
    (fx_wr Λ h (fx_tg Λ this_0 0) (fx_w ((fx_w (44 + (fx_w (9 * person_0)))) + thing_0)) n_0).bind fun h36 =>
    some (v34, h36)
abbrev rm_X6_need : Room := { frames := 2, cells := 0, slots := 0, locals := 46 }
set_option maxRecDepth 100000 in
set_option maxHeartbeats 4000000 in
theorem m_X6_need (Fu : Nat) (Λ : fx_L) (this_0 : Int) (person_0 : Int) (thing_0 : Int) (n_0 : Int) (h : fx_H) (r : Int) (ho : fx_H) (hf : f_X6_need Fu Λ this_0 person_0 thing_0 n_0 h = some (r, ho)) : fx_Met yX6_need cX6_need 6 (some .int) rm_X6_need Λ [(8, this_0), (0, person_0), (0, thing_0), (0, n_0)] h (some (0, r)) ho := by
  unfold f_X6_need at hf
  refine fx_enter (ls := [some (8, this_0), some (0, person_0), some (0, thing_0), some (0, n_0), none, none]) (by decide) (Nat.le_of_ble_eq_true rfl) rfl (fun M G F K => ?_)
  obtain ⟨v1, e2, hf⟩ := fx_bnd hf
  have hJ3 : fx_J M G Λ 6 33 [some (8, this_0), some (0, person_0), some (0, thing_0), some (0, n_0), none, none] [(0, v1)] h := by
    refine fx_istore (pc := 33) (ls' := [some (8, this_0), some (0, person_0), some (0, thing_0), some (0, n_0), some (0, v1), none]) F (by decide) rfl rfl dX6_need_33 ?_
    obtain ⟨b18, e19, hf⟩ := fx_bnd hf
    have hT20 : b18 = true → fx_J M G Λ 6 72 [some (8, this_0), some (0, person_0), some (0, thing_0), some (0, n_0), some (0, v1), none] [] h := fun c30 => by
      have hf := (if_pos c30).symm.trans hf
      refine fx_aload_n (pc := 72) (t := 6) F 0 rfl rfl dX6_need_72 ?_
      refine fx_bipush (pc := 73) F ⟨by decide, by decide⟩ (by decide) dX6_need_73 ?_
      obtain ⟨⟨v31, h32⟩, e33, hf⟩ := fx_bnd hf
      refine fx_cV (pc := 75) F 6 kC_X6 [(0, (-2))] this_0 [] (m_X6_bad Fu Λ this_0 (-2) h _ _ e33) kD_X6_bad kI_X6_bad rfl wM_X6_88 ⟨rfl, rfl⟩ ⟨by decide, by decide⟩ (Nat.le_of_ble_eq_true rfl) rfl dX6_need_75 ?_
      cases hf
      exact fx_ireturn (pc := 78) F K dX6_need_78
    have hF21 : ¬ b18 = true → fx_J M G Λ 6 79 [some (8, this_0), some (0, person_0), some (0, thing_0), some (0, n_0), some (0, v1), none] [] h := fun c30 => by
      have hf := (if_neg c30).symm.trans hf
      refine fx_aload_n (pc := 79) (t := 6) F 0 rfl rfl dX6_need_79 ?_
      refine fx_gR (pc := 80) F 6 0 0 8 rfl kC_X6 (by decide) rfl wF_X6_7 dX6_need_80 ?_
      refine fx_bipush (pc := 83) F ⟨by decide, by decide⟩ (by decide) dX6_need_83 ?_
      refine fx_bipush (pc := 85) F ⟨by decide, by decide⟩ (by decide) dX6_need_85 ?_
      refine fx_iload_n (pc := 87) F 1 rfl rfl dX6_need_87 ?_
      refine fx_imul (pc := 88) F dX6_need_88 ?_
      refine fx_iadd (pc := 89) F dX6_need_89 ?_
      refine fx_iload_n (pc := 90) F 2 rfl rfl dX6_need_90 ?_
      refine fx_iadd (pc := 91) F dX6_need_91 ?_
      obtain ⟨v34, e35, hf⟩ := fx_bnd hf
      refine fx_raldI (pc := 92) F e35 dX6_need_92 ?_
      refine fx_istore (pc := 93) (ls' := [some (8, this_0), some (0, person_0), some (0, thing_0), some (0, n_0), some (0, v1), some (0, v34)]) F (by decide) rfl rfl dX6_need_93 ?_
      refine fx_aload_n (pc := 95) (t := 6) F 0 rfl rfl dX6_need_95 ?_
      refine fx_gR (pc := 96) F 6 0 0 8 rfl kC_X6 (by decide) rfl wF_X6_7 dX6_need_96 ?_
      refine fx_bipush (pc := 99) F ⟨by decide, by decide⟩ (by decide) dX6_need_99 ?_
      refine fx_bipush (pc := 101) F ⟨by decide, by decide⟩ (by decide) dX6_need_101 ?_
      refine fx_iload_n (pc := 103) F 1 rfl rfl dX6_need_103 ?_
      refine fx_imul (pc := 104) F dX6_need_104 ?_
      refine fx_iadd (pc := 105) F dX6_need_105 ?_
      refine fx_iload_n (pc := 106) F 2 rfl rfl dX6_need_106 ?_
      refine fx_iadd (pc := 107) F dX6_need_107 ?_
      refine fx_iload_n (pc := 108) F 3 rfl rfl dX6_need_108 ?_
      obtain ⟨h36, e37, hf⟩ := fx_bnd hf
      refine fx_rastI (pc := 109) F e37 dX6_need_109 ?_
      refine fx_iload (pc := 110) F rfl dX6_need_110 ?_
      cases hf
      exact fx_ireturn (pc := 112) F K dX6_need_112
    refine fx_iload (pc := 35) F rfl dX6_need_35 ?_
    refine fx_jzeq (pc := 37) F 72 (by decide) dX6_need_37 (fun c22 => ?_) (fun c22 => ?_)
    · have e19 := (if_pos c22).symm.trans e19
      cases e19
      exact hT20 (by decide)
    · have e19 := (if_neg c22).symm.trans e19
      refine fx_aload_n (pc := 40) (t := 6) F 0 rfl rfl dX6_need_40 ?_
      refine fx_gR (pc := 41) F 6 0 0 8 rfl kC_X6 (by decide) rfl wF_X6_7 dX6_need_41 ?_
      refine fx_iload_n (pc := 44) F 1 rfl rfl dX6_need_44 ?_
      obtain ⟨v23, e24, e19⟩ := fx_bnd e19
      refine fx_cS (pc := 45) F [(10, (fx_tg Λ this_0 0)), (0, person_0)] [] (m_X6_needsOf Fu Λ (fx_tg Λ this_0 0) person_0 h _ e24) kD_X6_needsOf wSt_X6_needsOf wM_X6_108 ⟨rfl, rfl⟩ ⟨by decide, by decide⟩ (Nat.le_of_ble_eq_true rfl) rfl dX6_need_45 ?_
      refine fx_aload_n (pc := 48) (t := 6) F 0 rfl rfl dX6_need_48 ?_
      refine fx_gR (pc := 49) F 6 0 0 8 rfl kC_X6 (by decide) rfl wF_X6_7 dX6_need_49 ?_
      refine fx_bipush (pc := 52) F ⟨by decide, by decide⟩ (by decide) dX6_need_52 ?_
      refine fx_bipush (pc := 54) F ⟨by decide, by decide⟩ (by decide) dX6_need_54 ?_
      refine fx_iload_n (pc := 56) F 1 rfl rfl dX6_need_56 ?_
      refine fx_imul (pc := 57) F dX6_need_57 ?_
      refine fx_iadd (pc := 58) F dX6_need_58 ?_
      refine fx_iload_n (pc := 59) F 2 rfl rfl dX6_need_59 ?_
      refine fx_iadd (pc := 60) F dX6_need_60 ?_
      obtain ⟨v25, e26, e19⟩ := fx_bnd e19
      refine fx_raldI (pc := 61) F e26 dX6_need_61 ?_
      refine fx_isub (pc := 62) F dX6_need_62 ?_
      refine fx_iload_n (pc := 63) F 3 rfl rfl dX6_need_63 ?_
      refine fx_iadd (pc := 64) F dX6_need_64 ?_
      refine fx_aload_n (pc := 65) (t := 6) F 0 rfl rfl dX6_need_65 ?_
      obtain ⟨v27, e28, e19⟩ := fx_bnd e19
      refine fx_cV (pc := 66) F 6 kC_X6 [] this_0 [(0, (fx_w ((fx_w (v23 - v25)) + n_0)))] (m_X6_hours Fu Λ this_0 h _ e28) kD_X6_hours kI_X6_hours rfl wM_X6_81 ⟨rfl, rfl⟩ ⟨by decide, by decide⟩ (Nat.le_of_ble_eq_true rfl) rfl dX6_need_66 ?_
      refine fx_ngt (pc := 69) F 79 (by decide) dX6_need_69 (fun c29 => ?_) (fun c29 => ?_)
      · have e19 := (if_pos c29).symm.trans e19
        cases e19
        exact hT20 (by decide)
      · have e19 := (if_neg c29).symm.trans e19
        cases e19
        exact hF21 (by decide)
  obtain ⟨b4, e5, e2⟩ := fx_bnd e2
  have hT6 : b4 = true → fx_J M G Λ 6 28 [some (8, this_0), some (0, person_0), some (0, thing_0), some (0, n_0), none, none] [] h := fun c17 => by
    have e2 := (if_pos c17).symm.trans e2
    refine fx_iconst (pc := 28) F ⟨by decide, by decide⟩ dX6_need_28 ?_
    cases e2
    refine fx_goto (pc := 29) F 33 (by decide) dX6_need_29 ?_
    exact hJ3
  have hF7 : ¬ b4 = true → fx_J M G Λ 6 32 [some (8, this_0), some (0, person_0), some (0, thing_0), some (0, n_0), none, none] [] h := fun c17 => by
    have e2 := (if_neg c17).symm.trans e2
    refine fx_iconst (pc := 32) F ⟨by decide, by decide⟩ dX6_need_32 ?_
    cases e2
    exact hJ3
  refine fx_aload_n (pc := 0) (t := 6) F 0 rfl rfl dX6_need_0 ?_
  refine fx_iload_n (pc := 1) F 1 rfl rfl dX6_need_1 ?_
  obtain ⟨v8, e9, e5⟩ := fx_bnd e5
  refine fx_cV (pc := 2) F 6 kC_X6 [(0, person_0)] this_0 [] (m_X6_isOne Fu Λ this_0 person_0 h _ e9) kD_X6_isOne kI_X6_isOne rfl wM_X6_102 ⟨rfl, rfl⟩ ⟨by decide, by decide⟩ (Nat.le_of_ble_eq_true rfl) rfl dX6_need_2 ?_
  refine fx_nzne (pc := 5) F 32 (by decide) dX6_need_5 (fun c10 => ?_) (fun c10 => ?_)
  · have e5 := (if_pos c10).symm.trans e5
    refine fx_aload_n (pc := 8) (t := 6) F 0 rfl rfl dX6_need_8 ?_
    refine fx_iload_n (pc := 9) F 2 rfl rfl dX6_need_9 ?_
    obtain ⟨v11, e12, e5⟩ := fx_bnd e5
    refine fx_cV (pc := 10) F 6 kC_X6 [(0, thing_0)] this_0 [] (m_X6_isThing Fu Λ this_0 thing_0 h _ e12) kD_X6_isThing kI_X6_isThing rfl wM_X6_84 ⟨rfl, rfl⟩ ⟨by decide, by decide⟩ (Nat.le_of_ble_eq_true rfl) rfl dX6_need_10 ?_
    refine fx_nzne (pc := 13) F 32 (by decide) dX6_need_13 (fun c13 => ?_) (fun c13 => ?_)
    · have e5 := (if_pos c13).symm.trans e5
      refine fx_iload_n (pc := 16) F 3 rfl rfl dX6_need_16 ?_
      refine fx_ri2l (pc := 17) F dX6_need_17 ?_
      refine fx_lconst (pc := 18) (z := 0) F rfl ⟨by decide, by decide⟩ (by decide) dX6_need_18 ?_
      refine fx_ldc2 (pc := 19) (z := 5) F (by decide) ⟨by decide, by decide⟩ wK_X6_95 dX6_need_19 ?_
      obtain ⟨v14, e15, e5⟩ := fx_bnd e5
      refine fx_cS (pc := 22) F [(1, n_0), (1, 0), (1, 5)] [] (m_X6_in Fu Λ n_0 0 5 h _ e15) kD_X6_in wSt_X6_in wM_X6_74 ⟨rfl, rfl⟩ ⟨by decide, by decide⟩ (Nat.le_of_ble_eq_true rfl) rfl dX6_need_22 ?_
      refine fx_nzne (pc := 25) F 32 (by decide) dX6_need_25 (fun c16 => ?_) (fun c16 => ?_)
      · have e5 := (if_pos c16).symm.trans e5
        cases e5
        exact hT6 (by decide)
      · have e5 := (if_neg c16).symm.trans e5
        cases e5
        exact hF7 (by decide)
    · have e5 := (if_neg c13).symm.trans e5
      cases e5
      exact hF7 (by decide)
  · have e5 := (if_neg c10).symm.trans e5
    cases e5
    exact hF7 (by decide)
def s_X6_depth_1 (Fu : Nat) (Λ : fx_L) (this_5 : Int) (h : fx_H) : Int × Int → Option ((Int × Int) ⊕ (Int × Int)) := fun (n_3, up_4) =>
  if ¬ up_4 = (-1) then
    (fx_rd Λ h (fx_tg Λ this_5 6) up_4).bind fun v8 =>
    some (.inl ((fx_w (n_3 + 1)), v8))
  else
    some (.inr (n_3, up_4))
def f_X6_depth (Fu : Nat) (Λ : fx_L) (this_0 : Int) (t_0 : Int) (h : fx_H) : Option (Int) :=
  (fx_rd Λ h (fx_tg Λ this_0 6) t_0).bind fun v1 =>
  Option.bind (fx_loop (s_X6_depth_1 Fu Λ this_0 h) Fu (0, v1)) fun (n_16, up_17) =>
  some n_16
abbrev rm_X6_depth : Room := { frames := 0, cells := 0, slots := 0, locals := 0 }
set_option maxRecDepth 100000 in
set_option maxHeartbeats 4000000 in
theorem m_X6_depth (Fu : Nat) (Λ : fx_L) (this_0 : Int) (t_0 : Int) (h : fx_H) (r : Int) (hf : f_X6_depth Fu Λ this_0 t_0 h = some r) : fx_Met yX6_depth cX6_depth 4 (some .int) rm_X6_depth Λ [(8, this_0), (0, t_0)] h (some (0, r)) h := by
  unfold f_X6_depth at hf
  refine fx_enter (ls := [some (8, this_0), some (0, t_0), none, none]) (by decide) (Nat.le_of_ble_eq_true rfl) rfl (fun M G F K => ?_)
  refine fx_iconst (pc := 0) F ⟨by decide, by decide⟩ dX6_depth_0 ?_
  refine fx_istore_n (pc := 1) (ls' := [some (8, this_0), some (0, t_0), some (0, 0), none]) F 2 rfl (by decide) rfl rfl dX6_depth_1 ?_
  refine fx_aload_n (pc := 2) (t := 6) F 0 rfl rfl dX6_depth_2 ?_
  refine fx_gR (pc := 3) F 6 6 6 8 rfl kC_X6 (by decide) rfl wF_X6_27 dX6_depth_3 ?_
  refine fx_iload_n (pc := 6) F 1 rfl rfl dX6_depth_6 ?_
  obtain ⟨v1, e2, hf⟩ := fx_bnd hf
  refine fx_raldI (pc := 7) F e2 dX6_depth_7 ?_
  refine fx_istore_n (pc := 8) (ls' := [some (8, this_0), some (0, t_0), some (0, 0), some (0, v1)]) F 3 rfl (by decide) rfl rfl dX6_depth_8 ?_
  obtain ⟨⟨n_16, up_17⟩, e18, hf⟩ := fx_bnd hf
  have hE19 : fx_J M G Λ 4 27 [some (8, this_0), some (0, t_0), some (0, n_16), some (0, up_17)] [] h := by
    refine fx_iload_n (pc := 27) F 2 rfl rfl dX6_depth_27 ?_
    cases hf
    exact fx_ireturn (pc := 28) F K dX6_depth_28
  refine fx_loop_J (Hd := (fun z : Int × Int => fx_J M G Λ 4 9 [some (8, this_0), some (0, t_0), some (0, z.1), some (0, z.2)] [] h)) (Ex := (fun z : Int × Int => fx_J M G Λ 4 27 [some (8, this_0), some (0, t_0), some (0, z.1), some (0, z.2)] [] h)) ?_ Fu _ _ e18 hE19
  rintro ⟨n_10, up_11⟩ o9 eq12 ih ex
  unfold s_X6_depth_1 at eq12
  show fx_J M G Λ 4 9 [some (8, this_0), some (0, t_0), some (0, n_10), some (0, up_11)] [] h
  refine fx_iload_n (pc := 9) F 3 rfl rfl dX6_depth_9 ?_
  refine fx_iconst (pc := 10) F ⟨by decide, by decide⟩ dX6_depth_10 ?_
  refine fx_nne (pc := 11) F 27 (by decide) dX6_depth_11 (fun c13 => ?_) (fun c13 => ?_)
  · have eq12 := (if_pos c13).symm.trans eq12
    refine fx_iinc (pc := 14) (ls' := [some (8, this_0), some (0, t_0), some (0, (fx_w (n_10 + 1))), some (0, up_11)]) F (by decide) rfl rfl rfl dX6_depth_14 ?_
    refine fx_aload_n (pc := 17) (t := 6) F 0 rfl rfl dX6_depth_17 ?_
    refine fx_gR (pc := 18) F 6 6 6 8 rfl kC_X6 (by decide) rfl wF_X6_27 dX6_depth_18 ?_
    refine fx_iload_n (pc := 21) F 3 rfl rfl dX6_depth_21 ?_
    obtain ⟨v14, e15, eq12⟩ := fx_bnd eq12
    refine fx_raldI (pc := 22) F e15 dX6_depth_22 ?_
    refine fx_istore_n (pc := 23) (ls' := [some (8, this_0), some (0, t_0), some (0, (fx_w (n_10 + 1))), some (0, v14)]) F 3 rfl (by decide) rfl rfl dX6_depth_23 ?_
    refine fx_goto (pc := 24) F 9 (by decide) dX6_depth_24 ?_
    cases eq12
    exact ih _ rfl
  · have eq12 := (if_neg c13).symm.trans eq12
    cases eq12
    exact ex _ rfl
def s_X6_layLine_1 (Fu : Nat) (Λ : fx_L) (this_3 : Int) (free_4 : Int) : Int × fx_H → Option ((Int × fx_H) ⊕ (Int × fx_H)) := fun (t_1, h2) =>
  (f_X6_things Fu Λ this_3 h2).bind fun v6 =>
  if t_1 < v6 then
    Option.bind (
      if t_1 = free_4 then
        some (-1 : Int)
      else
        (fx_rd Λ h2 (fx_tg Λ this_3 0) (fx_w (1 + t_1))).bind fun v13 =>
        some v13
    ) fun v9 =>
    (fx_wr Λ h2 (fx_tg Λ this_3 6) t_1 v9).bind fun h15 =>
    some (.inl ((fx_w (t_1 + 1)), h15))
  else
    some (.inr (t_1, h2))
def s_X6_layLine_3 (Fu : Nat) (Λ : fx_L) (this_47 : Int) (line_48 : Int) (h : fx_H) : Int × Int → Option ((Int × Int) ⊕ (Int × Int)) := fun (is_45, d_46) =>
  if line_48 < d_46 then
    (fx_rd Λ h (fx_tg Λ this_47 6) is_45).bind fun v51 =>
    some (.inl (v51, (fx_w (d_46 + (-1)))))
  else
    some (.inr (is_45, d_46))
def s_X6_layLine_2 (Fu : Nat) (Λ : fx_L) (this_37 : Int) (line_38 : Int) : Int × fx_H → Option ((Int × fx_H) ⊕ (Int × fx_H)) := fun (t_35, h36) =>
  (f_X6_things Fu Λ this_37 h36).bind fun v40 =>
  if t_35 < v40 then
    (f_X6_depth Fu Λ this_37 t_35 h36).bind fun v43 =>
    Option.bind (fx_loop (s_X6_layLine_3 Fu Λ this_37 line_38 h36) Fu (t_35, v43)) fun (is_59, d_60) =>
    (fx_wr Λ h36 (fx_tg Λ this_37 7) t_35 is_59).bind fun h63 =>
    some (.inl ((fx_w (t_35 + 1)), h63))
  else
    some (.inr (t_35, h36))
def f_X6_layLine (Fu : Nat) (Λ : fx_L) (this_0 : Int) (line_0 : Int) (free_0 : Int) (h : fx_H) : Option (fx_H) :=
  Option.bind (fx_loop (s_X6_layLine_1 Fu Λ this_0 free_0) Fu (0, h)) fun (t_31, h32) =>
  Option.bind (fx_loop (s_X6_layLine_2 Fu Λ this_0 line_0) Fu (0, h32)) fun (t_93, h94) =>
  some h94
abbrev rm_X6_layLine : Room := { frames := 1, cells := 0, slots := 0, locals := 23 }
set_option maxRecDepth 100000 in
set_option maxHeartbeats 4000000 in
theorem m_X6_layLine (Fu : Nat) (Λ : fx_L) (this_0 : Int) (line_0 : Int) (free_0 : Int) (h : fx_H) (ho : fx_H) (hf : f_X6_layLine Fu Λ this_0 line_0 free_0 h = some ho) : fx_Met yX6_layLine cX6_layLine 6 none rm_X6_layLine Λ [(8, this_0), (0, line_0), (0, free_0)] h none ho := by
  unfold f_X6_layLine at hf
  refine fx_enter (ls := [some (8, this_0), some (0, line_0), some (0, free_0), none, none, none]) (by decide) (Nat.le_of_ble_eq_true rfl) rfl (fun M G F K => ?_)
  refine fx_iconst (pc := 0) F ⟨by decide, by decide⟩ dX6_layLine_0 ?_
  refine fx_istore_n (pc := 1) (ls' := [some (8, this_0), some (0, line_0), some (0, free_0), some (0, 0), none, none]) F 3 rfl (by decide) rfl rfl dX6_layLine_1 ?_
  obtain ⟨⟨t_31, h32⟩, e33, hf⟩ := fx_bnd hf
  have hE34 : fx_J M G Λ 6 39 [some (8, this_0), some (0, line_0), some (0, free_0), some (0, t_31), none, none] [] h32 := by
    refine fx_iconst (pc := 39) F ⟨by decide, by decide⟩ dX6_layLine_39 ?_
    refine fx_istore_n (pc := 40) (ls' := [some (8, this_0), some (0, line_0), some (0, free_0), some (0, 0), none, none]) F 3 rfl (by decide) rfl rfl dX6_layLine_40 ?_
    obtain ⟨⟨t_93, h94⟩, e95, hf⟩ := fx_bnd hf
    have hE96 : fx_J M G Λ 6 94 [some (8, this_0), some (0, line_0), some (0, free_0), some (0, t_93), none, none] [] h94 := by
      cases hf
      exact fx_vreturn (pc := 94) F K dX6_layLine_94
    refine fx_loop_J (Hd := (fun z : Int × fx_H => fx_J M G Λ 6 41 [some (8, this_0), some (0, line_0), some (0, free_0), some (0, z.1), none, none] [] z.2)) (Ex := (fun z : Int × fx_H => fx_J M G Λ 6 94 [some (8, this_0), some (0, line_0), some (0, free_0), some (0, z.1), none, none] [] z.2)) ?_ Fu _ _ e95 hE96
    rintro ⟨t_65, h66⟩ o9 eq67 ih ex
    unfold s_X6_layLine_2 at eq67
    show fx_J M G Λ 6 41 [some (8, this_0), some (0, line_0), some (0, free_0), some (0, t_65), none, none] [] h66
    refine fx_iload_n (pc := 41) F 3 rfl rfl dX6_layLine_41 ?_
    refine fx_aload_n (pc := 42) (t := 6) F 0 rfl rfl dX6_layLine_42 ?_
    obtain ⟨v68, e69, eq67⟩ := fx_bnd eq67
    refine fx_cV (pc := 43) F 6 kC_X6 [] this_0 [(0, t_65)] (m_X6_things Fu Λ this_0 h66 _ e69) kD_X6_things kI_X6_things rfl wM_X6_70 ⟨rfl, rfl⟩ ⟨by decide, by decide⟩ (Nat.le_of_ble_eq_true rfl) rfl dX6_layLine_43 ?_
    refine fx_nlt (pc := 46) F 94 (by decide) dX6_layLine_46 (fun c70 => ?_) (fun c70 => ?_)
    · have eq67 := (if_pos c70).symm.trans eq67
      refine fx_iload_n (pc := 49) F 3 rfl rfl dX6_layLine_49 ?_
      refine fx_istore (pc := 50) (ls' := [some (8, this_0), some (0, line_0), some (0, free_0), some (0, t_65), some (0, t_65), none]) F (by decide) rfl rfl dX6_layLine_50 ?_
      refine fx_aload_n (pc := 52) (t := 6) F 0 rfl rfl dX6_layLine_52 ?_
      refine fx_iload_n (pc := 53) F 3 rfl rfl dX6_layLine_53 ?_
      obtain ⟨v71, e72, eq67⟩ := fx_bnd eq67
      refine fx_cV (pc := 54) F 6 kC_X6 [(0, t_65)] this_0 [] (m_X6_depth Fu Λ this_0 t_65 h66 _ e72) kD_X6_depth kI_X6_depth rfl wM_X6_112 ⟨rfl, rfl⟩ ⟨by decide, by decide⟩ (Nat.le_of_ble_eq_true rfl) rfl dX6_layLine_54 ?_
      refine fx_istore (pc := 57) (ls' := [some (8, this_0), some (0, line_0), some (0, free_0), some (0, t_65), some (0, t_65), some (0, v71)]) F (by decide) rfl rfl dX6_layLine_57 ?_
      obtain ⟨⟨is_87, d_88⟩, e89, eq67⟩ := fx_bnd eq67
      have hE90 : fx_J M G Λ 6 80 [some (8, this_0), some (0, line_0), some (0, free_0), some (0, t_65), some (0, is_87), some (0, d_88)] [] h66 := by
        refine fx_aload_n (pc := 80) (t := 6) F 0 rfl rfl dX6_layLine_80 ?_
        refine fx_gR (pc := 81) F 6 7 7 8 rfl kC_X6 (by decide) rfl wF_X6_30 dX6_layLine_81 ?_
        refine fx_iload_n (pc := 84) F 3 rfl rfl dX6_layLine_84 ?_
        refine fx_iload (pc := 85) F rfl dX6_layLine_85 ?_
        obtain ⟨h91, e92, eq67⟩ := fx_bnd eq67
        refine fx_rastI (pc := 87) F e92 dX6_layLine_87 ?_
        refine fx_iinc (pc := 88) (ls' := [some (8, this_0), some (0, line_0), some (0, free_0), some (0, (fx_w (t_65 + 1))), some (0, is_87), some (0, d_88)]) F (by decide) rfl rfl rfl dX6_layLine_88 ?_
        refine fx_goto (pc := 91) F 41 (by decide) dX6_layLine_91 ?_
        cases eq67
        refine fx_drop (ls' := [some (8, this_0), some (0, line_0), some (0, free_0), some (0, (fx_w (t_65 + 1))), none, none]) ⟨rfl, rfl, rfl, rfl, trivial⟩ ?_
        exact ih _ rfl
      refine fx_loop_J (Hd := (fun z : Int × Int => fx_J M G Λ 6 59 [some (8, this_0), some (0, line_0), some (0, free_0), some (0, t_65), some (0, z.1), some (0, z.2)] [] h66)) (Ex := (fun z : Int × Int => fx_J M G Λ 6 80 [some (8, this_0), some (0, line_0), some (0, free_0), some (0, t_65), some (0, z.1), some (0, z.2)] [] h66)) ?_ Fu _ _ e89 hE90
      rintro ⟨is_81, d_82⟩ o9 eq83 ih ex
      unfold s_X6_layLine_3 at eq83
      show fx_J M G Λ 6 59 [some (8, this_0), some (0, line_0), some (0, free_0), some (0, t_65), some (0, is_81), some (0, d_82)] [] h66
      refine fx_iload (pc := 59) F rfl dX6_layLine_59 ?_
      refine fx_iload_n (pc := 61) F 1 rfl rfl dX6_layLine_61 ?_
      refine fx_ngt (pc := 62) F 80 (by decide) dX6_layLine_62 (fun c84 => ?_) (fun c84 => ?_)
      · have eq83 := (if_pos c84).symm.trans eq83
        refine fx_aload_n (pc := 65) (t := 6) F 0 rfl rfl dX6_layLine_65 ?_
        refine fx_gR (pc := 66) F 6 6 6 8 rfl kC_X6 (by decide) rfl wF_X6_27 dX6_layLine_66 ?_
        refine fx_iload (pc := 69) F rfl dX6_layLine_69 ?_
        obtain ⟨v85, e86, eq83⟩ := fx_bnd eq83
        refine fx_raldI (pc := 71) F e86 dX6_layLine_71 ?_
        refine fx_istore (pc := 72) (ls' := [some (8, this_0), some (0, line_0), some (0, free_0), some (0, t_65), some (0, v85), some (0, d_82)]) F (by decide) rfl rfl dX6_layLine_72 ?_
        refine fx_iinc (pc := 74) (ls' := [some (8, this_0), some (0, line_0), some (0, free_0), some (0, t_65), some (0, v85), some (0, (fx_w (d_82 + (-1))))]) F (by decide) rfl rfl rfl dX6_layLine_74 ?_
        refine fx_goto (pc := 77) F 59 (by decide) dX6_layLine_77 ?_
        cases eq83
        exact ih _ rfl
      · have eq83 := (if_neg c84).symm.trans eq83
        cases eq83
        exact ex _ rfl
    · have eq67 := (if_neg c70).symm.trans eq67
      cases eq67
      exact ex _ rfl
  refine fx_loop_J (Hd := (fun z : Int × fx_H => fx_J M G Λ 6 2 [some (8, this_0), some (0, line_0), some (0, free_0), some (0, z.1), none, none] [] z.2)) (Ex := (fun z : Int × fx_H => fx_J M G Λ 6 39 [some (8, this_0), some (0, line_0), some (0, free_0), some (0, z.1), none, none] [] z.2)) ?_ Fu _ _ e33 hE34
  rintro ⟨t_17, h18⟩ o9 eq19 ih ex
  unfold s_X6_layLine_1 at eq19
  show fx_J M G Λ 6 2 [some (8, this_0), some (0, line_0), some (0, free_0), some (0, t_17), none, none] [] h18
  refine fx_iload_n (pc := 2) F 3 rfl rfl dX6_layLine_2 ?_
  refine fx_aload_n (pc := 3) (t := 6) F 0 rfl rfl dX6_layLine_3 ?_
  obtain ⟨v20, e21, eq19⟩ := fx_bnd eq19
  refine fx_cV (pc := 4) F 6 kC_X6 [] this_0 [(0, t_17)] (m_X6_things Fu Λ this_0 h18 _ e21) kD_X6_things kI_X6_things rfl wM_X6_70 ⟨rfl, rfl⟩ ⟨by decide, by decide⟩ (Nat.le_of_ble_eq_true rfl) rfl dX6_layLine_4 ?_
  refine fx_nlt (pc := 7) F 39 (by decide) dX6_layLine_7 (fun c22 => ?_) (fun c22 => ?_)
  · have eq19 := (if_pos c22).symm.trans eq19
    refine fx_aload_n (pc := 10) (t := 6) F 0 rfl rfl dX6_layLine_10 ?_
    refine fx_gR (pc := 11) F 6 6 6 8 rfl kC_X6 (by decide) rfl wF_X6_27 dX6_layLine_11 ?_
    refine fx_iload_n (pc := 14) F 3 rfl rfl dX6_layLine_14 ?_
    obtain ⟨v23, e24, eq19⟩ := fx_bnd eq19
    have hJ25 : fx_J M G Λ 6 32 [some (8, this_0), some (0, line_0), some (0, free_0), some (0, t_17), none, none] [(0, v23), (0, t_17), (10, (fx_tg Λ this_0 6))] h18 := by
      obtain ⟨h29, e30, eq19⟩ := fx_bnd eq19
      refine fx_rastI (pc := 32) F e30 dX6_layLine_32 ?_
      refine fx_iinc (pc := 33) (ls' := [some (8, this_0), some (0, line_0), some (0, free_0), some (0, (fx_w (t_17 + 1))), none, none]) F (by decide) rfl rfl rfl dX6_layLine_33 ?_
      refine fx_goto (pc := 36) F 2 (by decide) dX6_layLine_36 ?_
      cases eq19
      exact ih _ rfl
    refine fx_iload_n (pc := 15) F 3 rfl rfl dX6_layLine_15 ?_
    refine fx_iload_n (pc := 16) F 2 rfl rfl dX6_layLine_16 ?_
    refine fx_neq (pc := 17) F 24 (by decide) dX6_layLine_17 (fun c26 => ?_) (fun c26 => ?_)
    · have e24 := (if_pos c26).symm.trans e24
      refine fx_iconst (pc := 20) F ⟨by decide, by decide⟩ dX6_layLine_20 ?_
      cases e24
      refine fx_goto (pc := 21) F 32 (by decide) dX6_layLine_21 ?_
      exact hJ25
    · have e24 := (if_neg c26).symm.trans e24
      refine fx_aload_n (pc := 24) (t := 6) F 0 rfl rfl dX6_layLine_24 ?_
      refine fx_gR (pc := 25) F 6 0 0 8 rfl kC_X6 (by decide) rfl wF_X6_7 dX6_layLine_25 ?_
      refine fx_iconst (pc := 28) F ⟨by decide, by decide⟩ dX6_layLine_28 ?_
      refine fx_iload_n (pc := 29) F 3 rfl rfl dX6_layLine_29 ?_
      refine fx_iadd (pc := 30) F dX6_layLine_30 ?_
      obtain ⟨v27, e28, e24⟩ := fx_bnd e24
      refine fx_raldI (pc := 31) F e28 dX6_layLine_31 ?_
      cases e24
      exact hJ25
  · have eq19 := (if_neg c22).symm.trans eq19
    cases eq19
    exact ex _ rfl
def f_X6_layNow (Fu : Nat) (Λ : fx_L) (this_0 : Int) (h : fx_H) : Option (fx_H) :=
  (fx_rd Λ h (fx_tg Λ this_0 0) 12).bind fun v1 =>
  (f_X6_layLine Fu Λ this_0 v1 (-1) h).bind fun h3 =>
  some h3
abbrev rm_X6_layNow : Room := { frames := 2, cells := 0, slots := 0, locals := 48 }
set_option maxRecDepth 100000 in
set_option maxHeartbeats 4000000 in
theorem m_X6_layNow (Fu : Nat) (Λ : fx_L) (this_0 : Int) (h : fx_H) (ho : fx_H) (hf : f_X6_layNow Fu Λ this_0 h = some ho) : fx_Met yX6_layNow cX6_layNow 1 none rm_X6_layNow Λ [(8, this_0)] h none ho := by
  unfold f_X6_layNow at hf
  refine fx_enter (ls := [some (8, this_0)]) (by decide) (Nat.le_of_ble_eq_true rfl) rfl (fun M G F K => ?_)
  refine fx_aload_n (pc := 0) (t := 6) F 0 rfl rfl dX6_layNow_0 ?_
  refine fx_aload_n (pc := 1) (t := 6) F 0 rfl rfl dX6_layNow_1 ?_
  refine fx_gR (pc := 2) F 6 0 0 8 rfl kC_X6 (by decide) rfl wF_X6_7 dX6_layNow_2 ?_
  refine fx_bipush (pc := 5) F ⟨by decide, by decide⟩ (by decide) dX6_layNow_5 ?_
  obtain ⟨v1, e2, hf⟩ := fx_bnd hf
  refine fx_raldI (pc := 7) F e2 dX6_layNow_7 ?_
  refine fx_iconst (pc := 8) F ⟨by decide, by decide⟩ dX6_layNow_8 ?_
  obtain ⟨h3, e4, hf⟩ := fx_bnd hf
  refine fx_cVv (pc := 9) F 6 kC_X6 [(0, v1), (0, (-1))] this_0 [] (m_X6_layLine Fu Λ this_0 v1 (-1) h _ e4) kD_X6_layLine kI_X6_layLine rfl wM_X6_115 ⟨rfl, rfl⟩ ⟨by decide, by decide⟩ (Nat.le_of_ble_eq_true rfl) rfl dX6_layNow_9 ?_
  cases hf
  exact fx_vreturn (pc := 12) F K dX6_layNow_12
def f_X6_at (Fu : Nat) (Λ : fx_L) (this_0 : Int) (thing_0 : Int) (h : fx_H) : Option (Int × fx_H) :=
  (f_X6_isThing Fu Λ this_0 thing_0 h).bind fun v1 =>
  if v1 = 0 then
    (f_X6_bad Fu Λ this_0 (-2) h).bind fun (v4, h5) =>
    some (v4, h5)
  else
    (f_X6_layNow Fu Λ this_0 h).bind fun h7 =>
    (fx_rd Λ h7 (fx_tg Λ this_0 7) thing_0).bind fun v9 =>
    some (v9, h7)
abbrev rm_X6_at : Room := { frames := 3, cells := 0, slots := 0, locals := 68 }
set_option maxRecDepth 100000 in
set_option maxHeartbeats 4000000 in
theorem m_X6_at (Fu : Nat) (Λ : fx_L) (this_0 : Int) (thing_0 : Int) (h : fx_H) (r : Int) (ho : fx_H) (hf : f_X6_at Fu Λ this_0 thing_0 h = some (r, ho)) : fx_Met yX6_at cX6_at 2 (some .int) rm_X6_at Λ [(8, this_0), (0, thing_0)] h (some (0, r)) ho := by
  unfold f_X6_at at hf
  refine fx_enter (ls := [some (8, this_0), some (0, thing_0)]) (by decide) (Nat.le_of_ble_eq_true rfl) rfl (fun M G F K => ?_)
  refine fx_aload_n (pc := 0) (t := 6) F 0 rfl rfl dX6_at_0 ?_
  refine fx_iload_n (pc := 1) F 1 rfl rfl dX6_at_1 ?_
  obtain ⟨v1, e2, hf⟩ := fx_bnd hf
  refine fx_cV (pc := 2) F 6 kC_X6 [(0, thing_0)] this_0 [] (m_X6_isThing Fu Λ this_0 thing_0 h _ e2) kD_X6_isThing kI_X6_isThing rfl wM_X6_84 ⟨rfl, rfl⟩ ⟨by decide, by decide⟩ (Nat.le_of_ble_eq_true rfl) rfl dX6_at_2 ?_
  refine fx_nzeq (pc := 5) F 15 (by decide) dX6_at_5 (fun c3 => ?_) (fun c3 => ?_)
  · have hf := (if_pos c3).symm.trans hf
    refine fx_aload_n (pc := 8) (t := 6) F 0 rfl rfl dX6_at_8 ?_
    refine fx_bipush (pc := 9) F ⟨by decide, by decide⟩ (by decide) dX6_at_9 ?_
    obtain ⟨⟨v4, h5⟩, e6, hf⟩ := fx_bnd hf
    refine fx_cV (pc := 11) F 6 kC_X6 [(0, (-2))] this_0 [] (m_X6_bad Fu Λ this_0 (-2) h _ _ e6) kD_X6_bad kI_X6_bad rfl wM_X6_88 ⟨rfl, rfl⟩ ⟨by decide, by decide⟩ (Nat.le_of_ble_eq_true rfl) rfl dX6_at_11 ?_
    cases hf
    exact fx_ireturn (pc := 14) F K dX6_at_14
  · have hf := (if_neg c3).symm.trans hf
    refine fx_aload_n (pc := 15) (t := 6) F 0 rfl rfl dX6_at_15 ?_
    obtain ⟨h7, e8, hf⟩ := fx_bnd hf
    refine fx_cVv (pc := 16) F 6 kC_X6 [] this_0 [] (m_X6_layNow Fu Λ this_0 h _ e8) kD_X6_layNow kI_X6_layNow rfl wM_X6_119 ⟨rfl, rfl⟩ ⟨by decide, by decide⟩ (Nat.le_of_ble_eq_true rfl) rfl dX6_at_16 ?_
    refine fx_aload_n (pc := 19) (t := 6) F 0 rfl rfl dX6_at_19 ?_
    refine fx_gR (pc := 20) F 6 7 7 8 rfl kC_X6 (by decide) rfl wF_X6_30 dX6_at_20 ?_
    refine fx_iload_n (pc := 23) F 1 rfl rfl dX6_at_23 ?_
    obtain ⟨v9, e10, hf⟩ := fx_bnd hf
    refine fx_raldI (pc := 24) F e10 dX6_at_24 ?_
    cases hf
    exact fx_ireturn (pc := 25) F K dX6_at_25
def s_X6_takeDone_1 (Fu : Nat) (Λ : fx_L) (this_3 : Int) : Int × fx_H → Option ((Int × fx_H) ⊕ (Int × fx_H)) := fun (k_1, h2) =>
  if k_1 < 25 then
    (fx_rd Λ h2 (fx_tg Λ this_3 0) (fx_w (19 + k_1))).bind fun v6 =>
    (fx_wr Λ h2 (fx_tg Λ this_3 8) k_1 v6).bind fun h8 =>
    some (.inl ((fx_w (k_1 + 1)), h8))
  else
    some (.inr (k_1, h2))
def f_X6_takeDone (Fu : Nat) (Λ : fx_L) (this_0 : Int) (h : fx_H) : Option (fx_H) :=
  Option.bind (fx_loop (s_X6_takeDone_1 Fu Λ this_0) Fu (0, h)) fun (k_18, h19) =>
  some h19
abbrev rm_X6_takeDone : Room := { frames := 0, cells := 0, slots := 0, locals := 0 }
set_option maxRecDepth 100000 in
set_option maxHeartbeats 4000000 in
theorem m_X6_takeDone (Fu : Nat) (Λ : fx_L) (this_0 : Int) (h : fx_H) (ho : fx_H) (hf : f_X6_takeDone Fu Λ this_0 h = some ho) : fx_Met yX6_takeDone cX6_takeDone 2 none rm_X6_takeDone Λ [(8, this_0)] h none ho := by
  unfold f_X6_takeDone at hf
  refine fx_enter (ls := [some (8, this_0), none]) (by decide) (Nat.le_of_ble_eq_true rfl) rfl (fun M G F K => ?_)
  refine fx_iconst (pc := 0) F ⟨by decide, by decide⟩ dX6_takeDone_0 ?_
  refine fx_istore_n (pc := 1) (ls' := [some (8, this_0), some (0, 0)]) F 1 rfl (by decide) rfl rfl dX6_takeDone_1 ?_
  obtain ⟨⟨k_18, h19⟩, e20, hf⟩ := fx_bnd hf
  have hE21 : fx_J M G Λ 2 29 [some (8, this_0), some (0, k_18)] [] h19 := by
    cases hf
    exact fx_vreturn (pc := 29) F K dX6_takeDone_29
  refine fx_loop_J (Hd := (fun z : Int × fx_H => fx_J M G Λ 2 2 [some (8, this_0), some (0, z.1)] [] z.2)) (Ex := (fun z : Int × fx_H => fx_J M G Λ 2 29 [some (8, this_0), some (0, z.1)] [] z.2)) ?_ Fu _ _ e20 hE21
  rintro ⟨k_10, h11⟩ o9 eq12 ih ex
  unfold s_X6_takeDone_1 at eq12
  show fx_J M G Λ 2 2 [some (8, this_0), some (0, k_10)] [] h11
  refine fx_iload_n (pc := 2) F 1 rfl rfl dX6_takeDone_2 ?_
  refine fx_bipush (pc := 3) F ⟨by decide, by decide⟩ (by decide) dX6_takeDone_3 ?_
  refine fx_nlt (pc := 5) F 29 (by decide) dX6_takeDone_5 (fun c13 => ?_) (fun c13 => ?_)
  · have eq12 := (if_pos c13).symm.trans eq12
    refine fx_aload_n (pc := 8) (t := 6) F 0 rfl rfl dX6_takeDone_8 ?_
    refine fx_gR (pc := 9) F 6 8 8 8 rfl kC_X6 (by decide) rfl wF_X6_33 dX6_takeDone_9 ?_
    refine fx_iload_n (pc := 12) F 1 rfl rfl dX6_takeDone_12 ?_
    refine fx_aload_n (pc := 13) (t := 6) F 0 rfl rfl dX6_takeDone_13 ?_
    refine fx_gR (pc := 14) F 6 0 0 8 rfl kC_X6 (by decide) rfl wF_X6_7 dX6_takeDone_14 ?_
    refine fx_bipush (pc := 17) F ⟨by decide, by decide⟩ (by decide) dX6_takeDone_17 ?_
    refine fx_iload_n (pc := 19) F 1 rfl rfl dX6_takeDone_19 ?_
    refine fx_iadd (pc := 20) F dX6_takeDone_20 ?_
    obtain ⟨v14, e15, eq12⟩ := fx_bnd eq12
    refine fx_raldI (pc := 21) F e15 dX6_takeDone_21 ?_
    obtain ⟨h16, e17, eq12⟩ := fx_bnd eq12
    refine fx_rastI (pc := 22) F e17 dX6_takeDone_22 ?_
    refine fx_iinc (pc := 23) (ls' := [some (8, this_0), some (0, (fx_w (k_10 + 1)))]) F (by decide) rfl rfl rfl dX6_takeDone_23 ?_
    refine fx_goto (pc := 26) F 2 (by decide) dX6_takeDone_26 ?_
    cases eq12
    exact ih _ rfl
  · have eq12 := (if_neg c13).symm.trans eq12
    cases eq12
    exact ex _ rfl
def s_X6_takeNothing_1 (Fu : Nat) (Λ : fx_L) (this_3 : Int) : Int × fx_H → Option ((Int × fx_H) ⊕ (Int × fx_H)) := fun (k_1, h2) =>
  if k_1 < 25 then
    (fx_wr Λ h2 (fx_tg Λ this_3 8) k_1 (-1)).bind fun h6 =>
    some (.inl ((fx_w (k_1 + 1)), h6))
  else
    some (.inr (k_1, h2))
def f_X6_takeNothing (Fu : Nat) (Λ : fx_L) (this_0 : Int) (h : fx_H) : Option (fx_H) :=
  Option.bind (fx_loop (s_X6_takeNothing_1 Fu Λ this_0) Fu (0, h)) fun (k_14, h15) =>
  some h15
abbrev rm_X6_takeNothing : Room := { frames := 0, cells := 0, slots := 0, locals := 0 }
set_option maxRecDepth 100000 in
set_option maxHeartbeats 4000000 in
theorem m_X6_takeNothing (Fu : Nat) (Λ : fx_L) (this_0 : Int) (h : fx_H) (ho : fx_H) (hf : f_X6_takeNothing Fu Λ this_0 h = some ho) : fx_Met yX6_takeNothing cX6_takeNothing 2 none rm_X6_takeNothing Λ [(8, this_0)] h none ho := by
  unfold f_X6_takeNothing at hf
  refine fx_enter (ls := [some (8, this_0), none]) (by decide) (Nat.le_of_ble_eq_true rfl) rfl (fun M G F K => ?_)
  refine fx_iconst (pc := 0) F ⟨by decide, by decide⟩ dX6_takeNothing_0 ?_
  refine fx_istore_n (pc := 1) (ls' := [some (8, this_0), some (0, 0)]) F 1 rfl (by decide) rfl rfl dX6_takeNothing_1 ?_
  obtain ⟨⟨k_14, h15⟩, e16, hf⟩ := fx_bnd hf
  have hE17 : fx_J M G Λ 2 21 [some (8, this_0), some (0, k_14)] [] h15 := by
    cases hf
    exact fx_vreturn (pc := 21) F K dX6_takeNothing_21
  refine fx_loop_J (Hd := (fun z : Int × fx_H => fx_J M G Λ 2 2 [some (8, this_0), some (0, z.1)] [] z.2)) (Ex := (fun z : Int × fx_H => fx_J M G Λ 2 21 [some (8, this_0), some (0, z.1)] [] z.2)) ?_ Fu _ _ e16 hE17
  rintro ⟨k_8, h9⟩ o9 eq10 ih ex
  unfold s_X6_takeNothing_1 at eq10
  show fx_J M G Λ 2 2 [some (8, this_0), some (0, k_8)] [] h9
  refine fx_iload_n (pc := 2) F 1 rfl rfl dX6_takeNothing_2 ?_
  refine fx_bipush (pc := 3) F ⟨by decide, by decide⟩ (by decide) dX6_takeNothing_3 ?_
  refine fx_nlt (pc := 5) F 21 (by decide) dX6_takeNothing_5 (fun c11 => ?_) (fun c11 => ?_)
  · have eq10 := (if_pos c11).symm.trans eq10
    refine fx_aload_n (pc := 8) (t := 6) F 0 rfl rfl dX6_takeNothing_8 ?_
    refine fx_gR (pc := 9) F 6 8 8 8 rfl kC_X6 (by decide) rfl wF_X6_33 dX6_takeNothing_9 ?_
    refine fx_iload_n (pc := 12) F 1 rfl rfl dX6_takeNothing_12 ?_
    refine fx_iconst (pc := 13) F ⟨by decide, by decide⟩ dX6_takeNothing_13 ?_
    obtain ⟨h12, e13, eq10⟩ := fx_bnd eq10
    refine fx_rastI (pc := 14) F e13 dX6_takeNothing_14 ?_
    refine fx_iinc (pc := 15) (ls' := [some (8, this_0), some (0, (fx_w (k_8 + 1)))]) F (by decide) rfl rfl rfl dX6_takeNothing_15 ?_
    refine fx_goto (pc := 18) F 2 (by decide) dX6_takeNothing_18 ?_
    cases eq10
    exact ih _ rfl
  · have eq10 := (if_neg c11).symm.trans eq10
    cases eq10
    exact ex _ rfl
def f_X6_doing (Fu : Nat) (Λ : fx_L) (this_0 : Int) (p_0 : Int) (h_0 : Int) (h : fx_H) : Option (Int) :=
  (fx_rd Λ h (fx_tg Λ this_0 8) (fx_w ((fx_w (5 * p_0)) + h_0))).bind fun v1 =>
  some v1
abbrev rm_X6_doing : Room := { frames := 0, cells := 0, slots := 0, locals := 0 }
set_option maxRecDepth 100000 in
set_option maxHeartbeats 4000000 in
theorem m_X6_doing (Fu : Nat) (Λ : fx_L) (this_0 : Int) (p_0 : Int) (h_0 : Int) (h : fx_H) (r : Int) (hf : f_X6_doing Fu Λ this_0 p_0 h_0 h = some r) : fx_Met yX6_doing cX6_doing 3 (some .int) rm_X6_doing Λ [(8, this_0), (0, p_0), (0, h_0)] h (some (0, r)) h := by
  unfold f_X6_doing at hf
  refine fx_enter (ls := [some (8, this_0), some (0, p_0), some (0, h_0)]) (by decide) (Nat.le_of_ble_eq_true rfl) rfl (fun M G F K => ?_)
  refine fx_aload_n (pc := 0) (t := 6) F 0 rfl rfl dX6_doing_0 ?_
  refine fx_gR (pc := 1) F 6 8 8 8 rfl kC_X6 (by decide) rfl wF_X6_33 dX6_doing_1 ?_
  refine fx_iconst (pc := 4) F ⟨by decide, by decide⟩ dX6_doing_4 ?_
  refine fx_iload_n (pc := 5) F 1 rfl rfl dX6_doing_5 ?_
  refine fx_imul (pc := 6) F dX6_doing_6 ?_
  refine fx_iload_n (pc := 7) F 2 rfl rfl dX6_doing_7 ?_
  refine fx_iadd (pc := 8) F dX6_doing_8 ?_
  obtain ⟨v1, e2, hf⟩ := fx_bnd hf
  refine fx_raldI (pc := 9) F e2 dX6_doing_9 ?_
  cases hf
  exact fx_ireturn (pc := 10) F K dX6_doing_10
def f_X6_isWith (Fu : Nat) (Λ : fx_L) (this_0 : Int) (q_0 : Int) (p_0 : Int) (h_0 : Int) (idle_0 : Int) (h : fx_H) : Option (Int) :=
  (f_X6_doing Fu Λ this_0 p_0 h_0 h).bind fun v1 =>
  (f_X6_doing Fu Λ this_0 q_0 h_0 h).bind fun v3 =>
  Option.bind (
    Option.bind (
      if ¬ v3 = (-1) then
        (fx_rd Λ h (fx_tg Λ this_0 7) v1).bind fun v13 =>
        (fx_rd Λ h (fx_tg Λ this_0 7) v3).bind fun v15 =>
        if v13 = v15 then
          if ¬ idle_0 = 0 then
            if v3 = 0 then
              some false
            else
              some true
          else
            some true
        else
          some false
      else
        some false
    ) fun b8 =>
    if b8 = true then
      some (1 : Int)
    else
      some (0 : Int)
  ) fun v5 =>
  (fx_zb v5).bind fun z21 =>
  some z21
abbrev rm_X6_isWith : Room := { frames := 1, cells := 0, slots := 0, locals := 22 }
set_option maxRecDepth 100000 in
set_option maxHeartbeats 4000000 in
theorem m_X6_isWith (Fu : Nat) (Λ : fx_L) (this_0 : Int) (q_0 : Int) (p_0 : Int) (h_0 : Int) (idle_0 : Int) (h : fx_H) (r : Int) (hf : f_X6_isWith Fu Λ this_0 q_0 p_0 h_0 idle_0 h = some r) : fx_Met yX6_isWith cX6_isWith 7 (some .boolean) rm_X6_isWith Λ [(8, this_0), (0, q_0), (0, p_0), (0, h_0), (0, idle_0)] h (some (0, r)) h := by
  unfold f_X6_isWith at hf
  refine fx_enter (ls := [some (8, this_0), some (0, q_0), some (0, p_0), some (0, h_0), some (0, idle_0), none, none]) (by decide) (Nat.le_of_ble_eq_true rfl) rfl (fun M G F K => ?_)
  refine fx_aload_n (pc := 0) (t := 6) F 0 rfl rfl dX6_isWith_0 ?_
  refine fx_iload_n (pc := 1) F 2 rfl rfl dX6_isWith_1 ?_
  refine fx_iload_n (pc := 2) F 3 rfl rfl dX6_isWith_2 ?_
  obtain ⟨v1, e2, hf⟩ := fx_bnd hf
  refine fx_cV (pc := 3) F 6 kC_X6 [(0, p_0), (0, h_0)] this_0 [] (m_X6_doing Fu Λ this_0 p_0 h_0 h _ e2) kD_X6_doing kI_X6_doing rfl wM_X6_122 ⟨rfl, rfl⟩ ⟨by decide, by decide⟩ (Nat.le_of_ble_eq_true rfl) rfl dX6_isWith_3 ?_
  refine fx_istore (pc := 6) (ls' := [some (8, this_0), some (0, q_0), some (0, p_0), some (0, h_0), some (0, idle_0), some (0, v1), none]) F (by decide) rfl rfl dX6_isWith_6 ?_
  refine fx_aload_n (pc := 8) (t := 6) F 0 rfl rfl dX6_isWith_8 ?_
  refine fx_iload_n (pc := 9) F 1 rfl rfl dX6_isWith_9 ?_
  refine fx_iload_n (pc := 10) F 3 rfl rfl dX6_isWith_10 ?_
  obtain ⟨v3, e4, hf⟩ := fx_bnd hf
  refine fx_cV (pc := 11) F 6 kC_X6 [(0, q_0), (0, h_0)] this_0 [] (m_X6_doing Fu Λ this_0 q_0 h_0 h _ e4) kD_X6_doing kI_X6_doing rfl wM_X6_122 ⟨rfl, rfl⟩ ⟨by decide, by decide⟩ (Nat.le_of_ble_eq_true rfl) rfl dX6_isWith_11 ?_
  refine fx_istore (pc := 14) (ls' := [some (8, this_0), some (0, q_0), some (0, p_0), some (0, h_0), some (0, idle_0), some (0, v1), some (0, v3)]) F (by decide) rfl rfl dX6_isWith_14 ?_
  obtain ⟨v5, e6, hf⟩ := fx_bnd hf
  have hJ7 : fx_J M G Λ 7 54 [some (8, this_0), some (0, q_0), some (0, p_0), some (0, h_0), some (0, idle_0), some (0, v1), some (0, v3)] [(0, v5)] h := by
    obtain ⟨z21, e22, hf⟩ := fx_bnd hf
    obtain ⟨e22, hzz21⟩ := fx_zb_use e22
    refine fx_top (X := fx_X) e22 ?_
    cases hf
    exact fx_zreturn (pc := 54) F hzz21 K dX6_isWith_54
  obtain ⟨b8, e9, e6⟩ := fx_bnd e6
  have hT10 : b8 = true → fx_J M G Λ 7 49 [some (8, this_0), some (0, q_0), some (0, p_0), some (0, h_0), some (0, idle_0), some (0, v1), some (0, v3)] [] h := fun c20 => by
    have e6 := (if_pos c20).symm.trans e6
    refine fx_iconst (pc := 49) F ⟨by decide, by decide⟩ dX6_isWith_49 ?_
    cases e6
    refine fx_goto (pc := 50) F 54 (by decide) dX6_isWith_50 ?_
    exact hJ7
  have hF11 : ¬ b8 = true → fx_J M G Λ 7 53 [some (8, this_0), some (0, q_0), some (0, p_0), some (0, h_0), some (0, idle_0), some (0, v1), some (0, v3)] [] h := fun c20 => by
    have e6 := (if_neg c20).symm.trans e6
    refine fx_iconst (pc := 53) F ⟨by decide, by decide⟩ dX6_isWith_53 ?_
    cases e6
    exact hJ7
  refine fx_iload (pc := 16) F rfl dX6_isWith_16 ?_
  refine fx_iconst (pc := 18) F ⟨by decide, by decide⟩ dX6_isWith_18 ?_
  refine fx_nne (pc := 19) F 53 (by decide) dX6_isWith_19 (fun c12 => ?_) (fun c12 => ?_)
  · have e9 := (if_pos c12).symm.trans e9
    refine fx_aload_n (pc := 22) (t := 6) F 0 rfl rfl dX6_isWith_22 ?_
    refine fx_gR (pc := 23) F 6 7 7 8 rfl kC_X6 (by decide) rfl wF_X6_30 dX6_isWith_23 ?_
    refine fx_iload (pc := 26) F rfl dX6_isWith_26 ?_
    obtain ⟨v13, e14, e9⟩ := fx_bnd e9
    refine fx_raldI (pc := 28) F e14 dX6_isWith_28 ?_
    refine fx_aload_n (pc := 29) (t := 6) F 0 rfl rfl dX6_isWith_29 ?_
    refine fx_gR (pc := 30) F 6 7 7 8 rfl kC_X6 (by decide) rfl wF_X6_30 dX6_isWith_30 ?_
    refine fx_iload (pc := 33) F rfl dX6_isWith_33 ?_
    obtain ⟨v15, e16, e9⟩ := fx_bnd e9
    refine fx_raldI (pc := 35) F e16 dX6_isWith_35 ?_
    refine fx_neq (pc := 36) F 53 (by decide) dX6_isWith_36 (fun c17 => ?_) (fun c17 => ?_)
    · have e9 := (if_pos c17).symm.trans e9
      refine fx_iload (pc := 39) F rfl dX6_isWith_39 ?_
      refine fx_nzne (pc := 41) F 49 (by decide) dX6_isWith_41 (fun c18 => ?_) (fun c18 => ?_)
      · have e9 := (if_pos c18).symm.trans e9
        refine fx_iload (pc := 44) F rfl dX6_isWith_44 ?_
        refine fx_jzeq (pc := 46) F 53 (by decide) dX6_isWith_46 (fun c19 => ?_) (fun c19 => ?_)
        · have e9 := (if_pos c19).symm.trans e9
          cases e9
          exact hF11 (by decide)
        · have e9 := (if_neg c19).symm.trans e9
          cases e9
          exact hT10 (by decide)
      · have e9 := (if_neg c18).symm.trans e9
        cases e9
        exact hT10 (by decide)
    · have e9 := (if_neg c17).symm.trans e9
      cases e9
      exact hF11 (by decide)
  · have e9 := (if_neg c12).symm.trans e9
    cases e9
    exact hF11 (by decide)
def s_X6_wasDone_1 (Fu : Nat) (Λ : fx_L) (this_3 : Int) (p_4 : Int) (h_5 : Int) (h : fx_H) : Int × Int → Option ((Int × Int) ⊕ (Int × Int)) := fun (was_1, q_2) =>
  (f_X6_people Fu Λ this_3 h).bind fun v9 =>
  if ((q_2 < v9) ∧ (0 < h_5)) then
    Option.bind (
      if q_2 = p_4 then
        some (-1 : Int)
      else
        (f_X6_doing Fu Λ this_3 q_2 (fx_w (h_5 - 1)) h).bind fun v18 =>
        some v18
    ) fun v14 =>
    Option.bind (
      Option.bind (
        if ¬ was_1 = 0 then
          some true
        else
          if ¬ v14 = (-1) then
            (fx_rd Λ h (fx_tg Λ this_3 7) v14).bind fun v29 =>
            (f_X6_doing Fu Λ this_3 p_4 h_5 h).bind fun v31 =>
            (fx_rd Λ h (fx_tg Λ this_3 7) v31).bind fun v33 =>
            if v29 = v33 then
              some true
            else
              some false
          else
            some false
      ) fun b23 =>
      if b23 = true then
        some (1 : Int)
      else
        some (0 : Int)
    ) fun v20 =>
    some (.inl (v20, (fx_w (q_2 + 1))))
  else
    some (.inr (was_1, q_2))
def f_X6_wasDone (Fu : Nat) (Λ : fx_L) (this_0 : Int) (p_0 : Int) (h_0 : Int) (h : fx_H) : Option (Int) :=
  Option.bind (fx_loop (s_X6_wasDone_1 Fu Λ this_0 p_0 h_0 h) Fu (0, 0)) fun (was_70, q_71) =>
  (fx_zb was_70).bind fun z74 =>
  some z74
abbrev rm_X6_wasDone : Room := { frames := 1, cells := 0, slots := 0, locals := 22 }
set_option maxRecDepth 100000 in
set_option maxHeartbeats 4000000 in
theorem m_X6_wasDone (Fu : Nat) (Λ : fx_L) (this_0 : Int) (p_0 : Int) (h_0 : Int) (h : fx_H) (r : Int) (hf : f_X6_wasDone Fu Λ this_0 p_0 h_0 h = some r) : fx_Met yX6_wasDone cX6_wasDone 6 (some .boolean) rm_X6_wasDone Λ [(8, this_0), (0, p_0), (0, h_0)] h (some (0, r)) h := by
  unfold f_X6_wasDone at hf
  refine fx_enter (ls := [some (8, this_0), some (0, p_0), some (0, h_0), none, none, none]) (by decide) (Nat.le_of_ble_eq_true rfl) rfl (fun M G F K => ?_)
  refine fx_iconst (pc := 0) F ⟨by decide, by decide⟩ dX6_wasDone_0 ?_
  refine fx_istore_n (pc := 1) (ls' := [some (8, this_0), some (0, p_0), some (0, h_0), some (0, 0), none, none]) F 3 rfl (by decide) rfl rfl dX6_wasDone_1 ?_
  refine fx_iconst (pc := 2) F ⟨by decide, by decide⟩ dX6_wasDone_2 ?_
  refine fx_istore (pc := 3) (ls' := [some (8, this_0), some (0, p_0), some (0, h_0), some (0, 0), some (0, 0), none]) F (by decide) rfl rfl dX6_wasDone_3 ?_
  obtain ⟨⟨was_70, q_71⟩, e72, hf⟩ := fx_bnd hf
  have hE73 : fx_J M G Λ 6 82 [some (8, this_0), some (0, p_0), some (0, h_0), some (0, was_70), some (0, q_71), none] [] h := by
    refine fx_iload_n (pc := 82) F 3 rfl rfl dX6_wasDone_82 ?_
    obtain ⟨z74, e75, hf⟩ := fx_bnd hf
    obtain ⟨e75, hzz74⟩ := fx_zb_use e75
    refine fx_top (X := fx_X) e75 ?_
    cases hf
    exact fx_zreturn (pc := 83) F hzz74 K dX6_wasDone_83
  refine fx_loop_J (Hd := (fun z : Int × Int => fx_J M G Λ 6 5 [some (8, this_0), some (0, p_0), some (0, h_0), some (0, z.1), some (0, z.2), none] [] h)) (Ex := (fun z : Int × Int => fx_J M G Λ 6 82 [some (8, this_0), some (0, p_0), some (0, h_0), some (0, z.1), some (0, z.2), none] [] h)) ?_ Fu _ _ e72 hE73
  rintro ⟨was_37, q_38⟩ o9 eq39 ih ex
  unfold s_X6_wasDone_1 at eq39
  show fx_J M G Λ 6 5 [some (8, this_0), some (0, p_0), some (0, h_0), some (0, was_37), some (0, q_38), none] [] h
  refine fx_iload (pc := 5) F rfl dX6_wasDone_5 ?_
  refine fx_aload_n (pc := 7) (t := 6) F 0 rfl rfl dX6_wasDone_7 ?_
  obtain ⟨v42, e43, eq39⟩ := fx_bnd eq39
  refine fx_cV (pc := 8) F 6 kC_X6 [] this_0 [(0, q_38)] (m_X6_people Fu Λ this_0 h _ e43) kD_X6_people kI_X6_people rfl wM_X6_78 ⟨rfl, rfl⟩ ⟨by decide, by decide⟩ (Nat.le_of_ble_eq_true rfl) rfl dX6_wasDone_8 ?_
  have hT40 : (((q_38 < v42) ∧ (0 < h_0))) → fx_J M G Λ 6 18 [some (8, this_0), some (0, p_0), some (0, h_0), some (0, was_37), some (0, q_38), none] [] h := fun c46 => by
    have eq39 := (if_pos c46).symm.trans eq39
    obtain ⟨v47, e48, eq39⟩ := fx_bnd eq39
    have hJ49 : fx_J M G Λ 6 37 [some (8, this_0), some (0, p_0), some (0, h_0), some (0, was_37), some (0, q_38), none] [(0, v47)] h := by
      refine fx_istore (pc := 37) (ls' := [some (8, this_0), some (0, p_0), some (0, h_0), some (0, was_37), some (0, q_38), some (0, v47)]) F (by decide) rfl rfl dX6_wasDone_37 ?_
      obtain ⟨v53, e54, eq39⟩ := fx_bnd eq39
      have hJ55 : fx_J M G Λ 6 75 [some (8, this_0), some (0, p_0), some (0, h_0), some (0, was_37), some (0, q_38), some (0, v47)] [(0, v53)] h := by
        refine fx_istore_n (pc := 75) (ls' := [some (8, this_0), some (0, p_0), some (0, h_0), some (0, v53), some (0, q_38), some (0, v47)]) F 3 rfl (by decide) rfl rfl dX6_wasDone_75 ?_
        refine fx_iinc (pc := 76) (ls' := [some (8, this_0), some (0, p_0), some (0, h_0), some (0, v53), some (0, (fx_w (q_38 + 1))), some (0, v47)]) F (by decide) rfl rfl rfl dX6_wasDone_76 ?_
        refine fx_goto (pc := 79) F 5 (by decide) dX6_wasDone_79 ?_
        cases eq39
        refine fx_drop (ls' := [some (8, this_0), some (0, p_0), some (0, h_0), some (0, v53), some (0, (fx_w (q_38 + 1))), none]) ⟨rfl, rfl, rfl, rfl, rfl, trivial⟩ ?_
        exact ih _ rfl
      obtain ⟨b56, e57, e54⟩ := fx_bnd e54
      have hT58 : b56 = true → fx_J M G Λ 6 70 [some (8, this_0), some (0, p_0), some (0, h_0), some (0, was_37), some (0, q_38), some (0, v47)] [] h := fun c69 => by
        have e54 := (if_pos c69).symm.trans e54
        refine fx_iconst (pc := 70) F ⟨by decide, by decide⟩ dX6_wasDone_70 ?_
        cases e54
        refine fx_goto (pc := 71) F 75 (by decide) dX6_wasDone_71 ?_
        exact hJ55
      have hF59 : ¬ b56 = true → fx_J M G Λ 6 74 [some (8, this_0), some (0, p_0), some (0, h_0), some (0, was_37), some (0, q_38), some (0, v47)] [] h := fun c69 => by
        have e54 := (if_neg c69).symm.trans e54
        refine fx_iconst (pc := 74) F ⟨by decide, by decide⟩ dX6_wasDone_74 ?_
        cases e54
        exact hJ55
      refine fx_iload_n (pc := 39) F 3 rfl rfl dX6_wasDone_39 ?_
      refine fx_jzne (pc := 40) F 70 (by decide) dX6_wasDone_40 (fun c60 => ?_) (fun c60 => ?_)
      · have e57 := (if_pos c60).symm.trans e57
        cases e57
        exact hT58 (by decide)
      · have e57 := (if_neg c60).symm.trans e57
        refine fx_iload (pc := 43) F rfl dX6_wasDone_43 ?_
        refine fx_iconst (pc := 45) F ⟨by decide, by decide⟩ dX6_wasDone_45 ?_
        refine fx_nne (pc := 46) F 74 (by decide) dX6_wasDone_46 (fun c61 => ?_) (fun c61 => ?_)
        · have e57 := (if_pos c61).symm.trans e57
          refine fx_aload_n (pc := 49) (t := 6) F 0 rfl rfl dX6_wasDone_49 ?_
          refine fx_gR (pc := 50) F 6 7 7 8 rfl kC_X6 (by decide) rfl wF_X6_30 dX6_wasDone_50 ?_
          refine fx_iload (pc := 53) F rfl dX6_wasDone_53 ?_
          obtain ⟨v62, e63, e57⟩ := fx_bnd e57
          refine fx_raldI (pc := 55) F e63 dX6_wasDone_55 ?_
          refine fx_aload_n (pc := 56) (t := 6) F 0 rfl rfl dX6_wasDone_56 ?_
          refine fx_gR (pc := 57) F 6 7 7 8 rfl kC_X6 (by decide) rfl wF_X6_30 dX6_wasDone_57 ?_
          refine fx_aload_n (pc := 60) (t := 6) F 0 rfl rfl dX6_wasDone_60 ?_
          refine fx_iload_n (pc := 61) F 1 rfl rfl dX6_wasDone_61 ?_
          refine fx_iload_n (pc := 62) F 2 rfl rfl dX6_wasDone_62 ?_
          obtain ⟨v64, e65, e57⟩ := fx_bnd e57
          refine fx_cV (pc := 63) F 6 kC_X6 [(0, p_0), (0, h_0)] this_0 [(10, (fx_tg Λ this_0 7)), (0, v62)] (m_X6_doing Fu Λ this_0 p_0 h_0 h _ e65) kD_X6_doing kI_X6_doing rfl wM_X6_122 ⟨rfl, rfl⟩ ⟨by decide, by decide⟩ (Nat.le_of_ble_eq_true rfl) rfl dX6_wasDone_63 ?_
          obtain ⟨v66, e67, e57⟩ := fx_bnd e57
          refine fx_raldI (pc := 66) F e67 dX6_wasDone_66 ?_
          refine fx_neq (pc := 67) F 74 (by decide) dX6_wasDone_67 (fun c68 => ?_) (fun c68 => ?_)
          · have e57 := (if_pos c68).symm.trans e57
            cases e57
            exact hT58 (by decide)
          · have e57 := (if_neg c68).symm.trans e57
            cases e57
            exact hF59 (by decide)
        · have e57 := (if_neg c61).symm.trans e57
          cases e57
          exact hF59 (by decide)
    refine fx_iload (pc := 18) F rfl dX6_wasDone_18 ?_
    refine fx_iload_n (pc := 20) F 1 rfl rfl dX6_wasDone_20 ?_
    refine fx_neq (pc := 21) F 28 (by decide) dX6_wasDone_21 (fun c50 => ?_) (fun c50 => ?_)
    · have e48 := (if_pos c50).symm.trans e48
      refine fx_iconst (pc := 24) F ⟨by decide, by decide⟩ dX6_wasDone_24 ?_
      cases e48
      refine fx_goto (pc := 25) F 37 (by decide) dX6_wasDone_25 ?_
      exact hJ49
    · have e48 := (if_neg c50).symm.trans e48
      refine fx_aload_n (pc := 28) (t := 6) F 0 rfl rfl dX6_wasDone_28 ?_
      refine fx_iload (pc := 29) F rfl dX6_wasDone_29 ?_
      refine fx_iload_n (pc := 31) F 2 rfl rfl dX6_wasDone_31 ?_
      refine fx_iconst (pc := 32) F ⟨by decide, by decide⟩ dX6_wasDone_32 ?_
      refine fx_isub (pc := 33) F dX6_wasDone_33 ?_
      obtain ⟨v51, e52, e48⟩ := fx_bnd e48
      refine fx_cV (pc := 34) F 6 kC_X6 [(0, q_38), (0, (fx_w (h_0 - 1)))] this_0 [] (m_X6_doing Fu Λ this_0 q_38 (fx_w (h_0 - 1)) h _ e52) kD_X6_doing kI_X6_doing rfl wM_X6_122 ⟨rfl, rfl⟩ ⟨by decide, by decide⟩ (Nat.le_of_ble_eq_true rfl) rfl dX6_wasDone_34 ?_
      cases e48
      exact hJ49
  have hF41 : ¬ (((q_38 < v42) ∧ (0 < h_0))) → fx_J M G Λ 6 82 [some (8, this_0), some (0, p_0), some (0, h_0), some (0, was_37), some (0, q_38), none] [] h := fun c46 => by
    have eq39 := (if_neg c46).symm.trans eq39
    cases eq39
    exact ex _ rfl
  refine fx_nlt (pc := 11) F 82 (by decide) dX6_wasDone_11 (fun c44 => ?_) (fun c44 => ?_)
  · refine fx_iload_n (pc := 14) F 2 rfl rfl dX6_wasDone_14 ?_
    refine fx_nzgt (pc := 15) F 82 (by decide) dX6_wasDone_15 (fun c45 => ?_) (fun c45 => ?_)
    · exact hT40 ⟨c44, c45⟩
    · exact hF41 (fun q => c45 q.2)
  · exact hF41 (fun q => c44 q.1)
def s_X6_paysOf_1 (Fu : Nat) (Λ : fx_L) (this_15 : Int) (p_16 : Int) (h_17 : Int) (kind_18 : Int) (h : fx_H) : Int × Int × Int × Int → Option ((Int × Int × Int × Int) ⊕ (Int × Int × Int × Int)) := fun (g_11, lesser_12, rich_13, q_14) =>
  (f_X6_people Fu Λ this_15 h).bind fun v20 =>
  if q_14 < v20 then
    Option.bind (
      if kind_18 = 4 then
        some (1 : Int)
      else
        some (0 : Int)
    ) fun v23 =>
    (f_X6_isWith Fu Λ this_15 q_14 p_16 h_17 v23 h).bind fun v27 =>
    Option.bind (
      if ¬ v27 = 0 then
        some (1 : Int)
      else
        some (0 : Int)
    ) fun v29 =>
    Option.bind (
      if ((¬ v27 = 0) ∧ (q_14 < p_16)) then
        some (1 : Int)
      else
        some (0 : Int)
    ) fun v33 =>
    Option.bind (
      Option.bind (
        if ¬ rich_13 = 0 then
          some true
        else
          if ¬ v27 = 0 then
            (fx_rd Λ h (fx_tg Λ this_15 0) 13).bind fun v50 =>
            if q_14 = v50 then
              some true
            else
              some false
          else
            some false
      ) fun b44 =>
      if b44 = true then
        some (1 : Int)
      else
        some (0 : Int)
    ) fun v41 =>
    some (.inl ((fx_w (g_11 + v29)), (fx_w (lesser_12 + v33)), v41, (fx_w (q_14 + 1))))
  else
    some (.inr (g_11, lesser_12, rich_13, q_14))
def f_X6_paysOf (Fu : Nat) (Λ : fx_L) (this_0 : Int) (p_0 : Int) (h_0 : Int) (h : fx_H) : Option (Int) :=
  (f_X6_doing Fu Λ this_0 p_0 h_0 h).bind fun v1 =>
  (fx_rd Λ h (fx_tg Λ this_0 0) (fx_w (14 + h_0))).bind fun v3 =>
  if ((v1 = (-1)) ∨ ((v3 = 4) ∧ (v1 = 0))) then
    some 0
  else
    Option.bind (fx_loop (s_X6_paysOf_1 Fu Λ this_0 p_0 h_0 v3 h) Fu (0, 0, 0, 0)) fun (g_93, lesser_94, rich_95, q_96) =>
    if v3 = 1 ∨ v3 = 4 then
      some (fx_w (2 * (fx_w (g_93 - 1))))
    else
      if v3 = 2 then
        Option.bind (
          if rich_95 = 0 then
            some (fx_w (g_93 - 1))
          else
            Option.bind (
              (fx_rd Λ h (fx_tg Λ this_0 0) 13).bind fun v109 =>
              if p_0 = v109 then
                some (fx_w (g_93 * (fx_w (g_93 - 1))))
              else
                some (0 : Int)
            ) fun v106 =>
            some v106
        ) fun v102 =>
        some v102
      else
        if v3 = 3 then
          some lesser_94
        else
          if v3 = 5 then
            Option.bind (
              (f_X6_wasDone Fu Λ this_0 p_0 h_0 h).bind fun v119 =>
              if ¬ v119 = 0 then
                some (2 : Int)
              else
                some (0 : Int)
            ) fun v116 =>
            some (fx_w (lesser_94 + v116))
          else
            some (fx_w (g_93 - 1))
abbrev rm_X6_paysOf : Room := { frames := 2, cells := 0, slots := 0, locals := 48 }
set_option maxRecDepth 100000 in
set_option maxHeartbeats 4000000 in
theorem m_X6_paysOf (Fu : Nat) (Λ : fx_L) (this_0 : Int) (p_0 : Int) (h_0 : Int) (h : fx_H) (r : Int) (hf : f_X6_paysOf Fu Λ this_0 p_0 h_0 h = some r) : fx_Met yX6_paysOf cX6_paysOf 10 (some .int) rm_X6_paysOf Λ [(8, this_0), (0, p_0), (0, h_0)] h (some (0, r)) h := by
  unfold f_X6_paysOf at hf
  refine fx_enter (ls := [some (8, this_0), some (0, p_0), some (0, h_0), none, none, none, none, none, none, none]) (by decide) (Nat.le_of_ble_eq_true rfl) rfl (fun M G F K => ?_)
  refine fx_aload_n (pc := 0) (t := 6) F 0 rfl rfl dX6_paysOf_0 ?_
  refine fx_iload_n (pc := 1) F 1 rfl rfl dX6_paysOf_1 ?_
  refine fx_iload_n (pc := 2) F 2 rfl rfl dX6_paysOf_2 ?_
  obtain ⟨v1, e2, hf⟩ := fx_bnd hf
  refine fx_cV (pc := 3) F 6 kC_X6 [(0, p_0), (0, h_0)] this_0 [] (m_X6_doing Fu Λ this_0 p_0 h_0 h _ e2) kD_X6_doing kI_X6_doing rfl wM_X6_122 ⟨rfl, rfl⟩ ⟨by decide, by decide⟩ (Nat.le_of_ble_eq_true rfl) rfl dX6_paysOf_3 ?_
  refine fx_istore_n (pc := 6) (ls' := [some (8, this_0), some (0, p_0), some (0, h_0), some (0, v1), none, none, none, none, none, none]) F 3 rfl (by decide) rfl rfl dX6_paysOf_6 ?_
  refine fx_aload_n (pc := 7) (t := 6) F 0 rfl rfl dX6_paysOf_7 ?_
  refine fx_gR (pc := 8) F 6 0 0 8 rfl kC_X6 (by decide) rfl wF_X6_7 dX6_paysOf_8 ?_
  refine fx_bipush (pc := 11) F ⟨by decide, by decide⟩ (by decide) dX6_paysOf_11 ?_
  refine fx_iload_n (pc := 13) F 2 rfl rfl dX6_paysOf_13 ?_
  refine fx_iadd (pc := 14) F dX6_paysOf_14 ?_
  obtain ⟨v3, e4, hf⟩ := fx_bnd hf
  refine fx_raldI (pc := 15) F e4 dX6_paysOf_15 ?_
  refine fx_istore (pc := 16) (ls' := [some (8, this_0), some (0, p_0), some (0, h_0), some (0, v1), some (0, v3), none, none, none, none, none]) F (by decide) rfl rfl dX6_paysOf_16 ?_
  refine fx_iload_n (pc := 18) F 3 rfl rfl dX6_paysOf_18 ?_
  refine fx_iconst (pc := 19) F ⟨by decide, by decide⟩ dX6_paysOf_19 ?_
  have hT5 : (((v1 = (-1)) ∨ ((v3 = 4) ∧ (v1 = 0)))) → fx_J M G Λ 10 33 [some (8, this_0), some (0, p_0), some (0, h_0), some (0, v1), some (0, v3), none, none, none, none, none] [] h := fun c10 => by
    have hf := (if_pos c10).symm.trans hf
    refine fx_iconst (pc := 33) F ⟨by decide, by decide⟩ dX6_paysOf_33 ?_
    cases hf
    exact fx_ireturn (pc := 34) F K dX6_paysOf_34
  have hF6 : ¬ (((v1 = (-1)) ∨ ((v3 = 4) ∧ (v1 = 0)))) → fx_J M G Λ 10 35 [some (8, this_0), some (0, p_0), some (0, h_0), some (0, v1), some (0, v3), none, none, none, none, none] [] h := fun c10 => by
    have hf := (if_neg c10).symm.trans hf
    refine fx_iconst (pc := 35) F ⟨by decide, by decide⟩ dX6_paysOf_35 ?_
    refine fx_istore (pc := 36) (ls' := [some (8, this_0), some (0, p_0), some (0, h_0), some (0, v1), some (0, v3), some (0, 0), none, none, none, none]) F (by decide) rfl rfl dX6_paysOf_36 ?_
    refine fx_iconst (pc := 38) F ⟨by decide, by decide⟩ dX6_paysOf_38 ?_
    refine fx_istore (pc := 39) (ls' := [some (8, this_0), some (0, p_0), some (0, h_0), some (0, v1), some (0, v3), some (0, 0), some (0, 0), none, none, none]) F (by decide) rfl rfl dX6_paysOf_39 ?_
    refine fx_iconst (pc := 41) F ⟨by decide, by decide⟩ dX6_paysOf_41 ?_
    refine fx_istore (pc := 42) (ls' := [some (8, this_0), some (0, p_0), some (0, h_0), some (0, v1), some (0, v3), some (0, 0), some (0, 0), some (0, 0), none, none]) F (by decide) rfl rfl dX6_paysOf_42 ?_
    refine fx_iconst (pc := 44) F ⟨by decide, by decide⟩ dX6_paysOf_44 ?_
    refine fx_istore (pc := 45) (ls' := [some (8, this_0), some (0, p_0), some (0, h_0), some (0, v1), some (0, v3), some (0, 0), some (0, 0), some (0, 0), some (0, 0), none]) F (by decide) rfl rfl dX6_paysOf_45 ?_
    obtain ⟨⟨g_93, lesser_94, rich_95, q_96⟩, e97, hf⟩ := fx_bnd hf
    have hE98 : fx_J M G Λ 10 148 [some (8, this_0), some (0, p_0), some (0, h_0), some (0, v1), some (0, v3), some (0, g_93), some (0, lesser_94), some (0, rich_95), some (0, q_96), none] [] h := by
      refine fx_iload (pc := 148) F rfl dX6_paysOf_148 ?_
      by_cases c99 : v3 = 1 ∨ v3 = 4
      · have hf := (if_pos c99).symm.trans hf
        have hB100 : fx_J M G Λ 10 184 [some (8, this_0), some (0, p_0), some (0, h_0), some (0, v1), some (0, v3), some (0, g_93), some (0, lesser_94), some (0, rich_95), some (0, q_96), none] [] h := by
          refine fx_iconst (pc := 184) F ⟨by decide, by decide⟩ dX6_paysOf_184 ?_
          refine fx_iload (pc := 185) F rfl dX6_paysOf_185 ?_
          refine fx_iconst (pc := 187) F ⟨by decide, by decide⟩ dX6_paysOf_187 ?_
          refine fx_isub (pc := 188) F dX6_paysOf_188 ?_
          refine fx_imul (pc := 189) F dX6_paysOf_189 ?_
          cases hf
          exact fx_ireturn (pc := 190) F K dX6_paysOf_190
        rcases c99 with c99 | c99
        · exact fx_tswI (pc := 150) F 184 0 dX6_paysOf_150 c99 (by decide) rfl (by decide) hB100
        · exact fx_tswI (pc := 150) F 184 3 dX6_paysOf_150 c99 (by decide) rfl (by decide) hB100
      · have hf := (if_neg c99).symm.trans hf
        by_cases c101 : v3 = 2
        · have hf := (if_pos c101).symm.trans hf
          have hB112 : fx_J M G Λ 10 191 [some (8, this_0), some (0, p_0), some (0, h_0), some (0, v1), some (0, v3), some (0, g_93), some (0, lesser_94), some (0, rich_95), some (0, q_96), none] [] h := by
            obtain ⟨v102, e103, hf⟩ := fx_bnd hf
            have hJ104 : fx_J M G Λ 10 225 [some (8, this_0), some (0, p_0), some (0, h_0), some (0, v1), some (0, v3), some (0, g_93), some (0, lesser_94), some (0, rich_95), some (0, q_96), none] [(0, v102)] h := by
              cases hf
              exact fx_ireturn (pc := 225) F K dX6_paysOf_225
            refine fx_iload (pc := 191) F rfl dX6_paysOf_191 ?_
            refine fx_nzeq (pc := 193) F 203 (by decide) dX6_paysOf_193 (fun c105 => ?_) (fun c105 => ?_)
            · have e103 := (if_pos c105).symm.trans e103
              refine fx_iload (pc := 196) F rfl dX6_paysOf_196 ?_
              refine fx_iconst (pc := 198) F ⟨by decide, by decide⟩ dX6_paysOf_198 ?_
              refine fx_isub (pc := 199) F dX6_paysOf_199 ?_
              cases e103
              refine fx_goto (pc := 200) F 225 (by decide) dX6_paysOf_200 ?_
              exact hJ104
            · have e103 := (if_neg c105).symm.trans e103
              obtain ⟨v106, e107, e103⟩ := fx_bnd e103
              have hJ108 : fx_J M G Λ 10 225 [some (8, this_0), some (0, p_0), some (0, h_0), some (0, v1), some (0, v3), some (0, g_93), some (0, lesser_94), some (0, rich_95), some (0, q_96), none] [(0, v106)] h := by
                cases e103
                exact hJ104
              refine fx_iload_n (pc := 203) F 1 rfl rfl dX6_paysOf_203 ?_
              refine fx_aload_n (pc := 204) (t := 6) F 0 rfl rfl dX6_paysOf_204 ?_
              refine fx_gR (pc := 205) F 6 0 0 8 rfl kC_X6 (by decide) rfl wF_X6_7 dX6_paysOf_205 ?_
              refine fx_bipush (pc := 208) F ⟨by decide, by decide⟩ (by decide) dX6_paysOf_208 ?_
              obtain ⟨v109, e110, e107⟩ := fx_bnd e107
              refine fx_raldI (pc := 210) F e110 dX6_paysOf_210 ?_
              refine fx_neq (pc := 211) F 224 (by decide) dX6_paysOf_211 (fun c111 => ?_) (fun c111 => ?_)
              · have e107 := (if_pos c111).symm.trans e107
                refine fx_iload (pc := 214) F rfl dX6_paysOf_214 ?_
                refine fx_iload (pc := 216) F rfl dX6_paysOf_216 ?_
                refine fx_iconst (pc := 218) F ⟨by decide, by decide⟩ dX6_paysOf_218 ?_
                refine fx_isub (pc := 219) F dX6_paysOf_219 ?_
                refine fx_imul (pc := 220) F dX6_paysOf_220 ?_
                cases e107
                refine fx_goto (pc := 221) F 225 (by decide) dX6_paysOf_221 ?_
                exact hJ108
              · have e107 := (if_neg c111).symm.trans e107
                refine fx_iconst (pc := 224) F ⟨by decide, by decide⟩ dX6_paysOf_224 ?_
                cases e107
                exact hJ108
          exact fx_tswI (pc := 150) F 191 1 dX6_paysOf_150 c101 (by decide) rfl (by decide) hB112
        · have hf := (if_neg c101).symm.trans hf
          by_cases c113 : v3 = 3
          · have hf := (if_pos c113).symm.trans hf
            have hB114 : fx_J M G Λ 10 226 [some (8, this_0), some (0, p_0), some (0, h_0), some (0, v1), some (0, v3), some (0, g_93), some (0, lesser_94), some (0, rich_95), some (0, q_96), none] [] h := by
              refine fx_iload (pc := 226) F rfl dX6_paysOf_226 ?_
              cases hf
              exact fx_ireturn (pc := 228) F K dX6_paysOf_228
            exact fx_tswI (pc := 150) F 226 2 dX6_paysOf_150 c113 (by decide) rfl (by decide) hB114
          · have hf := (if_neg c113).symm.trans hf
            by_cases c115 : v3 = 5
            · have hf := (if_pos c115).symm.trans hf
              have hB122 : fx_J M G Λ 10 229 [some (8, this_0), some (0, p_0), some (0, h_0), some (0, v1), some (0, v3), some (0, g_93), some (0, lesser_94), some (0, rich_95), some (0, q_96), none] [] h := by
                refine fx_iload (pc := 229) F rfl dX6_paysOf_229 ?_
                obtain ⟨v116, e117, hf⟩ := fx_bnd hf
                have hJ118 : fx_J M G Λ 10 245 [some (8, this_0), some (0, p_0), some (0, h_0), some (0, v1), some (0, v3), some (0, g_93), some (0, lesser_94), some (0, rich_95), some (0, q_96), none] [(0, v116), (0, lesser_94)] h := by
                  refine fx_iadd (pc := 245) F dX6_paysOf_245 ?_
                  cases hf
                  exact fx_ireturn (pc := 246) F K dX6_paysOf_246
                refine fx_aload_n (pc := 231) (t := 6) F 0 rfl rfl dX6_paysOf_231 ?_
                refine fx_iload_n (pc := 232) F 1 rfl rfl dX6_paysOf_232 ?_
                refine fx_iload_n (pc := 233) F 2 rfl rfl dX6_paysOf_233 ?_
                obtain ⟨v119, e120, e117⟩ := fx_bnd e117
                refine fx_cV (pc := 234) F 6 kC_X6 [(0, p_0), (0, h_0)] this_0 [(0, lesser_94)] (m_X6_wasDone Fu Λ this_0 p_0 h_0 h _ e120) kD_X6_wasDone kI_X6_wasDone rfl wM_X6_130 ⟨rfl, rfl⟩ ⟨by decide, by decide⟩ (Nat.le_of_ble_eq_true rfl) rfl dX6_paysOf_234 ?_
                refine fx_nzne (pc := 237) F 244 (by decide) dX6_paysOf_237 (fun c121 => ?_) (fun c121 => ?_)
                · have e117 := (if_pos c121).symm.trans e117
                  refine fx_iconst (pc := 240) F ⟨by decide, by decide⟩ dX6_paysOf_240 ?_
                  cases e117
                  refine fx_goto (pc := 241) F 245 (by decide) dX6_paysOf_241 ?_
                  exact hJ118
                · have e117 := (if_neg c121).symm.trans e117
                  refine fx_iconst (pc := 244) F ⟨by decide, by decide⟩ dX6_paysOf_244 ?_
                  cases e117
                  exact hJ118
              exact fx_tswI (pc := 150) F 229 4 dX6_paysOf_150 c115 (by decide) rfl (by decide) hB122
            · have hf := (if_neg c115).symm.trans hf
              refine fx_tswO (pc := 150) F 247 dX6_paysOf_150 (by omega) (by decide) ?_
              refine fx_iload (pc := 247) F rfl dX6_paysOf_247 ?_
              refine fx_iconst (pc := 249) F ⟨by decide, by decide⟩ dX6_paysOf_249 ?_
              refine fx_isub (pc := 250) F dX6_paysOf_250 ?_
              cases hf
              exact fx_ireturn (pc := 251) F K dX6_paysOf_251
    refine fx_loop_J (Hd := (fun z : Int × Int × Int × Int => fx_J M G Λ 10 47 [some (8, this_0), some (0, p_0), some (0, h_0), some (0, v1), some (0, v3), some (0, z.1), some (0, z.2.1), some (0, z.2.2.1), some (0, z.2.2.2), none] [] h)) (Ex := (fun z : Int × Int × Int × Int => fx_J M G Λ 10 148 [some (8, this_0), some (0, p_0), some (0, h_0), some (0, v1), some (0, v3), some (0, z.1), some (0, z.2.1), some (0, z.2.2.1), some (0, z.2.2.2), none] [] h)) ?_ Fu _ _ e97 hE98
    rintro ⟨g_54, lesser_55, rich_56, q_57⟩ o9 eq58 ih ex
    unfold s_X6_paysOf_1 at eq58
    show fx_J M G Λ 10 47 [some (8, this_0), some (0, p_0), some (0, h_0), some (0, v1), some (0, v3), some (0, g_54), some (0, lesser_55), some (0, rich_56), some (0, q_57), none] [] h
    refine fx_iload (pc := 47) F rfl dX6_paysOf_47 ?_
    refine fx_aload_n (pc := 49) (t := 6) F 0 rfl rfl dX6_paysOf_49 ?_
    obtain ⟨v59, e60, eq58⟩ := fx_bnd eq58
    refine fx_cV (pc := 50) F 6 kC_X6 [] this_0 [(0, q_57)] (m_X6_people Fu Λ this_0 h _ e60) kD_X6_people kI_X6_people rfl wM_X6_78 ⟨rfl, rfl⟩ ⟨by decide, by decide⟩ (Nat.le_of_ble_eq_true rfl) rfl dX6_paysOf_50 ?_
    refine fx_nlt (pc := 53) F 148 (by decide) dX6_paysOf_53 (fun c61 => ?_) (fun c61 => ?_)
    · have eq58 := (if_pos c61).symm.trans eq58
      refine fx_aload_n (pc := 56) (t := 6) F 0 rfl rfl dX6_paysOf_56 ?_
      refine fx_iload (pc := 57) F rfl dX6_paysOf_57 ?_
      refine fx_iload_n (pc := 59) F 1 rfl rfl dX6_paysOf_59 ?_
      refine fx_iload_n (pc := 60) F 2 rfl rfl dX6_paysOf_60 ?_
      obtain ⟨v62, e63, eq58⟩ := fx_bnd eq58
      have hJ64 : fx_J M G Λ 10 72 [some (8, this_0), some (0, p_0), some (0, h_0), some (0, v1), some (0, v3), some (0, g_54), some (0, lesser_55), some (0, rich_56), some (0, q_57), none] [(0, v62), (0, h_0), (0, p_0), (0, q_57), (8, this_0)] h := by
        obtain ⟨v66, e67, eq58⟩ := fx_bnd eq58
        refine fx_cV (pc := 72) F 6 kC_X6 [(0, q_57), (0, p_0), (0, h_0), (0, v62)] this_0 [] (m_X6_isWith Fu Λ this_0 q_57 p_0 h_0 v62 h _ e67) kD_X6_isWith kI_X6_isWith rfl wM_X6_126 ⟨rfl, rfl⟩ ⟨by decide, by decide⟩ (Nat.le_of_ble_eq_true rfl) rfl dX6_paysOf_72 ?_
        refine fx_istore (pc := 75) (ls' := [some (8, this_0), some (0, p_0), some (0, h_0), some (0, v1), some (0, v3), some (0, g_54), some (0, lesser_55), some (0, rich_56), some (0, q_57), some (0, v66)]) F (by decide) rfl rfl dX6_paysOf_75 ?_
        refine fx_iload (pc := 77) F rfl dX6_paysOf_77 ?_
        obtain ⟨v68, e69, eq58⟩ := fx_bnd eq58
        have hJ70 : fx_J M G Λ 10 89 [some (8, this_0), some (0, p_0), some (0, h_0), some (0, v1), some (0, v3), some (0, g_54), some (0, lesser_55), some (0, rich_56), some (0, q_57), some (0, v66)] [(0, v68), (0, g_54)] h := by
          refine fx_iadd (pc := 89) F dX6_paysOf_89 ?_
          refine fx_istore (pc := 90) (ls' := [some (8, this_0), some (0, p_0), some (0, h_0), some (0, v1), some (0, v3), some (0, (fx_w (g_54 + v68))), some (0, lesser_55), some (0, rich_56), some (0, q_57), some (0, v66)]) F (by decide) rfl rfl dX6_paysOf_90 ?_
          refine fx_iload (pc := 92) F rfl dX6_paysOf_92 ?_
          obtain ⟨v72, e73, eq58⟩ := fx_bnd eq58
          have hJ74 : fx_J M G Λ 10 110 [some (8, this_0), some (0, p_0), some (0, h_0), some (0, v1), some (0, v3), some (0, (fx_w (g_54 + v68))), some (0, lesser_55), some (0, rich_56), some (0, q_57), some (0, v66)] [(0, v72), (0, lesser_55)] h := by
            refine fx_iadd (pc := 110) F dX6_paysOf_110 ?_
            refine fx_istore (pc := 111) (ls' := [some (8, this_0), some (0, p_0), some (0, h_0), some (0, v1), some (0, v3), some (0, (fx_w (g_54 + v68))), some (0, (fx_w (lesser_55 + v72))), some (0, rich_56), some (0, q_57), some (0, v66)]) F (by decide) rfl rfl dX6_paysOf_111 ?_
            obtain ⟨v80, e81, eq58⟩ := fx_bnd eq58
            have hJ82 : fx_J M G Λ 10 140 [some (8, this_0), some (0, p_0), some (0, h_0), some (0, v1), some (0, v3), some (0, (fx_w (g_54 + v68))), some (0, (fx_w (lesser_55 + v72))), some (0, rich_56), some (0, q_57), some (0, v66)] [(0, v80)] h := by
              refine fx_istore (pc := 140) (ls' := [some (8, this_0), some (0, p_0), some (0, h_0), some (0, v1), some (0, v3), some (0, (fx_w (g_54 + v68))), some (0, (fx_w (lesser_55 + v72))), some (0, v80), some (0, q_57), some (0, v66)]) F (by decide) rfl rfl dX6_paysOf_140 ?_
              refine fx_iinc (pc := 142) (ls' := [some (8, this_0), some (0, p_0), some (0, h_0), some (0, v1), some (0, v3), some (0, (fx_w (g_54 + v68))), some (0, (fx_w (lesser_55 + v72))), some (0, v80), some (0, (fx_w (q_57 + 1))), some (0, v66)]) F (by decide) rfl rfl rfl dX6_paysOf_142 ?_
              refine fx_goto (pc := 145) F 47 (by decide) dX6_paysOf_145 ?_
              cases eq58
              refine fx_drop (ls' := [some (8, this_0), some (0, p_0), some (0, h_0), some (0, v1), some (0, v3), some (0, (fx_w (g_54 + v68))), some (0, (fx_w (lesser_55 + v72))), some (0, v80), some (0, (fx_w (q_57 + 1))), none]) ⟨rfl, rfl, rfl, rfl, rfl, rfl, rfl, rfl, rfl, trivial⟩ ?_
              exact ih _ rfl
            obtain ⟨b83, e84, e81⟩ := fx_bnd e81
            have hT85 : b83 = true → fx_J M G Λ 10 135 [some (8, this_0), some (0, p_0), some (0, h_0), some (0, v1), some (0, v3), some (0, (fx_w (g_54 + v68))), some (0, (fx_w (lesser_55 + v72))), some (0, rich_56), some (0, q_57), some (0, v66)] [] h := fun c92 => by
              have e81 := (if_pos c92).symm.trans e81
              refine fx_iconst (pc := 135) F ⟨by decide, by decide⟩ dX6_paysOf_135 ?_
              cases e81
              refine fx_goto (pc := 136) F 140 (by decide) dX6_paysOf_136 ?_
              exact hJ82
            have hF86 : ¬ b83 = true → fx_J M G Λ 10 139 [some (8, this_0), some (0, p_0), some (0, h_0), some (0, v1), some (0, v3), some (0, (fx_w (g_54 + v68))), some (0, (fx_w (lesser_55 + v72))), some (0, rich_56), some (0, q_57), some (0, v66)] [] h := fun c92 => by
              have e81 := (if_neg c92).symm.trans e81
              refine fx_iconst (pc := 139) F ⟨by decide, by decide⟩ dX6_paysOf_139 ?_
              cases e81
              exact hJ82
            refine fx_iload (pc := 113) F rfl dX6_paysOf_113 ?_
            refine fx_jzne (pc := 115) F 135 (by decide) dX6_paysOf_115 (fun c87 => ?_) (fun c87 => ?_)
            · have e84 := (if_pos c87).symm.trans e84
              cases e84
              exact hT85 (by decide)
            · have e84 := (if_neg c87).symm.trans e84
              refine fx_iload (pc := 118) F rfl dX6_paysOf_118 ?_
              refine fx_nzne (pc := 120) F 139 (by decide) dX6_paysOf_120 (fun c88 => ?_) (fun c88 => ?_)
              · have e84 := (if_pos c88).symm.trans e84
                refine fx_iload (pc := 123) F rfl dX6_paysOf_123 ?_
                refine fx_aload_n (pc := 125) (t := 6) F 0 rfl rfl dX6_paysOf_125 ?_
                refine fx_gR (pc := 126) F 6 0 0 8 rfl kC_X6 (by decide) rfl wF_X6_7 dX6_paysOf_126 ?_
                refine fx_bipush (pc := 129) F ⟨by decide, by decide⟩ (by decide) dX6_paysOf_129 ?_
                obtain ⟨v89, e90, e84⟩ := fx_bnd e84
                refine fx_raldI (pc := 131) F e90 dX6_paysOf_131 ?_
                refine fx_neq (pc := 132) F 139 (by decide) dX6_paysOf_132 (fun c91 => ?_) (fun c91 => ?_)
                · have e84 := (if_pos c91).symm.trans e84
                  cases e84
                  exact hT85 (by decide)
                · have e84 := (if_neg c91).symm.trans e84
                  cases e84
                  exact hF86 (by decide)
              · have e84 := (if_neg c88).symm.trans e84
                cases e84
                exact hF86 (by decide)
          refine fx_iload (pc := 94) F rfl dX6_paysOf_94 ?_
          have hT75 : (((¬ v66 = 0) ∧ (q_57 < p_0))) → fx_J M G Λ 10 105 [some (8, this_0), some (0, p_0), some (0, h_0), some (0, v1), some (0, v3), some (0, (fx_w (g_54 + v68))), some (0, lesser_55), some (0, rich_56), some (0, q_57), some (0, v66)] [(0, lesser_55)] h := fun c79 => by
            have e73 := (if_pos c79).symm.trans e73
            refine fx_iconst (pc := 105) F ⟨by decide, by decide⟩ dX6_paysOf_105 ?_
            cases e73
            refine fx_goto (pc := 106) F 110 (by decide) dX6_paysOf_106 ?_
            exact hJ74
          have hF76 : ¬ (((¬ v66 = 0) ∧ (q_57 < p_0))) → fx_J M G Λ 10 109 [some (8, this_0), some (0, p_0), some (0, h_0), some (0, v1), some (0, v3), some (0, (fx_w (g_54 + v68))), some (0, lesser_55), some (0, rich_56), some (0, q_57), some (0, v66)] [(0, lesser_55)] h := fun c79 => by
            have e73 := (if_neg c79).symm.trans e73
            refine fx_iconst (pc := 109) F ⟨by decide, by decide⟩ dX6_paysOf_109 ?_
            cases e73
            exact hJ74
          refine fx_nzne (pc := 96) F 109 (by decide) dX6_paysOf_96 (fun c77 => ?_) (fun c77 => ?_)
          · refine fx_iload (pc := 99) F rfl dX6_paysOf_99 ?_
            refine fx_iload_n (pc := 101) F 1 rfl rfl dX6_paysOf_101 ?_
            refine fx_nlt (pc := 102) F 109 (by decide) dX6_paysOf_102 (fun c78 => ?_) (fun c78 => ?_)
            · exact hT75 ⟨c77, c78⟩
            · exact hF76 (fun q => c78 q.2)
          · exact hF76 (fun q => c77 q.1)
        refine fx_iload (pc := 79) F rfl dX6_paysOf_79 ?_
        refine fx_nzne (pc := 81) F 88 (by decide) dX6_paysOf_81 (fun c71 => ?_) (fun c71 => ?_)
        · have e69 := (if_pos c71).symm.trans e69
          refine fx_iconst (pc := 84) F ⟨by decide, by decide⟩ dX6_paysOf_84 ?_
          cases e69
          refine fx_goto (pc := 85) F 89 (by decide) dX6_paysOf_85 ?_
          exact hJ70
        · have e69 := (if_neg c71).symm.trans e69
          refine fx_iconst (pc := 88) F ⟨by decide, by decide⟩ dX6_paysOf_88 ?_
          cases e69
          exact hJ70
      refine fx_iload (pc := 61) F rfl dX6_paysOf_61 ?_
      refine fx_iconst (pc := 63) F ⟨by decide, by decide⟩ dX6_paysOf_63 ?_
      refine fx_neq (pc := 64) F 71 (by decide) dX6_paysOf_64 (fun c65 => ?_) (fun c65 => ?_)
      · have e63 := (if_pos c65).symm.trans e63
        refine fx_iconst (pc := 67) F ⟨by decide, by decide⟩ dX6_paysOf_67 ?_
        cases e63
        refine fx_goto (pc := 68) F 72 (by decide) dX6_paysOf_68 ?_
        exact hJ64
      · have e63 := (if_neg c65).symm.trans e63
        refine fx_iconst (pc := 71) F ⟨by decide, by decide⟩ dX6_paysOf_71 ?_
        cases e63
        exact hJ64
    · have eq58 := (if_neg c61).symm.trans eq58
      cases eq58
      exact ex _ rfl
  refine fx_jeq (pc := 20) F 33 (by decide) dX6_paysOf_20 (fun c7 => ?_) (fun c7 => ?_)
  · exact hT5 (Or.inl c7)
  · refine fx_iload (pc := 23) F rfl dX6_paysOf_23 ?_
    refine fx_iconst (pc := 25) F ⟨by decide, by decide⟩ dX6_paysOf_25 ?_
    refine fx_neq (pc := 26) F 35 (by decide) dX6_paysOf_26 (fun c8 => ?_) (fun c8 => ?_)
    · refine fx_iload_n (pc := 29) F 3 rfl rfl dX6_paysOf_29 ?_
      refine fx_nzeq (pc := 30) F 35 (by decide) dX6_paysOf_30 (fun c9 => ?_) (fun c9 => ?_)
      · exact hT5 (Or.inr ⟨c8, c9⟩)
      · exact hF6 (fun q => q.elim c7 (fun q => c9 q.2))
    · exact hF6 (fun q => q.elim c7 (fun q => c8 q.1))
