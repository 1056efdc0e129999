def f_X4_kindOf (Fu : Nat) (Λ : fx_L) (this_0 : Int) (hour_0 : Int) (h : fx_H) : Option (Int) :=
  Option.bind (
    (f_X4_hasHour Fu Λ this_0 hour_0 h).bind fun v4 =>
    if ¬ v4 = 0 then
      (fx_rd Λ h (fx_tg Λ this_0 7) hour_0).bind fun v7 =>
      some v7
    else
      some (0 : Int)
  ) fun v1 =>
  some v1
abbrev rm_X4_kindOf : Room := { frames := 2, cells := 0, slots := 0, locals := 43 }
set_option maxRecDepth 100000 in
set_option maxHeartbeats 4000000 in
theorem m_X4_kindOf (Fu : Nat) (Λ : fx_L) (this_0 : Int) (hour_0 : Int) (h : fx_H) (r : Int) (hf : f_X4_kindOf Fu Λ this_0 hour_0 h = some r) : fx_Met yX4_kindOf cX4_kindOf 2 (some .int) rm_X4_kindOf Λ [(6, this_0), (0, hour_0)] h (some (0, r)) h := by
  unfold f_X4_kindOf at hf
  refine fx_enter (ls := [some (6, this_0), some (0, hour_0)]) (by decide) (Nat.le_of_ble_eq_true rfl) rfl (fun M G F K => ?_)
  obtain ⟨v1, e2, hf⟩ := fx_bnd hf
  have hJ3 : fx_J M G Λ 2 18 [some (6, this_0), some (0, hour_0)] [(0, v1)] h := by
    cases hf
    exact fx_ireturn (pc := 18) F K dX4_kindOf_18
  refine fx_aload_n (pc := 0) (t := 4) F 0 rfl rfl dX4_kindOf_0 ?_
  refine fx_iload_n (pc := 1) F 1 rfl rfl dX4_kindOf_1 ?_
  obtain ⟨v4, e5, e2⟩ := fx_bnd e2
  refine fx_cV (pc := 2) F 4 kC_X4 [(0, hour_0)] this_0 [] (m_X4_hasHour Fu Λ this_0 hour_0 h _ e5) kD_X4_hasHour kI_X4_hasHour rfl wM_X4_80 ⟨rfl, rfl⟩ ⟨by decide, by decide⟩ (Nat.le_of_ble_eq_true rfl) rfl dX4_kindOf_2 ?_
  refine fx_nzne (pc := 5) F 17 (by decide) dX4_kindOf_5 (fun c6 => ?_) (fun c6 => ?_)
  · have e2 := (if_pos c6).symm.trans e2
    refine fx_aload_n (pc := 8) (t := 4) F 0 rfl rfl dX4_kindOf_8 ?_
    refine fx_gR (pc := 9) F 4 7 7 8 rfl kC_X4 (by decide) rfl wF_X4_15 dX4_kindOf_9 ?_
    refine fx_iload_n (pc := 12) F 1 rfl rfl dX4_kindOf_12 ?_
    obtain ⟨v7, e8, e2⟩ := fx_bnd e2
    refine fx_raldI (pc := 13) F e8 dX4_kindOf_13 ?_
    cases e2
    refine fx_goto (pc := 14) F 18 (by decide) dX4_kindOf_14 ?_
    exact hJ3
  · have e2 := (if_neg c6).symm.trans e2
    refine fx_iconst (pc := 17) F ⟨by decide, by decide⟩ dX4_kindOf_17 ?_
    cases e2
    exact hJ3
def f_X0_aheadOf (Fu : Nat) (Λ : fx_L) (this_0 : Int) (day_0 : Int) (hour_0 : Int) (h : fx_H) : Option (Int) :=
  Option.bind (
    (f_X5_within Fu Λ hour_0 1 4 h).bind fun v4 =>
    if ¬ v4 = 0 then
      (fx_rr Λ day_0 (fx_w (hour_0 - 1))).bind fun v7 =>
      some v7
    else
      some (fx_tg Λ this_0 2)
  ) fun v1 =>
  some v1
abbrev rm_X0_aheadOf : Room := { frames := 1, cells := 0, slots := 0, locals := 22 }
set_option maxRecDepth 100000 in
set_option maxHeartbeats 4000000 in
theorem m_X0_aheadOf (Fu : Nat) (Λ : fx_L) (this_0 : Int) (day_0 : Int) (hour_0 : Int) (h : fx_H) (r : Int) (hf : f_X0_aheadOf Fu Λ this_0 day_0 hour_0 h = some r) : fx_Met yX0_aheadOf cX0_aheadOf 3 (some (.array .int)) rm_X0_aheadOf Λ [(2, this_0), (13, day_0), (0, hour_0)] h (some (10, r)) h := by
  unfold f_X0_aheadOf at hf
  refine fx_enter (ls := [some (2, this_0), some (13, day_0), some (0, hour_0)]) (by decide) (Nat.le_of_ble_eq_true rfl) rfl (fun M G F K => ?_)
  obtain ⟨v1, e2, hf⟩ := fx_bnd hf
  have hJ3 : fx_J M G Λ 3 21 [some (2, this_0), some (13, day_0), some (0, hour_0)] [(10, v1)] h := by
    cases hf
    exact fx_areturn (pc := 21) F K dX0_aheadOf_21
  refine fx_iload_n (pc := 0) F 2 rfl rfl dX0_aheadOf_0 ?_
  refine fx_iconst (pc := 1) F ⟨by decide, by decide⟩ dX0_aheadOf_1 ?_
  refine fx_iconst (pc := 2) F ⟨by decide, by decide⟩ dX0_aheadOf_2 ?_
  obtain ⟨v4, e5, e2⟩ := fx_bnd e2
  refine fx_cN (pc := 3) F [(0, hour_0), (0, 1), (0, 4)] [] (m_X5_within Fu Λ hour_0 1 4 h _ e5) kD_X5_within wSt_X5_within (by decide) ⟨rfl, rfl⟩ ⟨by decide, by decide⟩ (Nat.le_of_ble_eq_true rfl) rfl dX0_aheadOf_3 ?_
  refine fx_nzne (pc := 6) F 17 (by decide) dX0_aheadOf_6 (fun c6 => ?_) (fun c6 => ?_)
  · have e2 := (if_pos c6).symm.trans e2
    refine fx_aload_n (pc := 9) (t := 11) F 1 rfl rfl dX0_aheadOf_9 ?_
    refine fx_iload_n (pc := 10) F 2 rfl rfl dX0_aheadOf_10 ?_
    refine fx_iconst (pc := 11) F ⟨by decide, by decide⟩ dX0_aheadOf_11 ?_
    refine fx_isub (pc := 12) F dX0_aheadOf_12 ?_
    obtain ⟨v7, e8, e2⟩ := fx_bnd e2
    refine fx_raldG (pc := 13) F e8 dX0_aheadOf_13 ?_
    cases e2
    refine fx_goto (pc := 14) F 21 (by decide) dX0_aheadOf_14 ?_
    exact hJ3
  · have e2 := (if_neg c6).symm.trans e2
    refine fx_aload_n (pc := 17) (t := 0) F 0 rfl rfl dX0_aheadOf_17 ?_
    refine fx_gR (pc := 18) F 0 2 2 8 rfl kC_X0 (by decide) rfl wF_X0_18 dX0_aheadOf_18 ?_
    cases e2
    exact hJ3
def f_X0_fineIn (Fu : Nat) (Λ : fx_L) (this_0 : Int) (town_0 : Int) (hour_0 : Int) (person_0 : Int) (thing_0 : Int) (h : fx_H) : Option (Int) :=
  (f_X4_kindOf Fu Λ town_0 hour_0 h).bind fun v1 =>
  (fx_rr Λ (fx_tg Λ town_0 8) hour_0).bind fun v3 =>
  (f_X0_aheadOf Fu Λ this_0 (fx_tg Λ town_0 8) hour_0 h).bind fun v5 =>
  (f_X0_fine Fu Λ this_0 v1 v3 v5 person_0 thing_0 h).bind fun v7 =>
  some v7
abbrev rm_X0_fineIn : Room := { frames := 3, cells := 0, slots := 0, locals := 64 }
set_option maxRecDepth 100000 in
set_option maxHeartbeats 4000000 in
theorem m_X0_fineIn (Fu : Nat) (Λ : fx_L) (this_0 : Int) (town_0 : Int) (hour_0 : Int) (person_0 : Int) (thing_0 : Int) (h : fx_H) (r : Int) (hf : f_X0_fineIn Fu Λ this_0 town_0 hour_0 person_0 thing_0 h = some r) : fx_Met yX0_fineIn cX0_fineIn 5 (some .int) rm_X0_fineIn Λ [(2, this_0), (6, town_0), (0, hour_0), (0, person_0), (0, thing_0)] h (some (0, r)) h := by
  unfold f_X0_fineIn at hf
  refine fx_enter (ls := [some (2, this_0), some (6, town_0), some (0, hour_0), some (0, person_0), some (0, thing_0)]) (by decide) (Nat.le_of_ble_eq_true rfl) rfl (fun M G F K => ?_)
  refine fx_aload_n (pc := 0) (t := 0) F 0 rfl rfl dX0_fineIn_0 ?_
  refine fx_aload_n (pc := 1) (t := 4) F 1 rfl rfl dX0_fineIn_1 ?_
  refine fx_iload_n (pc := 2) F 2 rfl rfl dX0_fineIn_2 ?_
  obtain ⟨v1, e2, hf⟩ := fx_bnd hf
  refine fx_cV (pc := 3) F 4 kC_X4 [(0, hour_0)] town_0 [(2, this_0)] (m_X4_kindOf Fu Λ town_0 hour_0 h _ e2) kD_X4_kindOf kI_X4_kindOf rfl wM_X0_51 ⟨rfl, rfl⟩ ⟨by decide, by decide⟩ (Nat.le_of_ble_eq_true rfl) rfl dX0_fineIn_3 ?_
  refine fx_aload_n (pc := 6) (t := 4) F 1 rfl rfl dX0_fineIn_6 ?_
  refine fx_gR (pc := 7) F 4 8 8 11 rfl kC_X4 (by decide) rfl wF_X0_55 dX0_fineIn_7 ?_
  refine fx_iload_n (pc := 10) F 2 rfl rfl dX0_fineIn_10 ?_
  obtain ⟨v3, e4, hf⟩ := fx_bnd hf
  refine fx_raldG (pc := 11) F e4 dX0_fineIn_11 ?_
  refine fx_aload_n (pc := 12) (t := 0) F 0 rfl rfl dX0_fineIn_12 ?_
  refine fx_aload_n (pc := 13) (t := 4) F 1 rfl rfl dX0_fineIn_13 ?_
  refine fx_gR (pc := 14) F 4 8 8 11 rfl kC_X4 (by decide) rfl wF_X0_55 dX0_fineIn_14 ?_
  refine fx_iload_n (pc := 17) F 2 rfl rfl dX0_fineIn_17 ?_
  obtain ⟨v5, e6, hf⟩ := fx_bnd hf
  refine fx_cV (pc := 18) F 0 kC_X0 [(13, (fx_tg Λ town_0 8)), (0, hour_0)] this_0 [(10, v3), (0, v1), (2, this_0)] (m_X0_aheadOf Fu Λ this_0 (fx_tg Λ town_0 8) hour_0 h _ e6) kD_X0_aheadOf kI_X0_aheadOf rfl wM_X0_59 ⟨rfl, rfl⟩ ⟨by decide, by decide⟩ (Nat.le_of_ble_eq_true rfl) rfl dX0_fineIn_18 ?_
  refine fx_iload_n (pc := 21) F 3 rfl rfl dX0_fineIn_21 ?_
  refine fx_iload (pc := 22) F rfl dX0_fineIn_22 ?_
  obtain ⟨v7, e8, hf⟩ := fx_bnd hf
  refine fx_cV (pc := 24) F 0 kC_X0 [(0, v1), (10, v3), (10, v5), (0, person_0), (0, thing_0)] this_0 [] (m_X0_fine Fu Λ this_0 v1 v3 v5 person_0 thing_0 h _ e8) kD_X0_fine kI_X0_fine rfl wM_X0_63 ⟨rfl, rfl⟩ ⟨by decide, by decide⟩ (Nat.le_of_ble_eq_true rfl) rfl dX0_fineIn_24 ?_
  cases hf
  exact fx_ireturn (pc := 27) F K dX0_fineIn_27
def f_X5_pays (Fu : Nat) (Λ : fx_L) (this_0 : Int) (person_0 : Int) (hour_0 : Int) (h : fx_H) : Option (Int × fx_H) :=
  Option.bind (
    (f_X4_hasPerson Fu Λ (fx_tg Λ this_0 0) person_0 h).bind fun v5 =>
    if v5 = 0 then
      some true
    else
      (f_X4_hasHour Fu Λ (fx_tg Λ this_0 0) hour_0 h).bind fun v8 =>
      if v8 = 0 then
        some true
      else
        some false
  ) fun b1 =>
  if b1 = true then
    (f_X5_refuseBad Fu Λ this_0 (-2) h).bind fun (v12, h13) =>
    some (v12, h13)
  else
    (f_X0_sit Fu Λ (fx_tg Λ this_0 5) (fx_tg Λ this_0 0) (h (fx_tg Λ this_0 0) 1) (-1) h).bind fun h15 =>
    (fx_rr Λ (fx_tg Λ (fx_tg Λ this_0 0) 8) hour_0).bind fun v17 =>
    (fx_rd Λ h15 v17 person_0).bind fun v19 =>
    (f_X0_fineIn Fu Λ (fx_tg Λ this_0 5) (fx_tg Λ this_0 0) hour_0 person_0 v19 h15).bind fun v21 =>
    some (v21, h15)
abbrev rm_X5_pays : Room := { frames := 4, cells := 0, slots := 0, locals := 88 }
set_option maxRecDepth 100000 in
set_option maxHeartbeats 4000000 in
theorem m_X5_pays (Fu : Nat) (Λ : fx_L) (this_0 : Int) (person_0 : Int) (hour_0 : Int) (h : fx_H) (r : Int) (ho : fx_H) (hf : f_X5_pays Fu Λ this_0 person_0 hour_0 h = some (r, ho)) : fx_Met yX5_pays cX5_pays 3 (some .int) rm_X5_pays Λ [(7, this_0), (0, person_0), (0, hour_0)] h (some (0, r)) ho := by
  unfold f_X5_pays at hf
  refine fx_enter (ls := [some (7, this_0), some (0, person_0), some (0, hour_0)]) (by decide) (Nat.le_of_ble_eq_true rfl) rfl (fun M G F K => ?_)
  obtain ⟨b1, e2, hf⟩ := fx_bnd hf
  have hT3 : b1 = true → fx_J M G Λ 3 22 [some (7, this_0), some (0, person_0), some (0, hour_0)] [] h := fun c11 => by
    have hf := (if_pos c11).symm.trans hf
    refine fx_aload_n (pc := 22) (t := 5) F 0 rfl rfl dX5_pays_22 ?_
    refine fx_bipush (pc := 23) F ⟨by decide, by decide⟩ (by decide) dX5_pays_23 ?_
    obtain ⟨⟨v12, h13⟩, e14, hf⟩ := fx_bnd hf
    refine fx_cV (pc := 25) F 5 kC_X5 [(0, (-2))] this_0 [] (m_X5_refuseBad Fu Λ this_0 (-2) h _ _ e14) kD_X5_refuseBad kI_X5_refuseBad rfl wM_X5_63 ⟨rfl, rfl⟩ ⟨by decide, by decide⟩ (Nat.le_of_ble_eq_true rfl) rfl dX5_pays_25 ?_
    cases hf
    exact fx_ireturn (pc := 28) F K dX5_pays_28
  have hF4 : ¬ b1 = true → fx_J M G Λ 3 29 [some (7, this_0), some (0, person_0), some (0, hour_0)] [] h := fun c11 => by
    have hf := (if_neg c11).symm.trans hf
    refine fx_aload_n (pc := 29) (t := 5) F 0 rfl rfl dX5_pays_29 ?_
    refine fx_gR (pc := 30) F 5 5 5 0 rfl kC_X5 (by decide) rfl wF_X5_37 dX5_pays_30 ?_
    refine fx_aload_n (pc := 33) (t := 5) F 0 rfl rfl dX5_pays_33 ?_
    refine fx_gR (pc := 34) F 5 0 0 4 rfl kC_X5 (by decide) rfl wF_X5_10 dX5_pays_34 ?_
    refine fx_aload_n (pc := 37) (t := 5) F 0 rfl rfl dX5_pays_37 ?_
    refine fx_gR (pc := 38) F 5 0 0 4 rfl kC_X5 (by decide) rfl wF_X5_10 dX5_pays_38 ?_
    refine fx_gI (pc := 41) F 4 1 1 rfl kC_X4 rfl wF_X5_147 dX5_pays_41 ?_
    refine fx_iconst (pc := 44) F ⟨by decide, by decide⟩ dX5_pays_44 ?_
    obtain ⟨h15, e16, hf⟩ := fx_bnd hf
    refine fx_cVv (pc := 45) F 0 kC_X0 [(6, (fx_tg Λ this_0 0)), (0, (h (fx_tg Λ this_0 0) 1)), (0, (-1))] (fx_tg Λ this_0 5) [] (m_X0_sit Fu Λ (fx_tg Λ this_0 5) (fx_tg Λ this_0 0) (h (fx_tg Λ this_0 0) 1) (-1) h _ e16) kD_X0_sit kI_X0_sit rfl wM_X5_150 ⟨rfl, rfl⟩ ⟨by decide, by decide⟩ (Nat.le_of_ble_eq_true rfl) rfl dX5_pays_45 ?_
    refine fx_aload_n (pc := 48) (t := 5) F 0 rfl rfl dX5_pays_48 ?_
    refine fx_gR (pc := 49) F 5 5 5 0 rfl kC_X5 (by decide) rfl wF_X5_37 dX5_pays_49 ?_
    refine fx_aload_n (pc := 52) (t := 5) F 0 rfl rfl dX5_pays_52 ?_
    refine fx_gR (pc := 53) F 5 0 0 4 rfl kC_X5 (by decide) rfl wF_X5_10 dX5_pays_53 ?_
    refine fx_iload_n (pc := 56) F 2 rfl rfl dX5_pays_56 ?_
    refine fx_iload_n (pc := 57) F 1 rfl rfl dX5_pays_57 ?_
    refine fx_aload_n (pc := 58) (t := 5) F 0 rfl rfl dX5_pays_58 ?_
    refine fx_gR (pc := 59) F 5 0 0 4 rfl kC_X5 (by decide) rfl wF_X5_10 dX5_pays_59 ?_
    refine fx_gR (pc := 62) F 4 8 8 11 rfl kC_X4 (by decide) rfl wF_X5_106 dX5_pays_62 ?_
    refine fx_iload_n (pc := 65) F 2 rfl rfl dX5_pays_65 ?_
    obtain ⟨v17, e18, hf⟩ := fx_bnd hf
    refine fx_raldG (pc := 66) F e18 dX5_pays_66 ?_
    refine fx_iload_n (pc := 67) F 1 rfl rfl dX5_pays_67 ?_
    obtain ⟨v19, e20, hf⟩ := fx_bnd hf
    refine fx_raldI (pc := 68) F e20 dX5_pays_68 ?_
    obtain ⟨v21, e22, hf⟩ := fx_bnd hf
    refine fx_cV (pc := 69) F 0 kC_X0 [(6, (fx_tg Λ this_0 0)), (0, hour_0), (0, person_0), (0, v19)] (fx_tg Λ this_0 5) [] (m_X0_fineIn Fu Λ (fx_tg Λ this_0 5) (fx_tg Λ this_0 0) hour_0 person_0 v19 h15 _ e22) kD_X0_fineIn kI_X0_fineIn rfl wM_X5_158 ⟨rfl, rfl⟩ ⟨by decide, by decide⟩ (Nat.le_of_ble_eq_true rfl) rfl dX5_pays_69 ?_
    cases hf
    exact fx_ireturn (pc := 72) F K dX5_pays_72
  refine fx_aload_n (pc := 0) (t := 5) F 0 rfl rfl dX5_pays_0 ?_
  refine fx_gR (pc := 1) F 5 0 0 4 rfl kC_X5 (by decide) rfl wF_X5_10 dX5_pays_1 ?_
  refine fx_iload_n (pc := 4) F 1 rfl rfl dX5_pays_4 ?_
  obtain ⟨v5, e6, e2⟩ := fx_bnd e2
  refine fx_cV (pc := 5) F 4 kC_X4 [(0, person_0)] (fx_tg Λ this_0 0) [] (m_X4_hasPerson Fu Λ (fx_tg Λ this_0 0) person_0 h _ e6) kD_X4_hasPerson kI_X4_hasPerson rfl wM_X5_100 ⟨rfl, rfl⟩ ⟨by decide, by decide⟩ (Nat.le_of_ble_eq_true rfl) rfl dX5_pays_5 ?_
  refine fx_jzeq (pc := 8) F 22 (by decide) dX5_pays_8 (fun c7 => ?_) (fun c7 => ?_)
  · have e2 := (if_pos c7).symm.trans e2
    cases e2
    exact hT3 (by decide)
  · have e2 := (if_neg c7).symm.trans e2
    refine fx_aload_n (pc := 11) (t := 5) F 0 rfl rfl dX5_pays_11 ?_
    refine fx_gR (pc := 12) F 5 0 0 4 rfl kC_X5 (by decide) rfl wF_X5_10 dX5_pays_12 ?_
    refine fx_iload_n (pc := 15) F 2 rfl rfl dX5_pays_15 ?_
    obtain ⟨v8, e9, e2⟩ := fx_bnd e2
    refine fx_cV (pc := 16) F 4 kC_X4 [(0, hour_0)] (fx_tg Λ this_0 0) [] (m_X4_hasHour Fu Λ (fx_tg Λ this_0 0) hour_0 h _ e9) kD_X4_hasHour kI_X4_hasHour rfl wM_X5_90 ⟨rfl, rfl⟩ ⟨by decide, by decide⟩ (Nat.le_of_ble_eq_true rfl) rfl dX5_pays_16 ?_
    refine fx_nzeq (pc := 19) F 29 (by decide) dX5_pays_19 (fun c10 => ?_) (fun c10 => ?_)
    · have e2 := (if_pos c10).symm.trans e2
      cases e2
      exact hT3 (by decide)
    · have e2 := (if_neg c10).symm.trans e2
      cases e2
      exact hF4 (by decide)
def s_X0_finesOfHour_1 (Fu : Nat) (Λ : fx_L) (this_3 : Int) (kind_4 : Int) (now_5 : Int) (ahead_6 : Int) (h : fx_H) : Int × Int → Option ((Int × Int) ⊕ (Int × Int)) := fun (fines_1, person_2) =>
  if person_2 < (h this_3 4) then
    (fx_rd Λ h now_5 person_2).bind fun v9 =>
    (f_X0_fine Fu Λ this_3 kind_4 now_5 ahead_6 person_2 v9 h).bind fun v11 =>
    some (.inl ((fx_w (fines_1 + v11)), (fx_w (person_2 + 1))))
  else
    some (.inr (fines_1, person_2))
def f_X0_finesOfHour (Fu : Nat) (Λ : fx_L) (this_0 : Int) (kind_0 : Int) (now_0 : Int) (ahead_0 : Int) (h : fx_H) : Option (Int) :=
  Option.bind (fx_loop (s_X0_finesOfHour_1 Fu Λ this_0 kind_0 now_0 ahead_0 h) Fu (0, 0)) fun (fines_21, person_22) =>
  some fines_21
abbrev rm_X0_finesOfHour : Room := { frames := 2, cells := 0, slots := 0, locals := 53 }
set_option maxRecDepth 100000 in
set_option maxHeartbeats 4000000 in
theorem m_X0_finesOfHour (Fu : Nat) (Λ : fx_L) (this_0 : Int) (kind_0 : Int) (now_0 : Int) (ahead_0 : Int) (h : fx_H) (r : Int) (hf : f_X0_finesOfHour Fu Λ this_0 kind_0 now_0 ahead_0 h = some r) : fx_Met yX0_finesOfHour cX0_finesOfHour 6 (some .int) rm_X0_finesOfHour Λ [(2, this_0), (0, kind_0), (10, now_0), (10, ahead_0)] h (some (0, r)) h := by
  unfold f_X0_finesOfHour at hf
  refine fx_enter (ls := [some (2, this_0), some (0, kind_0), some (10, now_0), some (10, ahead_0), none, none]) (by decide) (Nat.le_of_ble_eq_true rfl) rfl (fun M G F K => ?_)
  refine fx_iconst (pc := 0) F ⟨by decide, by decide⟩ dX0_finesOfHour_0 ?_
  refine fx_istore (pc := 1) (ls' := [some (2, this_0), some (0, kind_0), some (10, now_0), some (10, ahead_0), some (0, 0), none]) F (by decide) rfl rfl dX0_finesOfHour_1 ?_
  refine fx_iconst (pc := 3) F ⟨by decide, by decide⟩ dX0_finesOfHour_3 ?_
  refine fx_istore (pc := 4) (ls' := [some (2, this_0), some (0, kind_0), some (10, now_0), some (10, ahead_0), some (0, 0), some (0, 0)]) F (by decide) rfl rfl dX0_finesOfHour_4 ?_
  obtain ⟨⟨fines_21, person_22⟩, e23, hf⟩ := fx_bnd hf
  have hE24 : fx_J M G Λ 6 39 [some (2, this_0), some (0, kind_0), some (10, now_0), some (10, ahead_0), some (0, fines_21), some (0, person_22)] [] h := by
    refine fx_iload (pc := 39) F rfl dX0_finesOfHour_39 ?_
    cases hf
    exact fx_ireturn (pc := 41) F K dX0_finesOfHour_41
  refine fx_loop_J (Hd := (fun z : Int × Int => fx_J M G Λ 6 6 [some (2, this_0), some (0, kind_0), some (10, now_0), some (10, ahead_0), some (0, z.1), some (0, z.2)] [] h)) (Ex := (fun z : Int × Int => fx_J M G Λ 6 39 [some (2, this_0), some (0, kind_0), some (10, now_0), some (10, ahead_0), some (0, z.1), some (0, z.2)] [] h)) ?_ Fu _ _ e23 hE24
  rintro ⟨fines_13, person_14⟩ o9 eq15 ih ex
  unfold s_X0_finesOfHour_1 at eq15
  show fx_J M G Λ 6 6 [some (2, this_0), some (0, kind_0), some (10, now_0), some (10, ahead_0), some (0, fines_13), some (0, person_14)] [] h
  refine fx_iload (pc := 6) F rfl dX0_finesOfHour_6 ?_
  refine fx_aload_n (pc := 8) (t := 0) F 0 rfl rfl dX0_finesOfHour_8 ?_
  refine fx_gI (pc := 9) F 0 4 4 rfl kC_X0 rfl wF_X0_36 dX0_finesOfHour_9 ?_
  refine fx_nlt (pc := 12) F 39 (by decide) dX0_finesOfHour_12 (fun c16 => ?_) (fun c16 => ?_)
  · have eq15 := (if_pos c16).symm.trans eq15
    refine fx_iload (pc := 15) F rfl dX0_finesOfHour_15 ?_
    refine fx_aload_n (pc := 17) (t := 0) F 0 rfl rfl dX0_finesOfHour_17 ?_
    refine fx_iload_n (pc := 18) F 1 rfl rfl dX0_finesOfHour_18 ?_
    refine fx_aload_n (pc := 19) (t := 8) F 2 rfl rfl dX0_finesOfHour_19 ?_
    refine fx_aload_n (pc := 20) (t := 8) F 3 rfl rfl dX0_finesOfHour_20 ?_
    refine fx_iload (pc := 21) F rfl dX0_finesOfHour_21 ?_
    refine fx_aload_n (pc := 23) (t := 8) F 2 rfl rfl dX0_finesOfHour_23 ?_
    refine fx_iload (pc := 24) F rfl dX0_finesOfHour_24 ?_
    obtain ⟨v17, e18, eq15⟩ := fx_bnd eq15
    refine fx_raldI (pc := 26) F e18 dX0_finesOfHour_26 ?_
    obtain ⟨v19, e20, eq15⟩ := fx_bnd eq15
    refine fx_cV (pc := 27) F 0 kC_X0 [(0, kind_0), (10, now_0), (10, ahead_0), (0, person_14), (0, v17)] this_0 [(0, fines_13)] (m_X0_fine Fu Λ this_0 kind_0 now_0 ahead_0 person_14 v17 h _ e20) kD_X0_fine kI_X0_fine rfl wM_X0_63 ⟨rfl, rfl⟩ ⟨by decide, by decide⟩ (Nat.le_of_ble_eq_true rfl) rfl dX0_finesOfHour_27 ?_
    refine fx_iadd (pc := 30) F dX0_finesOfHour_30 ?_
    refine fx_istore (pc := 31) (ls' := [some (2, this_0), some (0, kind_0), some (10, now_0), some (10, ahead_0), some (0, (fx_w (fines_13 + v19))), some (0, person_14)]) F (by decide) rfl rfl dX0_finesOfHour_31 ?_
    refine fx_iinc (pc := 33) (ls' := [some (2, this_0), some (0, kind_0), some (10, now_0), some (10, ahead_0), some (0, (fx_w (fines_13 + v19))), some (0, (fx_w (person_14 + 1)))]) F (by decide) rfl rfl rfl dX0_finesOfHour_33 ?_
    refine fx_goto (pc := 36) F 6 (by decide) dX0_finesOfHour_36 ?_
    cases eq15
    exact ih _ rfl
  · have eq15 := (if_neg c16).symm.trans eq15
    cases eq15
    exact ex _ rfl
def s_X0_finesOf_1 (Fu : Nat) (Λ : fx_L) (this_3 : Int) (town_4 : Int) (day_5 : Int) (hours_6 : Int) (h : fx_H) : Int × Int → Option ((Int × Int) ⊕ (Int × Int)) := fun (fines_1, hour_2) =>
  if hour_2 < hours_6 then
    (f_X4_kindOf Fu Λ town_4 hour_2 h).bind fun v9 =>
    (fx_rr Λ day_5 hour_2).bind fun v11 =>
    (f_X0_aheadOf Fu Λ this_3 day_5 hour_2 h).bind fun v13 =>
    (f_X0_finesOfHour Fu Λ this_3 v9 v11 v13 h).bind fun v15 =>
    some (.inl ((fx_w (fines_1 + v15)), (fx_w (hour_2 + 1))))
  else
    some (.inr (fines_1, hour_2))
def f_X0_finesOf (Fu : Nat) (Λ : fx_L) (this_0 : Int) (town_0 : Int) (day_0 : Int) (hours_0 : Int) (h : fx_H) : Option (Int) :=
  Option.bind (fx_loop (s_X0_finesOf_1 Fu Λ this_0 town_0 day_0 hours_0 h) Fu (0, 0)) fun (fines_29, hour_30) =>
  some fines_29
abbrev rm_X0_finesOf : Room := { frames := 3, cells := 0, slots := 0, locals := 78 }
set_option maxRecDepth 100000 in
set_option maxHeartbeats 4000000 in
theorem m_X0_finesOf (Fu : Nat) (Λ : fx_L) (this_0 : Int) (town_0 : Int) (day_0 : Int) (hours_0 : Int) (h : fx_H) (r : Int) (hf : f_X0_finesOf Fu Λ this_0 town_0 day_0 hours_0 h = some r) : fx_Met yX0_finesOf cX0_finesOf 6 (some .int) rm_X0_finesOf Λ [(2, this_0), (6, town_0), (13, day_0), (0, hours_0)] h (some (0, r)) h := by
  unfold f_X0_finesOf at hf
  refine fx_enter (ls := [some (2, this_0), some (6, town_0), some (13, day_0), some (0, hours_0), none, none]) (by decide) (Nat.le_of_ble_eq_true rfl) rfl (fun M G F K => ?_)
  refine fx_iconst (pc := 0) F ⟨by decide, by decide⟩ dX0_finesOf_0 ?_
  refine fx_istore (pc := 1) (ls' := [some (2, this_0), some (6, town_0), some (13, day_0), some (0, hours_0), some (0, 0), none]) F (by decide) rfl rfl dX0_finesOf_1 ?_
  refine fx_iconst (pc := 3) F ⟨by decide, by decide⟩ dX0_finesOf_3 ?_
  refine fx_istore (pc := 4) (ls' := [some (2, this_0), some (6, town_0), some (13, day_0), some (0, hours_0), some (0, 0), some (0, 0)]) F (by decide) rfl rfl dX0_finesOf_4 ?_
  obtain ⟨⟨fines_29, hour_30⟩, e31, hf⟩ := fx_bnd hf
  have hE32 : fx_J M G Λ 6 44 [some (2, this_0), some (6, town_0), some (13, day_0), some (0, hours_0), some (0, fines_29), some (0, hour_30)] [] h := by
    refine fx_iload (pc := 44) F rfl dX0_finesOf_44 ?_
    cases hf
    exact fx_ireturn (pc := 46) F K dX0_finesOf_46
  refine fx_loop_J (Hd := (fun z : Int × Int => fx_J M G Λ 6 6 [some (2, this_0), some (6, town_0), some (13, day_0), some (0, hours_0), some (0, z.1), some (0, z.2)] [] h)) (Ex := (fun z : Int × Int => fx_J M G Λ 6 44 [some (2, this_0), some (6, town_0), some (13, day_0), some (0, hours_0), some (0, z.1), some (0, z.2)] [] h)) ?_ Fu _ _ e31 hE32
  rintro ⟨fines_17, hour_18⟩ o9 eq19 ih ex
  unfold s_X0_finesOf_1 at eq19
  show fx_J M G Λ 6 6 [some (2, this_0), some (6, town_0), some (13, day_0), some (0, hours_0), some (0, fines_17), some (0, hour_18)] [] h
  refine fx_iload (pc := 6) F rfl dX0_finesOf_6 ?_
  refine fx_iload_n (pc := 8) F 3 rfl rfl dX0_finesOf_8 ?_
  refine fx_nlt (pc := 9) F 44 (by decide) dX0_finesOf_9 (fun c20 => ?_) (fun c20 => ?_)
  · have eq19 := (if_pos c20).symm.trans eq19
    refine fx_iload (pc := 12) F rfl dX0_finesOf_12 ?_
    refine fx_aload_n (pc := 14) (t := 0) F 0 rfl rfl dX0_finesOf_14 ?_
    refine fx_aload_n (pc := 15) (t := 4) F 1 rfl rfl dX0_finesOf_15 ?_
    refine fx_iload (pc := 16) F rfl dX0_finesOf_16 ?_
    obtain ⟨v21, e22, eq19⟩ := fx_bnd eq19
    refine fx_cV (pc := 18) F 4 kC_X4 [(0, hour_18)] town_0 [(2, this_0), (0, fines_17)] (m_X4_kindOf Fu Λ town_0 hour_18 h _ e22) kD_X4_kindOf kI_X4_kindOf rfl wM_X0_51 ⟨rfl, rfl⟩ ⟨by decide, by decide⟩ (Nat.le_of_ble_eq_true rfl) rfl dX0_finesOf_18 ?_
    refine fx_aload_n (pc := 21) (t := 11) F 2 rfl rfl dX0_finesOf_21 ?_
    refine fx_iload (pc := 22) F rfl dX0_finesOf_22 ?_
    obtain ⟨v23, e24, eq19⟩ := fx_bnd eq19
    refine fx_raldG (pc := 24) F e24 dX0_finesOf_24 ?_
    refine fx_aload_n (pc := 25) (t := 0) F 0 rfl rfl dX0_finesOf_25 ?_
    refine fx_aload_n (pc := 26) (t := 11) F 2 rfl rfl dX0_finesOf_26 ?_
    refine fx_iload (pc := 27) F rfl dX0_finesOf_27 ?_
    obtain ⟨v25, e26, eq19⟩ := fx_bnd eq19
    refine fx_cV (pc := 29) F 0 kC_X0 [(13, day_0), (0, hour_18)] this_0 [(10, v23), (0, v21), (2, this_0), (0, fines_17)] (m_X0_aheadOf Fu Λ this_0 day_0 hour_18 h _ e26) kD_X0_aheadOf kI_X0_aheadOf rfl wM_X0_59 ⟨rfl, rfl⟩ ⟨by decide, by decide⟩ (Nat.le_of_ble_eq_true rfl) rfl dX0_finesOf_29 ?_
    obtain ⟨v27, e28, eq19⟩ := fx_bnd eq19
    refine fx_cV (pc := 32) F 0 kC_X0 [(0, v21), (10, v23), (10, v25)] this_0 [(0, fines_17)] (m_X0_finesOfHour Fu Λ this_0 v21 v23 v25 h _ e28) kD_X0_finesOfHour kI_X0_finesOfHour rfl wM_X0_67 ⟨rfl, rfl⟩ ⟨by decide, by decide⟩ (Nat.le_of_ble_eq_true rfl) rfl dX0_finesOf_32 ?_
    refine fx_iadd (pc := 35) F dX0_finesOf_35 ?_
    refine fx_istore (pc := 36) (ls' := [some (2, this_0), some (6, town_0), some (13, day_0), some (0, hours_0), some (0, (fx_w (fines_17 + v27))), some (0, hour_18)]) F (by decide) rfl rfl dX0_finesOf_36 ?_
    refine fx_iinc (pc := 38) (ls' := [some (2, this_0), some (6, town_0), some (13, day_0), some (0, hours_0), some (0, (fx_w (fines_17 + v27))), some (0, (fx_w (hour_18 + 1)))]) F (by decide) rfl rfl rfl dX0_finesOf_38 ?_
    refine fx_goto (pc := 41) F 6 (by decide) dX0_finesOf_41 ?_
    cases eq19
    exact ih _ rfl
  · have eq19 := (if_neg c20).symm.trans eq19
    cases eq19
    exact ex _ rfl
def f_X5_allFines (Fu : Nat) (Λ : fx_L) (this_0 : Int) (freed_0 : Int) (h : fx_H) : Option (Int × fx_H) :=
  (f_X0_sit Fu Λ (fx_tg Λ this_0 5) (fx_tg Λ this_0 0) (h (fx_tg Λ this_0 0) 1) freed_0 h).bind fun h1 =>
  (f_X0_finesOf Fu Λ (fx_tg Λ this_0 5) (fx_tg Λ this_0 0) (fx_tg Λ (fx_tg Λ this_0 0) 8) (h1 (fx_tg Λ this_0 0) 3) h1).bind fun v3 =>
  some (v3, h1)
abbrev rm_X5_allFines : Room := { frames := 4, cells := 0, slots := 0, locals := 103 }
set_option maxRecDepth 100000 in
set_option maxHeartbeats 4000000 in
theorem m_X5_allFines (Fu : Nat) (Λ : fx_L) (this_0 : Int) (freed_0 : Int) (h : fx_H) (r : Int) (ho : fx_H) (hf : f_X5_allFines Fu Λ this_0 freed_0 h = some (r, ho)) : fx_Met yX5_allFines cX5_allFines 2 (some .int) rm_X5_allFines Λ [(7, this_0), (0, freed_0)] h (some (0, r)) ho := by
  unfold f_X5_allFines at hf
  refine fx_enter (ls := [some (7, this_0), some (0, freed_0)]) (by decide) (Nat.le_of_ble_eq_true rfl) rfl (fun M G F K => ?_)
  refine fx_aload_n (pc := 0) (t := 5) F 0 rfl rfl dX5_allFines_0 ?_
  refine fx_gR (pc := 1) F 5 5 5 0 rfl kC_X5 (by decide) rfl wF_X5_37 dX5_allFines_1 ?_
  refine fx_aload_n (pc := 4) (t := 5) F 0 rfl rfl dX5_allFines_4 ?_
  refine fx_gR (pc := 5) F 5 0 0 4 rfl kC_X5 (by decide) rfl wF_X5_10 dX5_allFines_5 ?_
  refine fx_aload_n (pc := 8) (t := 5) F 0 rfl rfl dX5_allFines_8 ?_
  refine fx_gR (pc := 9) F 5 0 0 4 rfl kC_X5 (by decide) rfl wF_X5_10 dX5_allFines_9 ?_
  refine fx_gI (pc := 12) F 4 1 1 rfl kC_X4 rfl wF_X5_147 dX5_allFines_12 ?_
  refine fx_iload_n (pc := 15) F 1 rfl rfl dX5_allFines_15 ?_
  obtain ⟨h1, e2, hf⟩ := fx_bnd hf
  refine fx_cVv (pc := 16) F 0 kC_X0 [(6, (fx_tg Λ this_0 0)), (0, (h (fx_tg Λ this_0 0) 1)), (0, freed_0)] (fx_tg Λ this_0 5) [] (m_X0_sit Fu Λ (fx_tg Λ this_0 5) (fx_tg Λ this_0 0) (h (fx_tg Λ this_0 0) 1) freed_0 h _ e2) kD_X0_sit kI_X0_sit rfl wM_X5_150 ⟨rfl, rfl⟩ ⟨by decide, by decide⟩ (Nat.le_of_ble_eq_true rfl) rfl dX5_allFines_16 ?_
  refine fx_aload_n (pc := 19) (t := 5) F 0 rfl rfl dX5_allFines_19 ?_
  refine fx_gR (pc := 20) F 5 5 5 0 rfl kC_X5 (by decide) rfl wF_X5_37 dX5_allFines_20 ?_
  refine fx_aload_n (pc := 23) (t := 5) F 0 rfl rfl dX5_allFines_23 ?_
  refine fx_gR (pc := 24) F 5 0 0 4 rfl kC_X5 (by decide) rfl wF_X5_10 dX5_allFines_24 ?_
  refine fx_aload_n (pc := 27) (t := 5) F 0 rfl rfl dX5_allFines_27 ?_
  refine fx_gR (pc := 28) F 5 0 0 4 rfl kC_X5 (by decide) rfl wF_X5_10 dX5_allFines_28 ?_
  refine fx_gR (pc := 31) F 4 8 8 11 rfl kC_X4 (by decide) rfl wF_X5_106 dX5_allFines_31 ?_
  refine fx_aload_n (pc := 34) (t := 5) F 0 rfl rfl dX5_allFines_34 ?_
  refine fx_gR (pc := 35) F 5 0 0 4 rfl kC_X5 (by decide) rfl wF_X5_10 dX5_allFines_35 ?_
  refine fx_gI (pc := 38) F 4 3 3 rfl kC_X4 rfl wF_X5_191 dX5_allFines_38 ?_
  obtain ⟨v3, e4, hf⟩ := fx_bnd hf
  refine fx_cV (pc := 41) F 0 kC_X0 [(6, (fx_tg Λ this_0 0)), (13, (fx_tg Λ (fx_tg Λ this_0 0) 8)), (0, (h1 (fx_tg Λ this_0 0) 3))] (fx_tg Λ this_0 5) [] (m_X0_finesOf Fu Λ (fx_tg Λ this_0 5) (fx_tg Λ this_0 0) (fx_tg Λ (fx_tg Λ this_0 0) 8) (h1 (fx_tg Λ this_0 0) 3) h1 _ e4) kD_X0_finesOf kI_X0_finesOf rfl wM_X5_194 ⟨rfl, rfl⟩ ⟨by decide, by decide⟩ (Nat.le_of_ble_eq_true rfl) rfl dX5_allFines_41 ?_
  cases hf
  exact fx_ireturn (pc := 44) F K dX5_allFines_44
def f_X5_all (Fu : Nat) (Λ : fx_L) (this_0 : Int) (h : fx_H) : Option (Int × fx_H) :=
  (f_X5_allFines Fu Λ this_0 (-1) h).bind fun (v1, h2) =>
  some (v1, h2)
abbrev rm_X5_all : Room := { frames := 5, cells := 0, slots := 0, locals := 124 }
set_option maxRecDepth 100000 in
set_option maxHeartbeats 4000000 in
theorem m_X5_all (Fu : Nat) (Λ : fx_L) (this_0 : Int) (h : fx_H) (r : Int) (ho : fx_H) (hf : f_X5_all Fu Λ this_0 h = some (r, ho)) : fx_Met yX5_all cX5_all 1 (some .int) rm_X5_all Λ [(7, this_0)] h (some (0, r)) ho := by
  unfold f_X5_all at hf
  refine fx_enter (ls := [some (7, this_0)]) (by decide) (Nat.le_of_ble_eq_true rfl) rfl (fun M G F K => ?_)
  refine fx_aload_n (pc := 0) (t := 5) F 0 rfl rfl dX5_all_0 ?_
  refine fx_iconst (pc := 1) F ⟨by decide, by decide⟩ dX5_all_1 ?_
  obtain ⟨⟨v1, h2⟩, e3, hf⟩ := fx_bnd hf
  refine fx_cV (pc := 2) F 5 kC_X5 [(0, (-1))] this_0 [] (m_X5_allFines Fu Λ this_0 (-1) h _ _ e3) kD_X5_allFines kI_X5_allFines rfl wM_X5_162 ⟨rfl, rfl⟩ ⟨by decide, by decide⟩ (Nat.le_of_ble_eq_true rfl) rfl dX5_all_2 ?_
  cases hf
  exact fx_ireturn (pc := 5) F K dX5_all_5
def s_X1_writeFirstRow_2 (Fu : Nat) (Λ : fx_L) (this_15 : Int) (town_16 : Int) (person_17 : Int) (hours_18 : Int) (t_19 : Int) : Int × Int × fx_H → Option ((Int × Int × fx_H) ⊕ (Int × Int × fx_H)) := fun (hour_12, i_13, h14) =>
  (fx_rr Λ (fx_tg Λ town_16 9) person_17).bind fun v23 =>
  (fx_rd Λ h14 v23 t_19).bind fun v25 =>
  if ((i_13 < v25) ∧ (hour_12 < hours_18)) then
    (fx_wr Λ h14 (fx_tg Λ this_15 8) hour_12 t_19).bind fun h30 =>
    some (.inl ((fx_w (hour_12 + 1)), (fx_w (i_13 + 1)), h30))
  else
    some (.inr (hour_12, i_13, h14))
def s_X1_writeFirstRow_1 (Fu : Nat) (Λ : fx_L) (this_6 : Int) (town_7 : Int) (person_8 : Int) (hours_9 : Int) : Int × Int × fx_H → Option ((Int × Int × fx_H) ⊕ (Int × Int × fx_H)) := fun (hour_3, t_4, h5) =>
  if t_4 < (h5 town_7 0) then
    Option.bind (fx_loop (s_X1_writeFirstRow_2 Fu Λ this_6 town_7 person_8 hours_9 t_4) Fu (hour_3, 0, h5)) fun (hour_47, i_48, h49) =>
    some (.inl (hour_47, (fx_w (t_4 + 1)), h49))
  else
    some (.inr (hour_3, t_4, h5))
def f_X1_writeFirstRow (Fu : Nat) (Λ : fx_L) (this_0 : Int) (town_0 : Int) (person_0 : Int) (hours_0 : Int) (h : fx_H) : Option (fx_H) :=
  (f_J7_fill_53178 Fu Λ (fx_tg Λ this_0 8) 9 h).bind fun h1 =>
  Option.bind (fx_loop (s_X1_writeFirstRow_1 Fu Λ this_0 town_0 person_0 hours_0) Fu (0, 0, h1)) fun (hour_97, t_98, h99) =>
  some h99
abbrev rm_X1_writeFirstRow : Room := { frames := 1, cells := 0, slots := 0, locals := 23 }
set_option maxRecDepth 100000 in
set_option maxHeartbeats 4000000 in
theorem m_X1_writeFirstRow (Fu : Nat) (Λ : fx_L) (this_0 : Int) (town_0 : Int) (person_0 : Int) (hours_0 : Int) (h : fx_H) (ho : fx_H) (hf : f_X1_writeFirstRow Fu Λ this_0 town_0 person_0 hours_0 h = some ho) : fx_Met yX1_writeFirstRow cX1_writeFirstRow 7 none rm_X1_writeFirstRow Λ [(3, this_0), (6, town_0), (0, person_0), (0, hours_0)] h none ho := by
  unfold f_X1_writeFirstRow at hf
  refine fx_enter (ls := [some (3, this_0), some (6, town_0), some (0, person_0), some (0, hours_0), none, none, none]) (by decide) (Nat.le_of_ble_eq_true rfl) rfl (fun M G F K => ?_)
  refine fx_aload_n (pc := 0) (t := 1) F 0 rfl rfl dX1_writeFirstRow_0 ?_
  refine fx_gR (pc := 1) F 1 8 8 8 rfl kC_X1 (by decide) rfl wF_X1_33 dX1_writeFirstRow_1 ?_
  refine fx_bipush (pc := 4) F ⟨by decide, by decide⟩ (by decide) dX1_writeFirstRow_4 ?_
  obtain ⟨h1, e2, hf⟩ := fx_bnd hf
  refine fx_cSv (pc := 6) F [(10, (fx_tg Λ this_0 8)), (0, 9)] [] (m_J7_fill_53178 Fu Λ (fx_tg Λ this_0 8) 9 h _ e2) kD_J7_fill_53178 wSt_J7_fill_53178 wM_X1_183 ⟨rfl, rfl⟩ ⟨by decide, by decide⟩ (Nat.le_of_ble_eq_true rfl) rfl dX1_writeFirstRow_6 ?_
  refine fx_iconst (pc := 9) F ⟨by decide, by decide⟩ dX1_writeFirstRow_9 ?_
  refine fx_istore (pc := 10) (ls' := [some (3, this_0), some (6, town_0), some (0, person_0), some (0, hours_0), some (0, 0), none, none]) F (by decide) rfl rfl dX1_writeFirstRow_10 ?_
  refine fx_iconst (pc := 12) F ⟨by decide, by decide⟩ dX1_writeFirstRow_12 ?_
  refine fx_istore (pc := 13) (ls' := [some (3, this_0), some (6, town_0), some (0, person_0), some (0, hours_0), some (0, 0), some (0, 0), none]) F (by decide) rfl rfl dX1_writeFirstRow_13 ?_
  obtain ⟨⟨hour_97, t_98, h99⟩, e100, hf⟩ := fx_bnd hf
  have hE101 : fx_J M G Λ 7 71 [some (3, this_0), some (6, town_0), some (0, person_0), some (0, hours_0), some (0, hour_97), some (0, t_98), none] [] h99 := by
    cases hf
    exact fx_vreturn (pc := 71) F K dX1_writeFirstRow_71
  refine fx_loop_J (Hd := (fun z : Int × Int × fx_H => fx_J M G Λ 7 15 [some (3, this_0), some (6, town_0), some (0, person_0), some (0, hours_0), some (0, z.1), some (0, z.2.1), none] [] z.2.2)) (Ex := (fun z : Int × Int × fx_H => fx_J M G Λ 7 71 [some (3, this_0), some (6, town_0), some (0, person_0), some (0, hours_0), some (0, z.1), some (0, z.2.1), none] [] z.2.2)) ?_ Fu _ _ e100 hE101
  rintro ⟨hour_52, t_53, h54⟩ o9 eq55 ih ex
  unfold s_X1_writeFirstRow_1 at eq55
  show fx_J M G Λ 7 15 [some (3, this_0), some (6, town_0), some (0, person_0), some (0, hours_0), some (0, hour_52), some (0, t_53), none] [] h54
  refine fx_iload (pc := 15) F rfl dX1_writeFirstRow_15 ?_
  refine fx_aload_n (pc := 17) (t := 4) F 1 rfl rfl dX1_writeFirstRow_17 ?_
  refine fx_gI (pc := 18) F 4 0 0 rfl kC_X4 rfl wF_X1_141 dX1_writeFirstRow_18 ?_
  refine fx_nlt (pc := 21) F 71 (by decide) dX1_writeFirstRow_21 (fun c56 => ?_) (fun c56 => ?_)
  · have eq55 := (if_pos c56).symm.trans eq55
    refine fx_iconst (pc := 24) F ⟨by decide, by decide⟩ dX1_writeFirstRow_24 ?_
    refine fx_istore (pc := 25) (ls' := [some (3, this_0), some (6, town_0), some (0, person_0), some (0, hours_0), some (0, hour_52), some (0, t_53), some (0, 0)]) F (by decide) rfl rfl dX1_writeFirstRow_25 ?_
    obtain ⟨⟨hour_92, i_93, h94⟩, e95, eq55⟩ := fx_bnd eq55
    have hE96 : fx_J M G Λ 7 65 [some (3, this_0), some (6, town_0), some (0, person_0), some (0, hours_0), some (0, hour_92), some (0, t_53), some (0, i_93)] [] h94 := by
      refine fx_iinc (pc := 65) (ls' := [some (3, this_0), some (6, town_0), some (0, person_0), some (0, hours_0), some (0, hour_92), some (0, (fx_w (t_53 + 1))), some (0, i_93)]) F (by decide) rfl rfl rfl dX1_writeFirstRow_65 ?_
      refine fx_goto (pc := 68) F 15 (by decide) dX1_writeFirstRow_68 ?_
      cases eq55
      refine fx_drop (ls' := [some (3, this_0), some (6, town_0), some (0, person_0), some (0, hours_0), some (0, hour_92), some (0, (fx_w (t_53 + 1))), none]) ⟨rfl, rfl, rfl, rfl, rfl, rfl, trivial⟩ ?_
      exact ih _ rfl
    refine fx_loop_J (Hd := (fun z : Int × Int × fx_H => fx_J M G Λ 7 27 [some (3, this_0), some (6, town_0), some (0, person_0), some (0, hours_0), some (0, z.1), some (0, t_53), some (0, z.2.1)] [] z.2.2)) (Ex := (fun z : Int × Int × fx_H => fx_J M G Λ 7 65 [some (3, this_0), some (6, town_0), some (0, person_0), some (0, hours_0), some (0, z.1), some (0, t_53), some (0, z.2.1)] [] z.2.2)) ?_ Fu _ _ e95 hE96
    rintro ⟨hour_77, i_78, h79⟩ o9 eq80 ih ex
    unfold s_X1_writeFirstRow_2 at eq80
    show fx_J M G Λ 7 27 [some (3, this_0), some (6, town_0), some (0, person_0), some (0, hours_0), some (0, hour_77), some (0, t_53), some (0, i_78)] [] h79
    refine fx_iload (pc := 27) F rfl dX1_writeFirstRow_27 ?_
    refine fx_aload_n (pc := 29) (t := 4) F 1 rfl rfl dX1_writeFirstRow_29 ?_
    refine fx_gR (pc := 30) F 4 9 9 11 rfl kC_X4 (by decide) rfl wF_X1_148 dX1_writeFirstRow_30 ?_
    refine fx_iload_n (pc := 33) F 2 rfl rfl dX1_writeFirstRow_33 ?_
    obtain ⟨v83, e84, eq80⟩ := fx_bnd eq80
    refine fx_raldG (pc := 34) F e84 dX1_writeFirstRow_34 ?_
    refine fx_iload (pc := 35) F rfl dX1_writeFirstRow_35 ?_
    obtain ⟨v85, e86, eq80⟩ := fx_bnd eq80
    refine fx_raldI (pc := 37) F e86 dX1_writeFirstRow_37 ?_
    have hT81 : (((i_78 < v85) ∧ (hour_77 < hours_0))) → fx_J M G Λ 7 47 [some (3, this_0), some (6, town_0), some (0, person_0), some (0, hours_0), some (0, hour_77), some (0, t_53), some (0, i_78)] [] h79 := fun c89 => by
      have eq80 := (if_pos c89).symm.trans eq80
      refine fx_aload_n (pc := 47) (t := 1) F 0 rfl rfl dX1_writeFirstRow_47 ?_
      refine fx_gR (pc := 48) F 1 8 8 8 rfl kC_X1 (by decide) rfl wF_X1_33 dX1_writeFirstRow_48 ?_
      refine fx_iload (pc := 51) F rfl dX1_writeFirstRow_51 ?_
      refine fx_iload (pc := 53) F rfl dX1_writeFirstRow_53 ?_
      obtain ⟨h90, e91, eq80⟩ := fx_bnd eq80
      refine fx_rastI (pc := 55) F e91 dX1_writeFirstRow_55 ?_
      refine fx_iinc (pc := 56) (ls' := [some (3, this_0), some (6, town_0), some (0, person_0), some (0, hours_0), some (0, (fx_w (hour_77 + 1))), some (0, t_53), some (0, i_78)]) F (by decide) rfl rfl rfl dX1_writeFirstRow_56 ?_
      refine fx_iinc (pc := 59) (ls' := [some (3, this_0), some (6, town_0), some (0, person_0), some (0, hours_0), some (0, (fx_w (hour_77 + 1))), some (0, t_53), some (0, (fx_w (i_78 + 1)))]) F (by decide) rfl rfl rfl dX1_writeFirstRow_59 ?_
      refine fx_goto (pc := 62) F 27 (by decide) dX1_writeFirstRow_62 ?_
      cases eq80
      exact ih _ rfl
    have hF82 : ¬ (((i_78 < v85) ∧ (hour_77 < hours_0))) → fx_J M G Λ 7 65 [some (3, this_0), some (6, town_0), some (0, person_0), some (0, hours_0), some (0, hour_77), some (0, t_53), some (0, i_78)] [] h79 := fun c89 => by
      have eq80 := (if_neg c89).symm.trans eq80
      cases eq80
      exact ex _ rfl
    refine fx_nlt (pc := 38) F 65 (by decide) dX1_writeFirstRow_38 (fun c87 => ?_) (fun c87 => ?_)
    · refine fx_iload (pc := 41) F rfl dX1_writeFirstRow_41 ?_
      refine fx_iload_n (pc := 43) F 3 rfl rfl dX1_writeFirstRow_43 ?_
      refine fx_nlt (pc := 44) F 65 (by decide) dX1_writeFirstRow_44 (fun c88 => ?_) (fun c88 => ?_)
      · exact hT81 ⟨c87, c88⟩
      · exact hF82 (fun q => c88 q.2)
    · exact hF82 (fun q => c87 q.1)
  · have eq55 := (if_neg c56).symm.trans eq55
    cases eq55
    exact ex _ rfl
def f_X5_swap (Fu : Nat) (Λ : fx_L) (elements_0 : Int) (i_0 : Int) (j_0 : Int) (h : fx_H) : Option (fx_H) :=
  (fx_rd Λ h elements_0 i_0).bind fun v1 =>
  (fx_rd Λ h elements_0 j_0).bind fun v3 =>
  (fx_wr Λ h elements_0 i_0 v3).bind fun h5 =>
  (fx_wr Λ h5 elements_0 j_0 v1).bind fun h7 =>
  some h7
abbrev rm_X5_swap : Room := { frames := 0, cells := 0, slots := 0, locals := 0 }
set_option maxRecDepth 100000 in
set_option maxHeartbeats 4000000 in
theorem m_X5_swap (Fu : Nat) (Λ : fx_L) (elements_0 : Int) (i_0 : Int) (j_0 : Int) (h : fx_H) (ho : fx_H) (hf : f_X5_swap Fu Λ elements_0 i_0 j_0 h = some ho) : fx_Met yX5_swap cX5_swap 4 none rm_X5_swap Λ [(10, elements_0), (0, i_0), (0, j_0)] h none ho := by
  unfold f_X5_swap at hf
  refine fx_enter (ls := [some (10, elements_0), some (0, i_0), some (0, j_0), none]) (by decide) (Nat.le_of_ble_eq_true rfl) rfl (fun M G F K => ?_)
  refine fx_aload_n (pc := 0) (t := 8) F 0 rfl rfl dX5_swap_0 ?_
  refine fx_iload_n (pc := 1) F 1 rfl rfl dX5_swap_1 ?_
  obtain ⟨v1, e2, hf⟩ := fx_bnd hf
  refine fx_raldI (pc := 2) F e2 dX5_swap_2 ?_
  refine fx_istore_n (pc := 3) (ls' := [some (10, elements_0), some (0, i_0), some (0, j_0), some (0, v1)]) F 3 rfl (by decide) rfl rfl dX5_swap_3 ?_
  refine fx_aload_n (pc := 4) (t := 8) F 0 rfl rfl dX5_swap_4 ?_
  refine fx_iload_n (pc := 5) F 1 rfl rfl dX5_swap_5 ?_
  refine fx_aload_n (pc := 6) (t := 8) F 0 rfl rfl dX5_swap_6 ?_
  refine fx_iload_n (pc := 7) F 2 rfl rfl dX5_swap_7 ?_
  obtain ⟨v3, e4, hf⟩ := fx_bnd hf
  refine fx_raldI (pc := 8) F e4 dX5_swap_8 ?_
  obtain ⟨h5, e6, hf⟩ := fx_bnd hf
  refine fx_rastI (pc := 9) F e6 dX5_swap_9 ?_
  refine fx_aload_n (pc := 10) (t := 8) F 0 rfl rfl dX5_swap_10 ?_
  refine fx_iload_n (pc := 11) F 2 rfl rfl dX5_swap_11 ?_
  refine fx_iload_n (pc := 12) F 3 rfl rfl dX5_swap_12 ?_
  obtain ⟨h7, e8, hf⟩ := fx_bnd hf
  refine fx_rastI (pc := 13) F e8 dX5_swap_13 ?_
  cases hf
  exact fx_vreturn (pc := 14) F K dX5_swap_14
def s_X5_nextOrder_1 (Fu : Nat) (Λ : fx_L) (elements_2 : Int) (h : fx_H) : Int → Option ((Int) ⊕ (Int)) := fun turn_1 =>
  Option.bind (
    if 0 ≤ turn_1 then
      (fx_rd Λ h elements_2 turn_1).bind fun v9 =>
      (fx_rd Λ h elements_2 (fx_w (turn_1 + 1))).bind fun v11 =>
      if v11 ≤ v9 then
        some true
      else
        some false
    else
      some false
  ) fun b4 =>
  if b4 = true then
    some (.inl (fx_w (turn_1 + (-1))))
  else
    some (.inr turn_1)
def s_X5_nextOrder_2 (Fu : Nat) (Λ : fx_L) (elements_33 : Int) (turn_34 : Int) (h : fx_H) : Int → Option ((Int) ⊕ (Int)) := fun greater_32 =>
  Option.bind (
    if (fx_w (turn_34 + 1)) < greater_32 then
      (fx_rd Λ h elements_33 greater_32).bind fun v41 =>
      (fx_rd Λ h elements_33 turn_34).bind fun v43 =>
      if v41 ≤ v43 then
        some true
      else
        some false
    else
      some false
  ) fun b36 =>
  if b36 = true then
    some (.inl (fx_w (greater_32 + (-1))))
  else
    some (.inr greater_32)
def s_X5_nextOrder_3 (Fu : Nat) (Λ : fx_L) (elements_68 : Int) : Int × Int × fx_H → Option ((Int × Int × fx_H) ⊕ (Int × Int × fx_H)) := fun (low_65, high_66, h67) =>
  if low_65 < high_66 then
    (f_X5_swap Fu Λ elements_68 low_65 high_66 h67).bind fun h71 =>
    some (.inl ((fx_w (low_65 + 1)), (fx_w (high_66 + (-1))), h71))
  else
    some (.inr (low_65, high_66, h67))
def f_X5_nextOrder (Fu : Nat) (Λ : fx_L) (elements_0 : Int) (length_0 : Int) (h : fx_H) : Option (Int × fx_H) :=
  Option.bind (fx_loop (s_X5_nextOrder_1 Fu Λ elements_0 h) Fu (fx_w (length_0 - 2))) fun turn_28 =>
  if turn_28 < 0 then
    some (0, h)
  else
    Option.bind (fx_loop (s_X5_nextOrder_2 Fu Λ elements_0 turn_28 h) Fu (fx_w (length_0 - 1))) fun greater_60 =>
    (f_X5_swap Fu Λ elements_0 turn_28 greater_60 h).bind fun h63 =>
    Option.bind (fx_loop (s_X5_nextOrder_3 Fu Λ elements_0) Fu ((fx_w (turn_28 + 1)), (fx_w (length_0 - 1)), h63)) fun (low_80, high_81, h82) =>
    some (1, h82)
abbrev rm_X5_nextOrder : Room := { frames := 1, cells := 0, slots := 0, locals := 23 }
set_option maxRecDepth 100000 in
set_option maxHeartbeats 4000000 in
theorem m_X5_nextOrder (Fu : Nat) (Λ : fx_L) (elements_0 : Int) (length_0 : Int) (h : fx_H) (r : Int) (ho : fx_H) (hf : f_X5_nextOrder Fu Λ elements_0 length_0 h = some (r, ho)) : fx_Met yX5_nextOrder cX5_nextOrder 6 (some .boolean) rm_X5_nextOrder Λ [(10, elements_0), (0, length_0)] h (some (0, r)) ho := by
  unfold f_X5_nextOrder at hf
  refine fx_enter (ls := [some (10, elements_0), some (0, length_0), none, none, none, none]) (by decide) (Nat.le_of_ble_eq_true rfl) rfl (fun M G F K => ?_)
  refine fx_iload_n (pc := 0) F 1 rfl rfl dX5_nextOrder_0 ?_
  refine fx_iconst (pc := 1) F ⟨by decide, by decide⟩ dX5_nextOrder_1 ?_
  refine fx_isub (pc := 2) F dX5_nextOrder_2 ?_
  refine fx_istore_n (pc := 3) (ls' := [some (10, elements_0), some (0, length_0), some (0, (fx_w (length_0 - 2))), none, none, none]) F 2 rfl (by decide) rfl rfl dX5_nextOrder_3 ?_
  obtain ⟨turn_28, e29, hf⟩ := fx_bnd hf
  have hE30 : fx_J M G Λ 6 25 [some (10, elements_0), some (0, length_0), some (0, turn_28), none, none, none] [] h := by
    refine fx_iload_n (pc := 25) F 2 rfl rfl dX5_nextOrder_25 ?_
    refine fx_nzlt (pc := 26) F 31 (by decide) dX5_nextOrder_26 (fun c31 => ?_) (fun c31 => ?_)
    · have hf := (if_pos c31).symm.trans hf
      refine fx_iconst (pc := 29) F ⟨by decide, by decide⟩ dX5_nextOrder_29 ?_
      cases hf
      exact fx_zreturn (pc := 30) F (Or.inl rfl) K dX5_nextOrder_30
    · have hf := (if_neg c31).symm.trans hf
      refine fx_iload_n (pc := 31) F 1 rfl rfl dX5_nextOrder_31 ?_
      refine fx_iconst (pc := 32) F ⟨by decide, by decide⟩ dX5_nextOrder_32 ?_
      refine fx_isub (pc := 33) F dX5_nextOrder_33 ?_
      refine fx_istore_n (pc := 34) (ls' := [some (10, elements_0), some (0, length_0), some (0, turn_28), some (0, (fx_w (length_0 - 1))), none, none]) F 3 rfl (by decide) rfl rfl dX5_nextOrder_34 ?_
      obtain ⟨greater_60, e61, hf⟩ := fx_bnd hf
      have hE62 : fx_J M G Λ 6 57 [some (10, elements_0), some (0, length_0), some (0, turn_28), some (0, greater_60), none, none] [] h := by
        refine fx_aload_n (pc := 57) (t := 8) F 0 rfl rfl dX5_nextOrder_57 ?_
        refine fx_iload_n (pc := 58) F 2 rfl rfl dX5_nextOrder_58 ?_
        refine fx_iload_n (pc := 59) F 3 rfl rfl dX5_nextOrder_59 ?_
        obtain ⟨h63, e64, hf⟩ := fx_bnd hf
        refine fx_cSv (pc := 60) F [(10, elements_0), (0, turn_28), (0, greater_60)] [] (m_X5_swap Fu Λ elements_0 turn_28 greater_60 h _ e64) kD_X5_swap wSt_X5_swap wM_X5_270 ⟨rfl, rfl⟩ ⟨by decide, by decide⟩ (Nat.le_of_ble_eq_true rfl) rfl dX5_nextOrder_60 ?_
        refine fx_iload_n (pc := 63) F 2 rfl rfl dX5_nextOrder_63 ?_
        refine fx_iconst (pc := 64) F ⟨by decide, by decide⟩ dX5_nextOrder_64 ?_
        refine fx_iadd (pc := 65) F dX5_nextOrder_65 ?_
        refine fx_istore (pc := 66) (ls' := [some (10, elements_0), some (0, length_0), some (0, turn_28), some (0, greater_60), some (0, (fx_w (turn_28 + 1))), none]) F (by decide) rfl rfl dX5_nextOrder_66 ?_
        refine fx_iload_n (pc := 68) F 1 rfl rfl dX5_nextOrder_68 ?_
        refine fx_iconst (pc := 69) F ⟨by decide, by decide⟩ dX5_nextOrder_69 ?_
        refine fx_isub (pc := 70) F dX5_nextOrder_70 ?_
        refine fx_istore (pc := 71) (ls' := [some (10, elements_0), some (0, length_0), some (0, turn_28), some (0, greater_60), some (0, (fx_w (turn_28 + 1))), some (0, (fx_w (length_0 - 1)))]) F (by decide) rfl rfl dX5_nextOrder_71 ?_
        obtain ⟨⟨low_80, high_81, h82⟩, e83, hf⟩ := fx_bnd hf
        have hE84 : fx_J M G Λ 6 97 [some (10, elements_0), some (0, length_0), some (0, turn_28), some (0, greater_60), some (0, low_80), some (0, high_81)] [] h82 := by
          refine fx_iconst (pc := 97) F ⟨by decide, by decide⟩ dX5_nextOrder_97 ?_
          cases hf
          exact fx_zreturn (pc := 98) F (Or.inr rfl) K dX5_nextOrder_98
        refine fx_loop_J (Hd := (fun z : Int × Int × fx_H => fx_J M G Λ 6 73 [some (10, elements_0), some (0, length_0), some (0, turn_28), some (0, greater_60), some (0, z.1), some (0, z.2.1)] [] z.2.2)) (Ex := (fun z : Int × Int × fx_H => fx_J M G Λ 6 97 [some (10, elements_0), some (0, length_0), some (0, turn_28), some (0, greater_60), some (0, z.1), some (0, z.2.1)] [] z.2.2)) ?_ Fu _ _ e83 hE84
        rintro ⟨low_73, high_74, h75⟩ o9 eq76 ih ex
        unfold s_X5_nextOrder_3 at eq76
        show fx_J M G Λ 6 73 [some (10, elements_0), some (0, length_0), some (0, turn_28), some (0, greater_60), some (0, low_73), some (0, high_74)] [] h75
        refine fx_iload (pc := 73) F rfl dX5_nextOrder_73 ?_
        refine fx_iload (pc := 75) F rfl dX5_nextOrder_75 ?_
        refine fx_nlt (pc := 77) F 97 (by decide) dX5_nextOrder_77 (fun c77 => ?_) (fun c77 => ?_)
        · have eq76 := (if_pos c77).symm.trans eq76
          refine fx_aload_n (pc := 80) (t := 8) F 0 rfl rfl dX5_nextOrder_80 ?_
          refine fx_iload (pc := 81) F rfl dX5_nextOrder_81 ?_
          refine fx_iload (pc := 83) F rfl dX5_nextOrder_83 ?_
          obtain ⟨h78, e79, eq76⟩ := fx_bnd eq76
          refine fx_cSv (pc := 85) F [(10, elements_0), (0, low_73), (0, high_74)] [] (m_X5_swap Fu Λ elements_0 low_73 high_74 h75 _ e79) kD_X5_swap wSt_X5_swap wM_X5_270 ⟨rfl, rfl⟩ ⟨by decide, by decide⟩ (Nat.le_of_ble_eq_true rfl) rfl dX5_nextOrder_85 ?_
          refine fx_iinc (pc := 88) (ls' := [some (10, elements_0), some (0, length_0), some (0, turn_28), some (0, greater_60), some (0, (fx_w (low_73 + 1))), some (0, high_74)]) F (by decide) rfl rfl rfl dX5_nextOrder_88 ?_
          refine fx_iinc (pc := 91) (ls' := [some (10, elements_0), some (0, length_0), some (0, turn_28), some (0, greater_60), some (0, (fx_w (low_73 + 1))), some (0, (fx_w (high_74 + (-1))))]) F (by decide) rfl rfl rfl dX5_nextOrder_91 ?_
          refine fx_goto (pc := 94) F 73 (by decide) dX5_nextOrder_94 ?_
          cases eq76
          exact ih _ rfl
        · have eq76 := (if_neg c77).symm.trans eq76
          cases eq76
          exact ex _ rfl
      refine fx_loop_J (Hd := (fun z : Int => fx_J M G Λ 6 35 [some (10, elements_0), some (0, length_0), some (0, turn_28), some (0, z), none, none] [] h)) (Ex := (fun z : Int => fx_J M G Λ 6 57 [some (10, elements_0), some (0, length_0), some (0, turn_28), some (0, z), none, none] [] h)) ?_ Fu _ _ e61 hE62
      rintro greater_47 o9 eq48 ih ex
      unfold s_X5_nextOrder_2 at eq48
      show fx_J M G Λ 6 35 [some (10, elements_0), some (0, length_0), some (0, turn_28), some (0, greater_47), none, none] [] h
      obtain ⟨b49, e50, eq48⟩ := fx_bnd eq48
      have hT51 : b49 = true → fx_J M G Λ 6 51 [some (10, elements_0), some (0, length_0), some (0, turn_28), some (0, greater_47), none, none] [] h := fun c59 => by
        have eq48 := (if_pos c59).symm.trans eq48
        refine fx_iinc (pc := 51) (ls' := [some (10, elements_0), some (0, length_0), some (0, turn_28), some (0, (fx_w (greater_47 + (-1)))), none, none]) F (by decide) rfl rfl rfl dX5_nextOrder_51 ?_
        refine fx_goto (pc := 54) F 35 (by decide) dX5_nextOrder_54 ?_
        cases eq48
        exact ih _ rfl
      have hF52 : ¬ b49 = true → fx_J M G Λ 6 57 [some (10, elements_0), some (0, length_0), some (0, turn_28), some (0, greater_47), none, none] [] h := fun c59 => by
        have eq48 := (if_neg c59).symm.trans eq48
        cases eq48
        exact ex _ rfl
      refine fx_iload_n (pc := 35) F 3 rfl rfl dX5_nextOrder_35 ?_
      refine fx_iload_n (pc := 36) F 2 rfl rfl dX5_nextOrder_36 ?_
      refine fx_iconst (pc := 37) F ⟨by decide, by decide⟩ dX5_nextOrder_37 ?_
      refine fx_iadd (pc := 38) F dX5_nextOrder_38 ?_
      refine fx_ngt (pc := 39) F 57 (by decide) dX5_nextOrder_39 (fun c53 => ?_) (fun c53 => ?_)
      · have e50 := (if_pos c53).symm.trans e50
        refine fx_aload_n (pc := 42) (t := 8) F 0 rfl rfl dX5_nextOrder_42 ?_
        refine fx_iload_n (pc := 43) F 3 rfl rfl dX5_nextOrder_43 ?_
        obtain ⟨v54, e55, e50⟩ := fx_bnd e50
        refine fx_raldI (pc := 44) F e55 dX5_nextOrder_44 ?_
        refine fx_aload_n (pc := 45) (t := 8) F 0 rfl rfl dX5_nextOrder_45 ?_
        refine fx_iload_n (pc := 46) F 2 rfl rfl dX5_nextOrder_46 ?_
        obtain ⟨v56, e57, e50⟩ := fx_bnd e50
        refine fx_raldI (pc := 47) F e57 dX5_nextOrder_47 ?_
        refine fx_nle (pc := 48) F 57 (by decide) dX5_nextOrder_48 (fun c58 => ?_) (fun c58 => ?_)
        · have e50 := (if_pos c58).symm.trans e50
          cases e50
          exact hT51 (by decide)
        · have e50 := (if_neg c58).symm.trans e50
          cases e50
          exact hF52 (by decide)
      · have e50 := (if_neg c53).symm.trans e50
        cases e50
        exact hF52 (by decide)
  refine fx_loop_J (Hd := (fun z : Int => fx_J M G Λ 6 4 [some (10, elements_0), some (0, length_0), some (0, z), none, none, none] [] h)) (Ex := (fun z : Int => fx_J M G Λ 6 25 [some (10, elements_0), some (0, length_0), some (0, z), none, none, none] [] h)) ?_ Fu _ _ e29 hE30
  rintro turn_15 o9 eq16 ih ex
  unfold s_X5_nextOrder_1 at eq16
  show fx_J M G Λ 6 4 [some (10, elements_0), some (0, length_0), some (0, turn_15), none, none, none] [] h
  obtain ⟨b17, e18, eq16⟩ := fx_bnd eq16
  have hT19 : b17 = true → fx_J M G Λ 6 19 [some (10, elements_0), some (0, length_0), some (0, turn_15), none, none, none] [] h := fun c27 => by
    have eq16 := (if_pos c27).symm.trans eq16
    refine fx_iinc (pc := 19) (ls' := [some (10, elements_0), some (0, length_0), some (0, (fx_w (turn_15 + (-1)))), none, none, none]) F (by decide) rfl rfl rfl dX5_nextOrder_19 ?_
    refine fx_goto (pc := 22) F 4 (by decide) dX5_nextOrder_22 ?_
    cases eq16
    exact ih _ rfl
  have hF20 : ¬ b17 = true → fx_J M G Λ 6 25 [some (10, elements_0), some (0, length_0), some (0, turn_15), none, none, none] [] h := fun c27 => by
    have eq16 := (if_neg c27).symm.trans eq16
    cases eq16
    exact ex _ rfl
  refine fx_iload_n (pc := 4) F 2 rfl rfl dX5_nextOrder_4 ?_
  refine fx_nzge (pc := 5) F 25 (by decide) dX5_nextOrder_5 (fun c21 => ?_) (fun c21 => ?_)
  · have e18 := (if_pos c21).symm.trans e18
    refine fx_aload_n (pc := 8) (t := 8) F 0 rfl rfl dX5_nextOrder_8 ?_
    refine fx_iload_n (pc := 9) F 2 rfl rfl dX5_nextOrder_9 ?_
    obtain ⟨v22, e23, e18⟩ := fx_bnd e18
    refine fx_raldI (pc := 10) F e23 dX5_nextOrder_10 ?_
    refine fx_aload_n (pc := 11) (t := 8) F 0 rfl rfl dX5_nextOrder_11 ?_
    refine fx_iload_n (pc := 12) F 2 rfl rfl dX5_nextOrder_12 ?_
    refine fx_iconst (pc := 13) F ⟨by decide, by decide⟩ dX5_nextOrder_13 ?_
    refine fx_iadd (pc := 14) F dX5_nextOrder_14 ?_
    obtain ⟨v24, e25, e18⟩ := fx_bnd e18
    refine fx_raldI (pc := 15) F e25 dX5_nextOrder_15 ?_
    refine fx_nge (pc := 16) F 25 (by decide) dX5_nextOrder_16 (fun c26 => ?_) (fun c26 => ?_)
    · have e18 := (if_pos c26).symm.trans e18
      cases e18
      exact hT19 (by decide)
    · have e18 := (if_neg c26).symm.trans e18
      cases e18
      exact hF20 (by decide)
  · have e18 := (if_neg c21).symm.trans e18
    cases e18
    exact hF20 (by decide)
def s_X1_writeRowsOf_1 (Fu : Nat) (Λ : fx_L) (this_5 : Int) (person_6 : Int) (hours_7 : Int) : Int × fx_H → Option ((Int × fx_H) ⊕ ((Int × fx_H) ⊕ (fx_H))) := fun (r_3, h4) =>
  if r_3 < 120 then
    (fx_rr Λ (fx_tg Λ this_5 6) person_6).bind fun v10 =>
    (fx_cp Λ h4 (fx_tg Λ this_5 8) 0 v10 (fx_w (r_3 * 5)) hours_7).bind fun h12 =>
    (fx_rd Λ h12 (fx_tg Λ this_5 7) person_6).bind fun v14 =>
    (fx_wr Λ h12 (fx_tg Λ this_5 7) person_6 (fx_w (v14 + 1))).bind fun h16 =>
    (f_X5_nextOrder Fu Λ (fx_tg Λ this_5 8) hours_7 h16).bind fun (v18, h19) =>
    if v18 = 0 then
      some (.inr (.inr h19))
    else
      some (.inl ((fx_w (r_3 + 1)), h19))
  else
    some (.inr (.inl (r_3, h4)))
def f_X1_writeRowsOf (Fu : Nat) (Λ : fx_L) (this_0 : Int) (town_0 : Int) (person_0 : Int) (hours_0 : Int) (h : fx_H) : Option (fx_H) :=
  (f_X1_writeFirstRow Fu Λ this_0 town_0 person_0 hours_0 h).bind fun h1 =>
  Option.bind (fx_loop (s_X1_writeRowsOf_1 Fu Λ this_0 person_0 hours_0) Fu (0, h1)) fun x9 =>
  match x9 with
  | .inl (r_38, h39) =>
    some h39
  | .inr r9 => some r9
abbrev rm_X1_writeRowsOf : Room := { frames := 2, cells := 0, slots := 0, locals := 49 }
set_option maxRecDepth 100000 in
set_option maxHeartbeats 4000000 in
theorem m_X1_writeRowsOf (Fu : Nat) (Λ : fx_L) (this_0 : Int) (town_0 : Int) (person_0 : Int) (hours_0 : Int) (h : fx_H) (ho : fx_H) (hf : f_X1_writeRowsOf Fu Λ this_0 town_0 person_0 hours_0 h = some ho) : fx_Met yX1_writeRowsOf cX1_writeRowsOf 5 none rm_X1_writeRowsOf Λ [(3, this_0), (6, town_0), (0, person_0), (0, hours_0)] h none ho := by
  unfold f_X1_writeRowsOf at hf
  refine fx_enter (ls := [some (3, this_0), some (6, town_0), some (0, person_0), some (0, hours_0), none]) (by decide) (Nat.le_of_ble_eq_true rfl) rfl (fun M G F K => ?_)
  refine fx_aload_n (pc := 0) (t := 1) F 0 rfl rfl dX1_writeRowsOf_0 ?_
  refine fx_aload_n (pc := 1) (t := 4) F 1 rfl rfl dX1_writeRowsOf_1 ?_
  refine fx_iload_n (pc := 2) F 2 rfl rfl dX1_writeRowsOf_2 ?_
  refine fx_iload_n (pc := 3) F 3 rfl rfl dX1_writeRowsOf_3 ?_
  obtain ⟨h1, e2, hf⟩ := fx_bnd hf
  refine fx_cVv (pc := 4) F 1 kC_X1 [(6, town_0), (0, person_0), (0, hours_0)] this_0 [] (m_X1_writeFirstRow Fu Λ this_0 town_0 person_0 hours_0 h _ e2) kD_X1_writeFirstRow kI_X1_writeFirstRow rfl wM_X1_180 ⟨rfl, rfl⟩ ⟨by decide, by decide⟩ (Nat.le_of_ble_eq_true rfl) rfl dX1_writeRowsOf_4 ?_
  refine fx_iconst (pc := 7) F ⟨by decide, by decide⟩ dX1_writeRowsOf_7 ?_
  refine fx_istore (pc := 8) (ls' := [some (3, this_0), some (6, town_0), some (0, person_0), some (0, hours_0), some (0, 0)]) F (by decide) rfl rfl dX1_writeRowsOf_8 ?_
  obtain ⟨x9, e40, hf⟩ := fx_bnd hf
  have hE41 : (fun y : (Int × fx_H) ⊕ (fx_H) => match y with | .inl z => fx_J M G Λ 5 64 [some (3, this_0), some (6, town_0), some (0, person_0), some (0, hours_0), some (0, z.1)] [] z.2 | .inr r9 => some r9 = some ho) x9 := by
    cases x9 with
    | inr r9 => exact hf
    | inl y9 =>
      obtain ⟨r_38, h39⟩ := y9
      show fx_J M G Λ 5 64 [some (3, this_0), some (6, town_0), some (0, person_0), some (0, hours_0), some (0, r_38)] [] h39
      cases hf
      exact fx_vreturn (pc := 64) F K dX1_writeRowsOf_64
  refine fx_loop_J (Hd := (fun z : Int × fx_H => fx_J M G Λ 5 10 [some (3, this_0), some (6, town_0), some (0, person_0), some (0, hours_0), some (0, z.1)] [] z.2)) (Ex := (fun y : (Int × fx_H) ⊕ (fx_H) => match y with | .inl z => fx_J M G Λ 5 64 [some (3, this_0), some (6, town_0), some (0, person_0), some (0, hours_0), some (0, z.1)] [] z.2 | .inr r9 => some r9 = some ho)) ?_ Fu _ _ e40 hE41
  rintro ⟨r_22, h23⟩ o9 eq24 ih ex
  unfold s_X1_writeRowsOf_1 at eq24
  show fx_J M G Λ 5 10 [some (3, this_0), some (6, town_0), some (0, person_0), some (0, hours_0), some (0, r_22)] [] h23
  refine fx_iload (pc := 10) F rfl dX1_writeRowsOf_10 ?_
  refine fx_bipush (pc := 12) F ⟨by decide, by decide⟩ (by decide) dX1_writeRowsOf_12 ?_
  refine fx_nlt (pc := 14) F 64 (by decide) dX1_writeRowsOf_14 (fun c25 => ?_) (fun c25 => ?_)
  · have eq24 := (if_pos c25).symm.trans eq24
    refine fx_aload_n (pc := 17) (t := 1) F 0 rfl rfl dX1_writeRowsOf_17 ?_
    refine fx_gR (pc := 18) F 1 8 8 8 rfl kC_X1 (by decide) rfl wF_X1_33 dX1_writeRowsOf_18 ?_
    refine fx_iconst (pc := 21) F ⟨by decide, by decide⟩ dX1_writeRowsOf_21 ?_
    refine fx_aload_n (pc := 22) (t := 1) F 0 rfl rfl dX1_writeRowsOf_22 ?_
    refine fx_gR (pc := 23) F 1 6 6 11 rfl kC_X1 (by decide) rfl wF_X1_26 dX1_writeRowsOf_23 ?_
    refine fx_iload_n (pc := 26) F 2 rfl rfl dX1_writeRowsOf_26 ?_
    obtain ⟨v26, e27, eq24⟩ := fx_bnd eq24
    refine fx_raldG (pc := 27) F e27 dX1_writeRowsOf_27 ?_
    refine fx_iload (pc := 28) F rfl dX1_writeRowsOf_28 ?_
    refine fx_iconst (pc := 30) F ⟨by decide, by decide⟩ dX1_writeRowsOf_30 ?_
    refine fx_imul (pc := 31) F dX1_writeRowsOf_31 ?_
    refine fx_iload_n (pc := 32) F 3 rfl rfl dX1_writeRowsOf_32 ?_
    obtain ⟨h28, e29, eq24⟩ := fx_bnd eq24
    refine fx_racopy (pc := 33) F e29 wM_X1_167 wNa_arraycopy wSt_arraycopy wI_J10 (by decide) (Nat.le_of_ble_eq_true rfl) dX1_writeRowsOf_33 ?_
    refine fx_aload_n (pc := 36) (t := 1) F 0 rfl rfl dX1_writeRowsOf_36 ?_
    refine fx_gR (pc := 37) F 1 7 7 8 rfl kC_X1 (by decide) rfl wF_X1_29 dX1_writeRowsOf_37 ?_
    refine fx_iload_n (pc := 40) F 2 rfl rfl dX1_writeRowsOf_40 ?_
    refine fx_dup2 (pc := 41) F (show (0 : Nat) ≠ 1 by decide) (show (10 : Nat) ≠ 1 by decide) dX1_writeRowsOf_41 ?_
    obtain ⟨v30, e31, eq24⟩ := fx_bnd eq24
    refine fx_raldI (pc := 42) F e31 dX1_writeRowsOf_42 ?_
    refine fx_iconst (pc := 43) F ⟨by decide, by decide⟩ dX1_writeRowsOf_43 ?_
    refine fx_iadd (pc := 44) F dX1_writeRowsOf_44 ?_
    obtain ⟨h32, e33, eq24⟩ := fx_bnd eq24
    refine fx_rastI (pc := 45) F e33 dX1_writeRowsOf_45 ?_
    refine fx_aload_n (pc := 46) (t := 1) F 0 rfl rfl dX1_writeRowsOf_46 ?_
    refine fx_gR (pc := 47) F 1 8 8 8 rfl kC_X1 (by decide) rfl wF_X1_33 dX1_writeRowsOf_47 ?_
    refine fx_iload_n (pc := 50) F 3 rfl rfl dX1_writeRowsOf_50 ?_
    obtain ⟨⟨v34, h35⟩, e36, eq24⟩ := fx_bnd eq24
    refine fx_cN (pc := 51) F [(10, (fx_tg Λ this_0 8)), (0, hours_0)] [] (m_X5_nextOrder Fu Λ (fx_tg Λ this_0 8) hours_0 h32 _ _ e36) kD_X5_nextOrder wSt_X5_nextOrder (by decide) ⟨rfl, rfl⟩ ⟨by decide, by decide⟩ (Nat.le_of_ble_eq_true rfl) rfl dX1_writeRowsOf_51 ?_
    refine fx_nzeq (pc := 54) F 58 (by decide) dX1_writeRowsOf_54 (fun c37 => ?_) (fun c37 => ?_)
    · have eq24 := (if_pos c37).symm.trans eq24
      cases eq24
      have q9 := ex _ rfl
      cases q9
      exact fx_vreturn (pc := 57) F K dX1_writeRowsOf_57
    · have eq24 := (if_neg c37).symm.trans eq24
      refine fx_iinc (pc := 58) (ls' := [some (3, this_0), some (6, town_0), some (0, person_0), some (0, hours_0), some (0, (fx_w (r_22 + 1)))]) F (by decide) rfl rfl rfl dX1_writeRowsOf_58 ?_
      refine fx_goto (pc := 61) F 10 (by decide) dX1_writeRowsOf_61 ?_
      cases eq24
      exact ih _ rfl
  · have eq24 := (if_neg c25).symm.trans eq24
    cases eq24
    exact ex _ rfl
def s_X1_writeRows_1 (Fu : Nat) (Λ : fx_L) (this_3 : Int) (town_4 : Int) (hours_5 : Int) : Int × fx_H → Option ((Int × fx_H) ⊕ (Int × fx_H)) := fun (person_1, h2) =>
  if person_1 < (h2 town_4 2) then
    (fx_wr Λ h2 (fx_tg Λ this_3 7) person_1 0).bind fun h8 =>
    (f_X4_needed Fu Λ town_4 person_1 h8).bind fun v10 =>
    if v10 ≤ hours_5 then
      (f_X1_writeRowsOf Fu Λ this_3 town_4 person_1 hours_5 h8).bind fun h13 =>
      some (.inl ((fx_w (person_1 + 1)), h13))
    else
      some (.inl ((fx_w (person_1 + 1)), h8))
  else
    some (.inr (person_1, h2))
def f_X1_writeRows (Fu : Nat) (Λ : fx_L) (this_0 : Int) (town_0 : Int) (hours_0 : Int) (h : fx_H) : Option (fx_H) :=
  Option.bind (fx_loop (s_X1_writeRows_1 Fu Λ this_0 town_0 hours_0) Fu (0, h)) fun (person_26, h27) =>
  some h27
abbrev rm_X1_writeRows : Room := { frames := 3, cells := 0, slots := 0, locals := 73 }
set_option maxRecDepth 100000 in
set_option maxHeartbeats 4000000 in
theorem m_X1_writeRows (Fu : Nat) (Λ : fx_L) (this_0 : Int) (town_0 : Int) (hours_0 : Int) (h : fx_H) (ho : fx_H) (hf : f_X1_writeRows Fu Λ this_0 town_0 hours_0 h = some ho) : fx_Met yX1_writeRows cX1_writeRows 4 none rm_X1_writeRows Λ [(3, this_0), (6, town_0), (0, hours_0)] h none ho := by
  unfold f_X1_writeRows at hf
  refine fx_enter (ls := [some (3, this_0), some (6, town_0), some (0, hours_0), none]) (by decide) (Nat.le_of_ble_eq_true rfl) rfl (fun M G F K => ?_)
  refine fx_iconst (pc := 0) F ⟨by decide, by decide⟩ dX1_writeRows_0 ?_
  refine fx_istore_n (pc := 1) (ls' := [some (3, this_0), some (6, town_0), some (0, hours_0), some (0, 0)]) F 3 rfl (by decide) rfl rfl dX1_writeRows_1 ?_
  obtain ⟨⟨person_26, h27⟩, e28, hf⟩ := fx_bnd hf
  have hE29 : fx_J M G Λ 4 39 [some (3, this_0), some (6, town_0), some (0, hours_0), some (0, person_26)] [] h27 := by
    cases hf
    exact fx_vreturn (pc := 39) F K dX1_writeRows_39
  refine fx_loop_J (Hd := (fun z : Int × fx_H => fx_J M G Λ 4 2 [some (3, this_0), some (6, town_0), some (0, hours_0), some (0, z.1)] [] z.2)) (Ex := (fun z : Int × fx_H => fx_J M G Λ 4 39 [some (3, this_0), some (6, town_0), some (0, hours_0), some (0, z.1)] [] z.2)) ?_ Fu _ _ e28 hE29
  rintro ⟨person_15, h16⟩ o9 eq17 ih ex
  unfold s_X1_writeRows_1 at eq17
  show fx_J M G Λ 4 2 [some (3, this_0), some (6, town_0), some (0, hours_0), some (0, person_15)] [] h16
  refine fx_iload_n (pc := 2) F 3 rfl rfl dX1_writeRows_2 ?_
  refine fx_aload_n (pc := 3) (t := 4) F 1 rfl rfl dX1_writeRows_3 ?_
  refine fx_gI (pc := 4) F 4 2 2 rfl kC_X4 rfl wF_X1_86 dX1_writeRows_4 ?_
  refine fx_nlt (pc := 7) F 39 (by decide) dX1_writeRows_7 (fun c18 => ?_) (fun c18 => ?_)
  · have eq17 := (if_pos c18).symm.trans eq17
    refine fx_aload_n (pc := 10) (t := 1) F 0 rfl rfl dX1_writeRows_10 ?_
    refine fx_gR (pc := 11) F 1 7 7 8 rfl kC_X1 (by decide) rfl wF_X1_29 dX1_writeRows_11 ?_
    refine fx_iload_n (pc := 14) F 3 rfl rfl dX1_writeRows_14 ?_
    refine fx_iconst (pc := 15) F ⟨by decide, by decide⟩ dX1_writeRows_15 ?_
    obtain ⟨h19, e20, eq17⟩ := fx_bnd eq17
    refine fx_rastI (pc := 16) F e20 dX1_writeRows_16 ?_
    refine fx_aload_n (pc := 17) (t := 4) F 1 rfl rfl dX1_writeRows_17 ?_
    refine fx_iload_n (pc := 18) F 3 rfl rfl dX1_writeRows_18 ?_
    obtain ⟨v21, e22, eq17⟩ := fx_bnd eq17
    refine fx_cV (pc := 19) F 4 kC_X4 [(0, person_15)] town_0 [] (m_X4_needed Fu Λ town_0 person_15 h19 _ e22) kD_X4_needed kI_X4_needed rfl wM_X1_173 ⟨rfl, rfl⟩ ⟨by decide, by decide⟩ (Nat.le_of_ble_eq_true rfl) rfl dX1_writeRows_19 ?_
    refine fx_iload_n (pc := 22) F 2 rfl rfl dX1_writeRows_22 ?_
    refine fx_nle (pc := 23) F 33 (by decide) dX1_writeRows_23 (fun c23 => ?_) (fun c23 => ?_)
    · have eq17 := (if_pos c23).symm.trans eq17
      refine fx_aload_n (pc := 26) (t := 1) F 0 rfl rfl dX1_writeRows_26 ?_
      refine fx_aload_n (pc := 27) (t := 4) F 1 rfl rfl dX1_writeRows_27 ?_
      refine fx_iload_n (pc := 28) F 3 rfl rfl dX1_writeRows_28 ?_
      refine fx_iload_n (pc := 29) F 2 rfl rfl dX1_writeRows_29 ?_
      obtain ⟨h24, e25, eq17⟩ := fx_bnd eq17
      refine fx_cVv (pc := 30) F 1 kC_X1 [(6, town_0), (0, person_15), (0, hours_0)] this_0 [] (m_X1_writeRowsOf Fu Λ this_0 town_0 person_15 hours_0 h19 _ e25) kD_X1_writeRowsOf kI_X1_writeRowsOf rfl wM_X1_176 ⟨rfl, rfl⟩ ⟨by decide, by decide⟩ (Nat.le_of_ble_eq_true rfl) rfl dX1_writeRows_30 ?_
      refine fx_iinc (pc := 33) (ls' := [some (3, this_0), some (6, town_0), some (0, hours_0), some (0, (fx_w (person_15 + 1)))]) F (by decide) rfl rfl rfl dX1_writeRows_33 ?_
      refine fx_goto (pc := 36) F 2 (by decide) dX1_writeRows_36 ?_
      cases eq17
      exact ih _ rfl
    · have eq17 := (if_neg c23).symm.trans eq17
      refine fx_iinc (pc := 33) (ls' := [some (3, this_0), some (6, town_0), some (0, hours_0), some (0, (fx_w (person_15 + 1)))]) F (by decide) rfl rfl rfl dX1_writeRows_33 ?_
      refine fx_goto (pc := 36) F 2 (by decide) dX1_writeRows_36 ?_
      cases eq17
      exact ih _ rfl
  · have eq17 := (if_neg c18).symm.trans eq17
    cases eq17
    exact ex _ rfl
def s_X1_waysTogether_1 (Fu : Nat) (Λ : fx_L) (this_3 : Int) (town_4 : Int) (h : fx_H) : Int × Int → Option ((Int × Int) ⊕ (Int × Int)) := fun (ways_1, person_2) =>
  if person_2 < (h town_4 2) then
    (fx_rd Λ h (fx_tg Λ this_3 7) person_2).bind fun v7 =>
    some (.inl ((fx_wl (ways_1 * v7)), (fx_w (person_2 + 1))))
  else
    some (.inr (ways_1, person_2))
def f_X1_waysTogether (Fu : Nat) (Λ : fx_L) (this_0 : Int) (town_0 : Int) (h : fx_H) : Option (Int) :=
  Option.bind (fx_loop (s_X1_waysTogether_1 Fu Λ this_0 town_0 h) Fu (1, 0)) fun (ways_15, person_16) =>
  some ways_15
abbrev rm_X1_waysTogether : Room := { frames := 0, cells := 0, slots := 0, locals := 0 }
set_option maxRecDepth 100000 in
set_option maxHeartbeats 4000000 in
theorem m_X1_waysTogether (Fu : Nat) (Λ : fx_L) (this_0 : Int) (town_0 : Int) (h : fx_H) (r : Int) (hf : f_X1_waysTogether Fu Λ this_0 town_0 h = some r) : fx_Met yX1_waysTogether cX1_waysTogether 5 (some .long) rm_X1_waysTogether Λ [(3, this_0), (6, town_0)] h (some (1, r)) h := by
  unfold f_X1_waysTogether at hf
  refine fx_enter (ls := [some (3, this_0), some (6, town_0), none, none, none]) (by decide) (Nat.le_of_ble_eq_true rfl) rfl (fun M G F K => ?_)
  refine fx_lconst (pc := 0) (z := 1) F rfl ⟨by decide, by decide⟩ (by decide) dX1_waysTogether_0 ?_
  refine fx_lstore_n (pc := 1) (ls' := [some (3, this_0), some (6, town_0), some (1, 1), none, none]) F 2 rfl (by decide) rfl rfl dX1_waysTogether_1 ?_
  refine fx_iconst (pc := 2) F ⟨by decide, by decide⟩ dX1_waysTogether_2 ?_
  refine fx_istore (pc := 3) (ls' := [some (3, this_0), some (6, town_0), some (1, 1), none, some (0, 0)]) F (by decide) rfl rfl dX1_waysTogether_3 ?_
  obtain ⟨⟨ways_15, person_16⟩, e17, hf⟩ := fx_bnd hf
  have hE18 : fx_J M G Λ 5 31 [some (3, this_0), some (6, town_0), some (1, ways_15), none, some (0, person_16)] [] h := by
    refine fx_lload_n (pc := 31) F 2 rfl rfl dX1_waysTogether_31 ?_
    cases hf
    exact fx_lreturn (pc := 32) F K dX1_waysTogether_32
  refine fx_loop_J (Hd := (fun z : Int × Int => fx_J M G Λ 5 5 [some (3, this_0), some (6, town_0), some (1, z.1), none, some (0, z.2)] [] h)) (Ex := (fun z : Int × Int => fx_J M G Λ 5 31 [some (3, this_0), some (6, town_0), some (1, z.1), none, some (0, z.2)] [] h)) ?_ Fu _ _ e17 hE18
  rintro ⟨ways_9, person_10⟩ o9 eq11 ih ex
  unfold s_X1_waysTogether_1 at eq11
  show fx_J M G Λ 5 5 [some (3, this_0), some (6, town_0), some (1, ways_9), none, some (0, person_10)] [] h
  refine fx_iload (pc := 5) F rfl dX1_waysTogether_5 ?_
  refine fx_aload_n (pc := 7) (t := 4) F 1 rfl rfl dX1_waysTogether_7 ?_
  refine fx_gI (pc := 8) F 4 2 2 rfl kC_X4 rfl wF_X1_86 dX1_waysTogether_8 ?_
  refine fx_nlt (pc := 11) F 31 (by decide) dX1_waysTogether_11 (fun c12 => ?_) (fun c12 => ?_)
  · have eq11 := (if_pos c12).symm.trans eq11
    refine fx_lload_n (pc := 14) F 2 rfl rfl dX1_waysTogether_14 ?_
    refine fx_aload_n (pc := 15) (t := 1) F 0 rfl rfl dX1_waysTogether_15 ?_
    refine fx_gR (pc := 16) F 1 7 7 8 rfl kC_X1 (by decide) rfl wF_X1_29 dX1_waysTogether_16 ?_
    refine fx_iload (pc := 19) F rfl dX1_waysTogether_19 ?_
    obtain ⟨v13, e14, eq11⟩ := fx_bnd eq11
    refine fx_raldI (pc := 21) F e14 dX1_waysTogether_21 ?_
    refine fx_ri2l (pc := 22) F dX1_waysTogether_22 ?_
    refine fx_lmul (pc := 23) F dX1_waysTogether_23 ?_
    refine fx_lstore_n (pc := 24) (ls' := [some (3, this_0), some (6, town_0), some (1, (fx_wl (ways_9 * v13))), none, some (0, person_10)]) F 2 rfl (by decide) rfl rfl dX1_waysTogether_24 ?_
    refine fx_iinc (pc := 25) (ls' := [some (3, this_0), some (6, town_0), some (1, (fx_wl (ways_9 * v13))), none, some (0, (fx_w (person_10 + 1)))]) F (by decide) rfl rfl rfl dX1_waysTogether_25 ?_
    refine fx_goto (pc := 28) F 5 (by decide) dX1_waysTogether_28 ?_
    cases eq11
    exact ih _ rfl
  · have eq11 := (if_neg c12).symm.trans eq11
    cases eq11
    exact ex _ rfl
def s_X1_liftRow_1 (Fu : Nat) (Λ : fx_L) (this_3 : Int) (person_4 : Int) : Int × fx_H → Option ((Int × fx_H) ⊕ (Int × fx_H)) := fun (hour_1, h2) =>
  if hour_1 < 5 then
    (fx_rr Λ (fx_tg Λ this_3 0) hour_1).bind fun v7 =>
    (fx_wr Λ h2 v7 person_4 9).bind fun h9 =>
    some (.inl ((fx_w (hour_1 + 1)), h9))
  else
    some (.inr (hour_1, h2))
def f_X1_liftRow (Fu : Nat) (Λ : fx_L) (this_0 : Int) (person_0 : Int) (h : fx_H) : Option (fx_H) :=
  Option.bind (fx_loop (s_X1_liftRow_1 Fu Λ this_0 person_0) Fu (0, h)) fun (hour_19, h20) =>
  some h20
abbrev rm_X1_liftRow : Room := { frames := 0, cells := 0, slots := 0, locals := 0 }
set_option maxRecDepth 100000 in
set_option maxHeartbeats 4000000 in
theorem m_X1_liftRow (Fu : Nat) (Λ : fx_L) (this_0 : Int) (person_0 : Int) (h : fx_H) (ho : fx_H) (hf : f_X1_liftRow Fu Λ this_0 person_0 h = some ho) : fx_Met yX1_liftRow cX1_liftRow 3 none rm_X1_liftRow Λ [(3, this_0), (0, person_0)] h none ho := by
  unfold f_X1_liftRow at hf
  refine fx_enter (ls := [some (3, this_0), some (0, person_0), none]) (by decide) (Nat.le_of_ble_eq_true rfl) rfl (fun M G F K => ?_)
  refine fx_iconst (pc := 0) F ⟨by decide, by decide⟩ dX1_liftRow_0 ?_
  refine fx_istore_n (pc := 1) (ls' := [some (3, this_0), some (0, person_0), some (0, 0)]) F 2 rfl (by decide) rfl rfl dX1_liftRow_1 ?_
  obtain ⟨⟨hour_19, h20⟩, e21, hf⟩ := fx_bnd hf
  have hE22 : fx_J M G Λ 3 23 [some (3, this_0), some (0, person_0), some (0, hour_19)] [] h20 := by
    cases hf
    exact fx_vreturn (pc := 23) F K dX1_liftRow_23
  refine fx_loop_J (Hd := (fun z : Int × fx_H => fx_J M G Λ 3 2 [some (3, this_0), some (0, person_0), some (0, z.1)] [] z.2)) (Ex := (fun z : Int × fx_H => fx_J M G Λ 3 23 [some (3, this_0), some (0, person_0), some (0, z.1)] [] z.2)) ?_ Fu _ _ e21 hE22
  rintro ⟨hour_11, h12⟩ o9 eq13 ih ex
  unfold s_X1_liftRow_1 at eq13
  show fx_J M G Λ 3 2 [some (3, this_0), some (0, person_0), some (0, hour_11)] [] h12
  refine fx_iload_n (pc := 2) F 2 rfl rfl dX1_liftRow_2 ?_
  refine fx_iconst (pc := 3) F ⟨by decide, by decide⟩ dX1_liftRow_3 ?_
  refine fx_nlt (pc := 4) F 23 (by decide) dX1_liftRow_4 (fun c14 => ?_) (fun c14 => ?_)
  · have eq13 := (if_pos c14).symm.trans eq13
    refine fx_aload_n (pc := 7) (t := 1) F 0 rfl rfl dX1_liftRow_7 ?_
    refine fx_gR (pc := 8) F 1 0 0 11 rfl kC_X1 (by decide) rfl wF_X1_11 dX1_liftRow_8 ?_
    refine fx_iload_n (pc := 11) F 2 rfl rfl dX1_liftRow_11 ?_
    obtain ⟨v15, e16, eq13⟩ := fx_bnd eq13
    refine fx_raldG (pc := 12) F e16 dX1_liftRow_12 ?_
    refine fx_iload_n (pc := 13) F 1 rfl rfl dX1_liftRow_13 ?_
    refine fx_bipush (pc := 14) F ⟨by decide, by decide⟩ (by decide) dX1_liftRow_14 ?_
    obtain ⟨h17, e18, eq13⟩ := fx_bnd eq13
    refine fx_rastI (pc := 16) F e18 dX1_liftRow_16 ?_
    refine fx_iinc (pc := 17) (ls' := [some (3, this_0), some (0, person_0), some (0, (fx_w (hour_11 + 1)))]) F (by decide) rfl rfl rfl dX1_liftRow_17 ?_
    refine fx_goto (pc := 20) F 2 (by decide) dX1_liftRow_20 ?_
    cases eq13
    exact ih _ rfl
  · have eq13 := (if_neg c14).symm.trans eq13
    cases eq13
    exact ex _ rfl
def s_X1_clearDay_1 (Fu : Nat) (Λ : fx_L) (this_3 : Int) : Int × fx_H → Option ((Int × fx_H) ⊕ (Int × fx_H)) := fun (person_1, h2) =>
  if person_1 < 5 then
    (f_X1_liftRow Fu Λ this_3 person_1 h2).bind fun h6 =>
    some (.inl ((fx_w (person_1 + 1)), h6))
  else
    some (.inr (person_1, h2))
def f_X1_clearDay (Fu : Nat) (Λ : fx_L) (this_0 : Int) (h : fx_H) : Option (fx_H) :=
  Option.bind (fx_loop (s_X1_clearDay_1 Fu Λ this_0) Fu (0, h)) fun (person_14, h15) =>
  some h15
abbrev rm_X1_clearDay : Room := { frames := 1, cells := 0, slots := 0, locals := 22 }
set_option maxRecDepth 100000 in
set_option maxHeartbeats 4000000 in
theorem m_X1_clearDay (Fu : Nat) (Λ : fx_L) (this_0 : Int) (h : fx_H) (ho : fx_H) (hf : f_X1_clearDay Fu Λ this_0 h = some ho) : fx_Met yX1_clearDay cX1_clearDay 2 none rm_X1_clearDay Λ [(3, this_0)] h none ho := by
  unfold f_X1_clearDay at hf
  refine fx_enter (ls := [some (3, this_0), none]) (by decide) (Nat.le_of_ble_eq_true rfl) rfl (fun M G F K => ?_)
  refine fx_iconst (pc := 0) F ⟨by decide, by decide⟩ dX1_clearDay_0 ?_
  refine fx_istore_n (pc := 1) (ls' := [some (3, this_0), some (0, 0)]) F 1 rfl (by decide) rfl rfl dX1_clearDay_1 ?_
  obtain ⟨⟨person_14, h15⟩, e16, hf⟩ := fx_bnd hf
  have hE17 : fx_J M G Λ 2 18 [some (3, this_0), some (0, person_14)] [] h15 := by
    cases hf
    exact fx_vreturn (pc := 18) F K dX1_clearDay_18
  refine fx_loop_J (Hd := (fun z : Int × fx_H => fx_J M G Λ 2 2 [some (3, this_0), some (0, z.1)] [] z.2)) (Ex := (fun z : Int × fx_H => fx_J M G Λ 2 18 [some (3, this_0), some (0, z.1)] [] z.2)) ?_ Fu _ _ e16 hE17
  rintro ⟨person_8, h9⟩ o9 eq10 ih ex
  unfold s_X1_clearDay_1 at eq10
  show fx_J M G Λ 2 2 [some (3, this_0), some (0, person_8)] [] h9
  refine fx_iload_n (pc := 2) F 1 rfl rfl dX1_clearDay_2 ?_
  refine fx_iconst (pc := 3) F ⟨by decide, by decide⟩ dX1_clearDay_3 ?_
  refine fx_nlt (pc := 4) F 18 (by decide) dX1_clearDay_4 (fun c11 => ?_) (fun c11 => ?_)
  · have eq10 := (if_pos c11).symm.trans eq10
    refine fx_aload_n (pc := 7) (t := 1) F 0 rfl rfl dX1_clearDay_7 ?_
    refine fx_iload_n (pc := 8) F 1 rfl rfl dX1_clearDay_8 ?_
    obtain ⟨h12, e13, eq10⟩ := fx_bnd eq10
    refine fx_cVv (pc := 9) F 1 kC_X1 [(0, person_8)] this_0 [] (m_X1_liftRow Fu Λ this_0 person_8 h9 _ e13) kD_X1_liftRow kI_X1_liftRow rfl wM_X1_159 ⟨rfl, rfl⟩ ⟨by decide, by decide⟩ (Nat.le_of_ble_eq_true rfl) rfl dX1_clearDay_9 ?_
    refine fx_iinc (pc := 12) (ls' := [some (3, this_0), some (0, (fx_w (person_8 + 1)))]) F (by decide) rfl rfl rfl dX1_clearDay_12 ?_
    refine fx_goto (pc := 15) F 2 (by decide) dX1_clearDay_15 ?_
    cases eq10
    exact ih _ rfl
  · have eq10 := (if_neg c11).symm.trans eq10
    cases eq10
    exact ex _ rfl
def s_X0_othersWith_1 (Fu : Nat) (Λ : fx_L) (this_3 : Int) (kind_4 : Int) (now_5 : Int) (person_6 : Int) (thing_7 : Int) (h : fx_H) : Int × Int → Option ((Int × Int) ⊕ (Int × Int)) := fun (others_1, other_2) =>
  Option.bind (
    if other_2 < (h this_3 4) then
      (f_X0_isFined Fu Λ this_3 kind_4 thing_7 h).bind fun v14 =>
      if ¬ v14 = 0 then
        some true
      else
        some false
    else
      some false
  ) fun b9 =>
  if b9 = true then
    Option.bind (
      if ¬ other_2 = person_6 then
        (fx_rd Λ h now_5 other_2).bind fun v23 =>
        (fx_rd Λ h (fx_tg Λ this_3 0) v23).bind fun v25 =>
        (fx_rd Λ h (fx_tg Λ this_3 0) thing_7).bind fun v27 =>
        if v25 = v27 then
          (fx_rd Λ h now_5 other_2).bind fun v30 =>
          (f_X0_isFined Fu Λ this_3 kind_4 v30 h).bind fun v32 =>
          if ¬ v32 = 0 then
            some true
          else
            some false
        else
          some false
      else
        some false
    ) fun b18 =>
    if b18 = true then
      some (.inl ((fx_w (others_1 + 1)), (fx_w (other_2 + 1))))
    else
      some (.inl (others_1, (fx_w (other_2 + 1))))
  else
    some (.inr (others_1, other_2))
def f_X0_othersWith (Fu : Nat) (Λ : fx_L) (this_0 : Int) (kind_0 : Int) (now_0 : Int) (person_0 : Int) (thing_0 : Int) (h : fx_H) : Option (Int) :=
  Option.bind (fx_loop (s_X0_othersWith_1 Fu Λ this_0 kind_0 now_0 person_0 thing_0 h) Fu (0, 0)) fun (others_66, other_67) =>
  some others_66
abbrev rm_X0_othersWith : Room := { frames := 1, cells := 0, slots := 0, locals := 22 }
set_option maxRecDepth 100000 in
set_option maxHeartbeats 4000000 in
theorem m_X0_othersWith (Fu : Nat) (Λ : fx_L) (this_0 : Int) (kind_0 : Int) (now_0 : Int) (person_0 : Int) (thing_0 : Int) (h : fx_H) (r : Int) (hf : f_X0_othersWith Fu Λ this_0 kind_0 now_0 person_0 thing_0 h = some r) : fx_Met yX0_othersWith cX0_othersWith 7 (some .int) rm_X0_othersWith Λ [(2, this_0), (0, kind_0), (10, now_0), (0, person_0), (0, thing_0)] h (some (0, r)) h := by
  unfold f_X0_othersWith at hf
  refine fx_enter (ls := [some (2, this_0), some (0, kind_0), some (10, now_0), some (0, person_0), some (0, thing_0), none, none]) (by decide) (Nat.le_of_ble_eq_true rfl) rfl (fun M G F K => ?_)
  refine fx_iconst (pc := 0) F ⟨by decide, by decide⟩ dX0_othersWith_0 ?_
  refine fx_istore (pc := 1) (ls' := [some (2, this_0), some (0, kind_0), some (10, now_0), some (0, person_0), some (0, thing_0), some (0, 0), none]) F (by decide) rfl rfl dX0_othersWith_1 ?_
  refine fx_iconst (pc := 3) F ⟨by decide, by decide⟩ dX0_othersWith_3 ?_
  refine fx_istore (pc := 4) (ls' := [some (2, this_0), some (0, kind_0), some (10, now_0), some (0, person_0), some (0, thing_0), some (0, 0), some (0, 0)]) F (by decide) rfl rfl dX0_othersWith_4 ?_
  obtain ⟨⟨others_66, other_67⟩, e68, hf⟩ := fx_bnd hf
  have hE69 : fx_J M G Λ 7 71 [some (2, this_0), some (0, kind_0), some (10, now_0), some (0, person_0), some (0, thing_0), some (0, others_66), some (0, other_67)] [] h := by
    refine fx_iload (pc := 71) F rfl dX0_othersWith_71 ?_
    cases hf
    exact fx_ireturn (pc := 73) F K dX0_othersWith_73
  refine fx_loop_J (Hd := (fun z : Int × Int => fx_J M G Λ 7 6 [some (2, this_0), some (0, kind_0), some (10, now_0), some (0, person_0), some (0, thing_0), some (0, z.1), some (0, z.2)] [] h)) (Ex := (fun z : Int × Int => fx_J M G Λ 7 71 [some (2, this_0), some (0, kind_0), some (10, now_0), some (0, person_0), some (0, thing_0), some (0, z.1), some (0, z.2)] [] h)) ?_ Fu _ _ e68 hE69
  rintro ⟨others_36, other_37⟩ o9 eq38 ih ex
  unfold s_X0_othersWith_1 at eq38
  show fx_J M G Λ 7 6 [some (2, this_0), some (0, kind_0), some (10, now_0), some (0, person_0), some (0, thing_0), some (0, others_36), some (0, other_37)] [] h
  obtain ⟨b39, e40, eq38⟩ := fx_bnd eq38
  have hT41 : b39 = true → fx_J M G Λ 7 25 [some (2, this_0), some (0, kind_0), some (10, now_0), some (0, person_0), some (0, thing_0), some (0, others_36), some (0, other_37)] [] h := fun c47 => by
    have eq38 := (if_pos c47).symm.trans eq38
    obtain ⟨b48, e49, eq38⟩ := fx_bnd eq38
    have hT50 : b48 = true → fx_J M G Λ 7 62 [some (2, this_0), some (0, kind_0), some (10, now_0), some (0, person_0), some (0, thing_0), some (0, others_36), some (0, other_37)] [] h := fun c65 => by
      have eq38 := (if_pos c65).symm.trans eq38
      refine fx_iinc (pc := 62) (ls' := [some (2, this_0), some (0, kind_0), some (10, now_0), some (0, person_0), some (0, thing_0), some (0, (fx_w (others_36 + 1))), some (0, other_37)]) F (by decide) rfl rfl rfl dX0_othersWith_62 ?_
      refine fx_iinc (pc := 65) (ls' := [some (2, this_0), some (0, kind_0), some (10, now_0), some (0, person_0), some (0, thing_0), some (0, (fx_w (others_36 + 1))), some (0, (fx_w (other_37 + 1)))]) F (by decide) rfl rfl rfl dX0_othersWith_65 ?_
      refine fx_goto (pc := 68) F 6 (by decide) dX0_othersWith_68 ?_
      cases eq38
      exact ih _ rfl
    have hF51 : ¬ b48 = true → fx_J M G Λ 7 65 [some (2, this_0), some (0, kind_0), some (10, now_0), some (0, person_0), some (0, thing_0), some (0, others_36), some (0, other_37)] [] h := fun c65 => by
      have eq38 := (if_neg c65).symm.trans eq38
      refine fx_iinc (pc := 65) (ls' := [some (2, this_0), some (0, kind_0), some (10, now_0), some (0, person_0), some (0, thing_0), some (0, others_36), some (0, (fx_w (other_37 + 1)))]) F (by decide) rfl rfl rfl dX0_othersWith_65 ?_
      refine fx_goto (pc := 68) F 6 (by decide) dX0_othersWith_68 ?_
      cases eq38
      exact ih _ rfl
    refine fx_iload (pc := 25) F rfl dX0_othersWith_25 ?_
    refine fx_iload_n (pc := 27) F 3 rfl rfl dX0_othersWith_27 ?_
    refine fx_nne (pc := 28) F 65 (by decide) dX0_othersWith_28 (fun c52 => ?_) (fun c52 => ?_)
    · have e49 := (if_pos c52).symm.trans e49
      refine fx_aload_n (pc := 31) (t := 0) F 0 rfl rfl dX0_othersWith_31 ?_
      refine fx_gR (pc := 32) F 0 0 0 8 rfl kC_X0 (by decide) rfl wF_X0_9 dX0_othersWith_32 ?_
      refine fx_aload_n (pc := 35) (t := 8) F 2 rfl rfl dX0_othersWith_35 ?_
      refine fx_iload (pc := 36) F rfl dX0_othersWith_36 ?_
      obtain ⟨v53, e54, e49⟩ := fx_bnd e49
      refine fx_raldI (pc := 38) F e54 dX0_othersWith_38 ?_
      obtain ⟨v55, e56, e49⟩ := fx_bnd e49
      refine fx_raldI (pc := 39) F e56 dX0_othersWith_39 ?_
      refine fx_aload_n (pc := 40) (t := 0) F 0 rfl rfl dX0_othersWith_40 ?_
      refine fx_gR (pc := 41) F 0 0 0 8 rfl kC_X0 (by decide) rfl wF_X0_9 dX0_othersWith_41 ?_
      refine fx_iload (pc := 44) F rfl dX0_othersWith_44 ?_
      obtain ⟨v57, e58, e49⟩ := fx_bnd e49
      refine fx_raldI (pc := 46) F e58 dX0_othersWith_46 ?_
      refine fx_neq (pc := 47) F 65 (by decide) dX0_othersWith_47 (fun c59 => ?_) (fun c59 => ?_)
      · have e49 := (if_pos c59).symm.trans e49
        refine fx_aload_n (pc := 50) (t := 0) F 0 rfl rfl dX0_othersWith_50 ?_
        refine fx_iload_n (pc := 51) F 1 rfl rfl dX0_othersWith_51 ?_
        refine fx_aload_n (pc := 52) (t := 8) F 2 rfl rfl dX0_othersWith_52 ?_
        refine fx_iload (pc := 53) F rfl dX0_othersWith_53 ?_
        obtain ⟨v60, e61, e49⟩ := fx_bnd e49
        refine fx_raldI (pc := 55) F e61 dX0_othersWith_55 ?_
        obtain ⟨v62, e63, e49⟩ := fx_bnd e49
        refine fx_cV (pc := 56) F 0 kC_X0 [(0, kind_0), (0, v60)] this_0 [] (m_X0_isFined Fu Λ this_0 kind_0 v60 h _ e63) kD_X0_isFined kI_X0_isFined rfl wM_X0_81 ⟨rfl, rfl⟩ ⟨by decide, by decide⟩ (Nat.le_of_ble_eq_true rfl) rfl dX0_othersWith_56 ?_
        refine fx_nzne (pc := 59) F 65 (by decide) dX0_othersWith_59 (fun c64 => ?_) (fun c64 => ?_)
        · have e49 := (if_pos c64).symm.trans e49
          cases e49
          exact hT50 (by decide)
        · have e49 := (if_neg c64).symm.trans e49
          cases e49
          exact hF51 (by decide)
      · have e49 := (if_neg c59).symm.trans e49
        cases e49
        exact hF51 (by decide)
    · have e49 := (if_neg c52).symm.trans e49
      cases e49
      exact hF51 (by decide)
  have hF42 : ¬ b39 = true → fx_J M G Λ 7 71 [some (2, this_0), some (0, kind_0), some (10, now_0), some (0, person_0), some (0, thing_0), some (0, others_36), some (0, other_37)] [] h := fun c47 => by
    have eq38 := (if_neg c47).symm.trans eq38
    cases eq38
    exact ex _ rfl
  refine fx_iload (pc := 6) F rfl dX0_othersWith_6 ?_
  refine fx_aload_n (pc := 8) (t := 0) F 0 rfl rfl dX0_othersWith_8 ?_
  refine fx_gI (pc := 9) F 0 4 4 rfl kC_X0 rfl wF_X0_36 dX0_othersWith_9 ?_
  refine fx_nlt (pc := 12) F 71 (by decide) dX0_othersWith_12 (fun c43 => ?_) (fun c43 => ?_)
  · have e40 := (if_pos c43).symm.trans e40
    refine fx_aload_n (pc := 15) (t := 0) F 0 rfl rfl dX0_othersWith_15 ?_
    refine fx_iload_n (pc := 16) F 1 rfl rfl dX0_othersWith_16 ?_
    refine fx_iload (pc := 17) F rfl dX0_othersWith_17 ?_
    obtain ⟨v44, e45, e40⟩ := fx_bnd e40
    refine fx_cV (pc := 19) F 0 kC_X0 [(0, kind_0), (0, thing_0)] this_0 [] (m_X0_isFined Fu Λ this_0 kind_0 thing_0 h _ e45) kD_X0_isFined kI_X0_isFined rfl wM_X0_81 ⟨rfl, rfl⟩ ⟨by decide, by decide⟩ (Nat.le_of_ble_eq_true rfl) rfl dX0_othersWith_19 ?_
    refine fx_nzne (pc := 22) F 71 (by decide) dX0_othersWith_22 (fun c46 => ?_) (fun c46 => ?_)
    · have e40 := (if_pos c46).symm.trans e40
      cases e40
      exact hT41 (by decide)
    · have e40 := (if_neg c46).symm.trans e40
      cases e40
      exact hF42 (by decide)
  · have e40 := (if_neg c43).symm.trans e40
    cases e40
    exact hF42 (by decide)
def s_X0_addedToCopies_1 (Fu : Nat) (Λ : fx_L) (this_3 : Int) (now_4 : Int) (next_5 : Int) (person_6 : Int) (thing_7 : Int) (h : fx_H) : Int × Int → Option ((Int × Int) ⊕ (Int × Int)) := fun (more_1, other_2) =>
  if other_2 < (h this_3 4) then
    Option.bind (
      if ¬ other_2 = person_6 then
        (fx_rd Λ h next_5 other_2).bind fun v15 =>
        (fx_rd Λ h (fx_tg Λ this_3 0) v15).bind fun v17 =>
        (fx_rd Λ h (fx_tg Λ this_3 0) thing_7).bind fun v19 =>
        if v17 = v19 then
          (f_X0_wasDone Fu Λ this_3 now_4 other_2 thing_7 h).bind fun v22 =>
          if v22 = 0 then
            some true
          else
            some false
        else
          some false
      else
        some false
    ) fun b10 =>
    if b10 = true then
      some (.inl ((fx_w (more_1 + 2)), (fx_w (other_2 + 1))))
    else
      some (.inl (more_1, (fx_w (other_2 + 1))))
  else
    some (.inr (more_1, other_2))
def f_X0_addedToCopies (Fu : Nat) (Λ : fx_L) (this_0 : Int) (now_0 : Int) (next_0 : Int) (person_0 : Int) (thing_0 : Int) (h : fx_H) : Option (Int) :=
  Option.bind (fx_loop (s_X0_addedToCopies_1 Fu Λ this_0 now_0 next_0 person_0 thing_0 h) Fu (0, 0)) fun (more_46, other_47) =>
  some more_46
abbrev rm_X0_addedToCopies : Room := { frames := 1, cells := 0, slots := 0, locals := 24 }
set_option maxRecDepth 100000 in
set_option maxHeartbeats 4000000 in
theorem m_X0_addedToCopies (Fu : Nat) (Λ : fx_L) (this_0 : Int) (now_0 : Int) (next_0 : Int) (person_0 : Int) (thing_0 : Int) (h : fx_H) (r : Int) (hf : f_X0_addedToCopies Fu Λ this_0 now_0 next_0 person_0 thing_0 h = some r) : fx_Met yX0_addedToCopies cX0_addedToCopies 7 (some .int) rm_X0_addedToCopies Λ [(2, this_0), (10, now_0), (10, next_0), (0, person_0), (0, thing_0)] h (some (0, r)) h := by
  unfold f_X0_addedToCopies at hf
  refine fx_enter (ls := [some (2, this_0), some (10, now_0), some (10, next_0), some (0, person_0), some (0, thing_0), none, none]) (by decide) (Nat.le_of_ble_eq_true rfl) rfl (fun M G F K => ?_)
  refine fx_iconst (pc := 0) F ⟨by decide, by decide⟩ dX0_addedToCopies_0 ?_
  refine fx_istore (pc := 1) (ls' := [some (2, this_0), some (10, now_0), some (10, next_0), some (0, person_0), some (0, thing_0), some (0, 0), none]) F (by decide) rfl rfl dX0_addedToCopies_1 ?_
  refine fx_iconst (pc := 3) F ⟨by decide, by decide⟩ dX0_addedToCopies_3 ?_
  refine fx_istore (pc := 4) (ls' := [some (2, this_0), some (10, now_0), some (10, next_0), some (0, person_0), some (0, thing_0), some (0, 0), some (0, 0)]) F (by decide) rfl rfl dX0_addedToCopies_4 ?_
  obtain ⟨⟨more_46, other_47⟩, e48, hf⟩ := fx_bnd hf
  have hE49 : fx_J M G Λ 7 61 [some (2, this_0), some (10, now_0), some (10, next_0), some (0, person_0), some (0, thing_0), some (0, more_46), some (0, other_47)] [] h := by
    refine fx_iload (pc := 61) F rfl dX0_addedToCopies_61 ?_
    cases hf
    exact fx_ireturn (pc := 63) F K dX0_addedToCopies_63
  refine fx_loop_J (Hd := (fun z : Int × Int => fx_J M G Λ 7 6 [some (2, this_0), some (10, now_0), some (10, next_0), some (0, person_0), some (0, thing_0), some (0, z.1), some (0, z.2)] [] h)) (Ex := (fun z : Int × Int => fx_J M G Λ 7 61 [some (2, this_0), some (10, now_0), some (10, next_0), some (0, person_0), some (0, thing_0), some (0, z.1), some (0, z.2)] [] h)) ?_ Fu _ _ e48 hE49
  rintro ⟨more_26, other_27⟩ o9 eq28 ih ex
  unfold s_X0_addedToCopies_1 at eq28
  show fx_J M G Λ 7 6 [some (2, this_0), some (10, now_0), some (10, next_0), some (0, person_0), some (0, thing_0), some (0, more_26), some (0, other_27)] [] h
  refine fx_iload (pc := 6) F rfl dX0_addedToCopies_6 ?_
  refine fx_aload_n (pc := 8) (t := 0) F 0 rfl rfl dX0_addedToCopies_8 ?_
  refine fx_gI (pc := 9) F 0 4 4 rfl kC_X0 rfl wF_X0_36 dX0_addedToCopies_9 ?_
  refine fx_nlt (pc := 12) F 61 (by decide) dX0_addedToCopies_12 (fun c29 => ?_) (fun c29 => ?_)
  · have eq28 := (if_pos c29).symm.trans eq28
    obtain ⟨b30, e31, eq28⟩ := fx_bnd eq28
    have hT32 : b30 = true → fx_J M G Λ 7 52 [some (2, this_0), some (10, now_0), some (10, next_0), some (0, person_0), some (0, thing_0), some (0, more_26), some (0, other_27)] [] h := fun c45 => by
      have eq28 := (if_pos c45).symm.trans eq28
      refine fx_iinc (pc := 52) (ls' := [some (2, this_0), some (10, now_0), some (10, next_0), some (0, person_0), some (0, thing_0), some (0, (fx_w (more_26 + 2))), some (0, other_27)]) F (by decide) rfl rfl rfl dX0_addedToCopies_52 ?_
      refine fx_iinc (pc := 55) (ls' := [some (2, this_0), some (10, now_0), some (10, next_0), some (0, person_0), some (0, thing_0), some (0, (fx_w (more_26 + 2))), some (0, (fx_w (other_27 + 1)))]) F (by decide) rfl rfl rfl dX0_addedToCopies_55 ?_
      refine fx_goto (pc := 58) F 6 (by decide) dX0_addedToCopies_58 ?_
      cases eq28
      exact ih _ rfl
    have hF33 : ¬ b30 = true → fx_J M G Λ 7 55 [some (2, this_0), some (10, now_0), some (10, next_0), some (0, person_0), some (0, thing_0), some (0, more_26), some (0, other_27)] [] h := fun c45 => by
      have eq28 := (if_neg c45).symm.trans eq28
      refine fx_iinc (pc := 55) (ls' := [some (2, this_0), some (10, now_0), some (10, next_0), some (0, person_0), some (0, thing_0), some (0, more_26), some (0, (fx_w (other_27 + 1)))]) F (by decide) rfl rfl rfl dX0_addedToCopies_55 ?_
      refine fx_goto (pc := 58) F 6 (by decide) dX0_addedToCopies_58 ?_
      cases eq28
      exact ih _ rfl
    refine fx_iload (pc := 15) F rfl dX0_addedToCopies_15 ?_
    refine fx_iload_n (pc := 17) F 3 rfl rfl dX0_addedToCopies_17 ?_
    refine fx_nne (pc := 18) F 55 (by decide) dX0_addedToCopies_18 (fun c34 => ?_) (fun c34 => ?_)
    · have e31 := (if_pos c34).symm.trans e31
      refine fx_aload_n (pc := 21) (t := 0) F 0 rfl rfl dX0_addedToCopies_21 ?_
      refine fx_gR (pc := 22) F 0 0 0 8 rfl kC_X0 (by decide) rfl wF_X0_9 dX0_addedToCopies_22 ?_
      refine fx_aload_n (pc := 25) (t := 8) F 2 rfl rfl dX0_addedToCopies_25 ?_
      refine fx_iload (pc := 26) F rfl dX0_addedToCopies_26 ?_
      obtain ⟨v35, e36, e31⟩ := fx_bnd e31
      refine fx_raldI (pc := 28) F e36 dX0_addedToCopies_28 ?_
      obtain ⟨v37, e38, e31⟩ := fx_bnd e31
      refine fx_raldI (pc := 29) F e38 dX0_addedToCopies_29 ?_
      refine fx_aload_n (pc := 30) (t := 0) F 0 rfl rfl dX0_addedToCopies_30 ?_
      refine fx_gR (pc := 31) F 0 0 0 8 rfl kC_X0 (by decide) rfl wF_X0_9 dX0_addedToCopies_31 ?_
      refine fx_iload (pc := 34) F rfl dX0_addedToCopies_34 ?_
      obtain ⟨v39, e40, e31⟩ := fx_bnd e31
      refine fx_raldI (pc := 36) F e40 dX0_addedToCopies_36 ?_
      refine fx_neq (pc := 37) F 55 (by decide) dX0_addedToCopies_37 (fun c41 => ?_) (fun c41 => ?_)
      · have e31 := (if_pos c41).symm.trans e31
        refine fx_aload_n (pc := 40) (t := 0) F 0 rfl rfl dX0_addedToCopies_40 ?_
        refine fx_aload_n (pc := 41) (t := 8) F 1 rfl rfl dX0_addedToCopies_41 ?_
        refine fx_iload (pc := 42) F rfl dX0_addedToCopies_42 ?_
        refine fx_iload (pc := 44) F rfl dX0_addedToCopies_44 ?_
        obtain ⟨v42, e43, e31⟩ := fx_bnd e31
        refine fx_cV (pc := 46) F 0 kC_X0 [(10, now_0), (0, other_27), (0, thing_0)] this_0 [] (m_X0_wasDone Fu Λ this_0 now_0 other_27 thing_0 h _ e43) kD_X0_wasDone kI_X0_wasDone rfl wM_X0_88 ⟨rfl, rfl⟩ ⟨by decide, by decide⟩ (Nat.le_of_ble_eq_true rfl) rfl dX0_addedToCopies_46 ?_
        refine fx_nzeq (pc := 49) F 55 (by decide) dX0_addedToCopies_49 (fun c44 => ?_) (fun c44 => ?_)
        · have e31 := (if_pos c44).symm.trans e31
          cases e31
          exact hT32 (by decide)
        · have e31 := (if_neg c44).symm.trans e31
          cases e31
          exact hF33 (by decide)
      · have e31 := (if_neg c41).symm.trans e31
        cases e31
        exact hF33 (by decide)
    · have e31 := (if_neg c34).symm.trans e31
      cases e31
      exact hF33 (by decide)
  · have eq28 := (if_neg c29).symm.trans eq28
    cases eq28
    exact ex _ rfl
def f_X0_added (Fu : Nat) (Λ : fx_L) (this_0 : Int) (town_0 : Int) (day_0 : Int) (hour_0 : Int) (person_0 : Int) (thing_0 : Int) (h : fx_H) : Option (Int) :=
  (f_X4_kindOf Fu Λ town_0 hour_0 h).bind fun v1 =>
  (fx_rt 0 v1).bind fun v3 =>
  (fx_rr Λ day_0 hour_0).bind fun v5 =>
  (f_X0_othersWith Fu Λ this_0 v1 v5 person_0 thing_0 h).bind fun v7 =>
  Option.bind (
    Option.bind (
      if v1 = 5 then
        (f_X0_aheadOf Fu Λ this_0 day_0 hour_0 h).bind fun v17 =>
        (f_X0_wasDone Fu Λ this_0 v17 person_0 thing_0 h).bind fun v19 =>
        if ¬ v19 = 0 then
          some true
        else
          some false
      else
        some false
    ) fun b12 =>
    if b12 = true then
      some (fx_w ((fx_w (v3 * v7)) + 2))
    else
      some (fx_w (v3 * v7))
  ) fun more_9 =>
  Option.bind (
    (f_X4_kindOf Fu Λ town_0 (fx_w (hour_0 + 1)) h).bind fun v26 =>
    if v26 = 5 then
      (fx_rr Λ day_0 hour_0).bind fun v29 =>
      (fx_rr Λ day_0 (fx_w (hour_0 + 1))).bind fun v31 =>
      (f_X0_addedToCopies Fu Λ this_0 v29 v31 person_0 thing_0 h).bind fun v33 =>
      some (fx_w (more_9 + v33))
    else
      some more_9
  ) fun more_23 =>
  some more_23
abbrev rm_X0_added : Room := { frames := 3, cells := 0, slots := 0, locals := 64 }
set_option maxRecDepth 100000 in
set_option maxHeartbeats 4000000 in
theorem m_X0_added (Fu : Nat) (Λ : fx_L) (this_0 : Int) (town_0 : Int) (day_0 : Int) (hour_0 : Int) (person_0 : Int) (thing_0 : Int) (h : fx_H) (r : Int) (hf : f_X0_added Fu Λ this_0 town_0 day_0 hour_0 person_0 thing_0 h = some r) : fx_Met yX0_added cX0_added 8 (some .int) rm_X0_added Λ [(2, this_0), (6, town_0), (13, day_0), (0, hour_0), (0, person_0), (0, thing_0)] h (some (0, r)) h := by
  unfold f_X0_added at hf
  refine fx_enter (ls := [some (2, this_0), some (6, town_0), some (13, day_0), some (0, hour_0), some (0, person_0), some (0, thing_0), none, none]) (by decide) (Nat.le_of_ble_eq_true rfl) rfl (fun M G F K => ?_)
  refine fx_aload_n (pc := 0) (t := 4) F 1 rfl rfl dX0_added_0 ?_
  refine fx_iload_n (pc := 1) F 3 rfl rfl dX0_added_1 ?_
  obtain ⟨v1, e2, hf⟩ := fx_bnd hf
  refine fx_cV (pc := 2) F 4 kC_X4 [(0, hour_0)] town_0 [] (m_X4_kindOf Fu Λ town_0 hour_0 h _ e2) kD_X4_kindOf kI_X4_kindOf rfl wM_X0_51 ⟨rfl, rfl⟩ ⟨by decide, by decide⟩ (Nat.le_of_ble_eq_true rfl) rfl dX0_added_2 ?_
  refine fx_istore (pc := 5) (ls' := [some (2, this_0), some (6, town_0), some (13, day_0), some (0, hour_0), some (0, person_0), some (0, thing_0), some (0, v1), none]) F (by decide) rfl rfl dX0_added_5 ?_
  refine fx_gets (pc := 7) F 0 (nm := "PAIR_PAYS") (by decide) (by decide) dX0_added_7 ?_
  refine fx_iload (pc := 10) F rfl dX0_added_10 ?_
  obtain ⟨v3, e4, hf⟩ := fx_bnd hf
  refine fx_rtald (pc := 12) F 0 (by decide) e4 dX0_added_12 ?_
  refine fx_aload_n (pc := 13) (t := 0) F 0 rfl rfl dX0_added_13 ?_
  refine fx_iload (pc := 14) F rfl dX0_added_14 ?_
  refine fx_aload_n (pc := 16) (t := 11) F 2 rfl rfl dX0_added_16 ?_
  refine fx_iload_n (pc := 17) F 3 rfl rfl dX0_added_17 ?_
  obtain ⟨v5, e6, hf⟩ := fx_bnd hf
  refine fx_raldG (pc := 18) F e6 dX0_added_18 ?_
  refine fx_iload (pc := 19) F rfl dX0_added_19 ?_
  refine fx_iload (pc := 21) F rfl dX0_added_21 ?_
  obtain ⟨v7, e8, hf⟩ := fx_bnd hf
  refine fx_cV (pc := 23) F 0 kC_X0 [(0, v1), (10, v5), (0, person_0), (0, thing_0)] this_0 [(0, v3)] (m_X0_othersWith Fu Λ this_0 v1 v5 person_0 thing_0 h _ e8) kD_X0_othersWith kI_X0_othersWith rfl wM_X0_95 ⟨rfl, rfl⟩ ⟨by decide, by decide⟩ (Nat.le_of_ble_eq_true rfl) rfl dX0_added_23 ?_
  refine fx_imul (pc := 26) F dX0_added_26 ?_
  refine fx_istore (pc := 27) (ls' := [some (2, this_0), some (6, town_0), some (13, day_0), some (0, hour_0), some (0, person_0), some (0, thing_0), some (0, v1), some (0, (fx_w (v3 * v7)))]) F (by decide) rfl rfl dX0_added_27 ?_
  obtain ⟨more_9, e10, hf⟩ := fx_bnd hf
  have hJ11 : fx_J M G Λ 8 55 [some (2, this_0), some (6, town_0), some (13, day_0), some (0, hour_0), some (0, person_0), some (0, thing_0), some (0, v1), some (0, more_9)] [] h := by
    obtain ⟨more_23, e24, hf⟩ := fx_bnd hf
    have hJ25 : fx_J M G Λ 8 87 [some (2, this_0), some (6, town_0), some (13, day_0), some (0, hour_0), some (0, person_0), some (0, thing_0), some (0, v1), some (0, more_23)] [] h := by
      refine fx_iload (pc := 87) F rfl dX0_added_87 ?_
      cases hf
      exact fx_ireturn (pc := 89) F K dX0_added_89
    refine fx_aload_n (pc := 55) (t := 4) F 1 rfl rfl dX0_added_55 ?_
    refine fx_iload_n (pc := 56) F 3 rfl rfl dX0_added_56 ?_
    refine fx_iconst (pc := 57) F ⟨by decide, by decide⟩ dX0_added_57 ?_
    refine fx_iadd (pc := 58) F dX0_added_58 ?_
    obtain ⟨v26, e27, e24⟩ := fx_bnd e24
    refine fx_cV (pc := 59) F 4 kC_X4 [(0, (fx_w (hour_0 + 1)))] town_0 [] (m_X4_kindOf Fu Λ town_0 (fx_w (hour_0 + 1)) h _ e27) kD_X4_kindOf kI_X4_kindOf rfl wM_X0_51 ⟨rfl, rfl⟩ ⟨by decide, by decide⟩ (Nat.le_of_ble_eq_true rfl) rfl dX0_added_59 ?_
    refine fx_iconst (pc := 62) F ⟨by decide, by decide⟩ dX0_added_62 ?_
    refine fx_neq (pc := 63) F 87 (by decide) dX0_added_63 (fun c28 => ?_) (fun c28 => ?_)
    · have e24 := (if_pos c28).symm.trans e24
      refine fx_iload (pc := 66) F rfl dX0_added_66 ?_
      refine fx_aload_n (pc := 68) (t := 0) F 0 rfl rfl dX0_added_68 ?_
      refine fx_aload_n (pc := 69) (t := 11) F 2 rfl rfl dX0_added_69 ?_
      refine fx_iload_n (pc := 70) F 3 rfl rfl dX0_added_70 ?_
      obtain ⟨v29, e30, e24⟩ := fx_bnd e24
      refine fx_raldG (pc := 71) F e30 dX0_added_71 ?_
      refine fx_aload_n (pc := 72) (t := 11) F 2 rfl rfl dX0_added_72 ?_
      refine fx_iload_n (pc := 73) F 3 rfl rfl dX0_added_73 ?_
      refine fx_iconst (pc := 74) F ⟨by decide, by decide⟩ dX0_added_74 ?_
      refine fx_iadd (pc := 75) F dX0_added_75 ?_
      obtain ⟨v31, e32, e24⟩ := fx_bnd e24
      refine fx_raldG (pc := 76) F e32 dX0_added_76 ?_
      refine fx_iload (pc := 77) F rfl dX0_added_77 ?_
      refine fx_iload (pc := 79) F rfl dX0_added_79 ?_
      obtain ⟨v33, e34, e24⟩ := fx_bnd e24
      refine fx_cV (pc := 81) F 0 kC_X0 [(10, v29), (10, v31), (0, person_0), (0, thing_0)] this_0 [(0, more_9)] (m_X0_addedToCopies Fu Λ this_0 v29 v31 person_0 thing_0 h _ e34) kD_X0_addedToCopies kI_X0_addedToCopies rfl wM_X0_99 ⟨rfl, rfl⟩ ⟨by decide, by decide⟩ (Nat.le_of_ble_eq_true rfl) rfl dX0_added_81 ?_
      refine fx_iadd (pc := 84) F dX0_added_84 ?_
      refine fx_istore (pc := 85) (ls' := [some (2, this_0), some (6, town_0), some (13, day_0), some (0, hour_0), some (0, person_0), some (0, thing_0), some (0, v1), some (0, (fx_w (more_9 + v33)))]) F (by decide) rfl rfl dX0_added_85 ?_
      cases e24
      exact hJ25
    · have e24 := (if_neg c28).symm.trans e24
      cases e24
      exact hJ25
  obtain ⟨b12, e13, e10⟩ := fx_bnd e10
  have hT14 : b12 = true → fx_J M G Λ 8 52 [some (2, this_0), some (6, town_0), some (13, day_0), some (0, hour_0), some (0, person_0), some (0, thing_0), some (0, v1), some (0, (fx_w (v3 * v7)))] [] h := fun c22 => by
    have e10 := (if_pos c22).symm.trans e10
    refine fx_iinc (pc := 52) (ls' := [some (2, this_0), some (6, town_0), some (13, day_0), some (0, hour_0), some (0, person_0), some (0, thing_0), some (0, v1), some (0, (fx_w ((fx_w (v3 * v7)) + 2)))]) F (by decide) rfl rfl rfl dX0_added_52 ?_
    cases e10
    exact hJ11
  have hF15 : ¬ b12 = true → fx_J M G Λ 8 55 [some (2, this_0), some (6, town_0), some (13, day_0), some (0, hour_0), some (0, person_0), some (0, thing_0), some (0, v1), some (0, (fx_w (v3 * v7)))] [] h := fun c22 => by
    have e10 := (if_neg c22).symm.trans e10
    cases e10
    exact hJ11
  refine fx_iload (pc := 29) F rfl dX0_added_29 ?_
  refine fx_iconst (pc := 31) F ⟨by decide, by decide⟩ dX0_added_31 ?_
  refine fx_neq (pc := 32) F 55 (by decide) dX0_added_32 (fun c16 => ?_) (fun c16 => ?_)
  · have e13 := (if_pos c16).symm.trans e13
    refine fx_aload_n (pc := 35) (t := 0) F 0 rfl rfl dX0_added_35 ?_
    refine fx_aload_n (pc := 36) (t := 0) F 0 rfl rfl dX0_added_36 ?_
    refine fx_aload_n (pc := 37) (t := 11) F 2 rfl rfl dX0_added_37 ?_
    refine fx_iload_n (pc := 38) F 3 rfl rfl dX0_added_38 ?_
    obtain ⟨v17, e18, e13⟩ := fx_bnd e13
    refine fx_cV (pc := 39) F 0 kC_X0 [(13, day_0), (0, hour_0)] this_0 [(2, this_0)] (m_X0_aheadOf Fu Λ this_0 day_0 hour_0 h _ e18) kD_X0_aheadOf kI_X0_aheadOf rfl wM_X0_59 ⟨rfl, rfl⟩ ⟨by decide, by decide⟩ (Nat.le_of_ble_eq_true rfl) rfl dX0_added_39 ?_
    refine fx_iload (pc := 42) F rfl dX0_added_42 ?_
    refine fx_iload (pc := 44) F rfl dX0_added_44 ?_
    obtain ⟨v19, e20, e13⟩ := fx_bnd e13
    refine fx_cV (pc := 46) F 0 kC_X0 [(10, v17), (0, person_0), (0, thing_0)] this_0 [] (m_X0_wasDone Fu Λ this_0 v17 person_0 thing_0 h _ e20) kD_X0_wasDone kI_X0_wasDone rfl wM_X0_88 ⟨rfl, rfl⟩ ⟨by decide, by decide⟩ (Nat.le_of_ble_eq_true rfl) rfl dX0_added_46 ?_
    refine fx_nzne (pc := 49) F 55 (by decide) dX0_added_49 (fun c21 => ?_) (fun c21 => ?_)
    · have e13 := (if_pos c21).symm.trans e13
      cases e13
      exact hT14 (by decide)
    · have e13 := (if_neg c21).symm.trans e13
      cases e13
      exact hF15 (by decide)
  · have e13 := (if_neg c16).symm.trans e13
    cases e13
    exact hF15 (by decide)
def s_X1_setPricesToAll_2 (Fu : Nat) (Λ : fx_L) (this_12 : Int) (town_13 : Int) (court_14 : Int) (person_15 : Int) (hour_16 : Int) : Int × fx_H → Option ((Int × fx_H) ⊕ (Int × fx_H)) := fun (t_10, h11) =>
  if t_10 < (h11 town_13 0) then
    (fx_rr Λ (fx_tg Λ town_13 9) person_15).bind fun v19 =>
    (fx_rd Λ h11 v19 t_10).bind fun v21 =>
    if 0 < v21 then
      (fx_rr Λ (fx_tg Λ this_12 12) person_15).bind fun v24 =>
      (f_X0_added Fu Λ court_14 town_13 (fx_tg Λ this_12 0) hour_16 person_15 t_10 h11).bind fun v26 =>
      (fx_wr Λ h11 v24 (fx_w ((fx_w (hour_16 * 10)) + t_10)) v26).bind fun h28 =>
      some (.inl ((fx_w (t_10 + 1)), h28))
    else
      some (.inl ((fx_w (t_10 + 1)), h11))
  else
    some (.inr (t_10, h11))
def s_X1_setPricesToAll_1 (Fu : Nat) (Λ : fx_L) (this_3 : Int) (town_4 : Int) (court_5 : Int) (person_6 : Int) (hours_7 : Int) : Int × fx_H → Option ((Int × fx_H) ⊕ (Int × fx_H)) := fun (hour_1, h2) =>
  if hour_1 < hours_7 then
    Option.bind (fx_loop (s_X1_setPricesToAll_2 Fu Λ this_3 town_4 court_5 person_6 hour_1) Fu (0, h2)) fun (t_45, h46) =>
    some (.inl ((fx_w (hour_1 + 1)), h46))
  else
    some (.inr (hour_1, h2))
def f_X1_setPricesToAll (Fu : Nat) (Λ : fx_L) (this_0 : Int) (town_0 : Int) (court_0 : Int) (person_0 : Int) (hours_0 : Int) (h : fx_H) : Option (fx_H) :=
  Option.bind (fx_loop (s_X1_setPricesToAll_1 Fu Λ this_0 town_0 court_0 person_0 hours_0) Fu (0, h)) fun (hour_92, h93) =>
  some h93
abbrev rm_X1_setPricesToAll : Room := { frames := 4, cells := 0, slots := 0, locals := 91 }
set_option maxRecDepth 100000 in
set_option maxHeartbeats 4000000 in
theorem m_X1_setPricesToAll (Fu : Nat) (Λ : fx_L) (this_0 : Int) (town_0 : Int) (court_0 : Int) (person_0 : Int) (hours_0 : Int) (h : fx_H) (ho : fx_H) (hf : f_X1_setPricesToAll Fu Λ this_0 town_0 court_0 person_0 hours_0 h = some ho) : fx_Met yX1_setPricesToAll cX1_setPricesToAll 7 none rm_X1_setPricesToAll Λ [(3, this_0), (6, town_0), (2, court_0), (0, person_0), (0, hours_0)] h none ho := by
  unfold f_X1_setPricesToAll at hf
  refine fx_enter (ls := [some (3, this_0), some (6, town_0), some (2, court_0), some (0, person_0), some (0, hours_0), none, none]) (by decide) (Nat.le_of_ble_eq_true rfl) rfl (fun M G F K => ?_)
  refine fx_iconst (pc := 0) F ⟨by decide, by decide⟩ dX1_setPricesToAll_0 ?_
  refine fx_istore (pc := 1) (ls' := [some (3, this_0), some (6, town_0), some (2, court_0), some (0, person_0), some (0, hours_0), some (0, 0), none]) F (by decide) rfl rfl dX1_setPricesToAll_1 ?_
  obtain ⟨⟨hour_92, h93⟩, e94, hf⟩ := fx_bnd hf
  have hE95 : fx_J M G Λ 7 75 [some (3, this_0), some (6, town_0), some (2, court_0), some (0, person_0), some (0, hours_0), some (0, hour_92), none] [] h93 := by
    cases hf
    exact fx_vreturn (pc := 75) F K dX1_setPricesToAll_75
  refine fx_loop_J (Hd := (fun z : Int × fx_H => fx_J M G Λ 7 3 [some (3, this_0), some (6, town_0), some (2, court_0), some (0, person_0), some (0, hours_0), some (0, z.1), none] [] z.2)) (Ex := (fun z : Int × fx_H => fx_J M G Λ 7 75 [some (3, this_0), some (6, town_0), some (2, court_0), some (0, person_0), some (0, hours_0), some (0, z.1), none] [] z.2)) ?_ Fu _ _ e94 hE95
  rintro ⟨hour_49, h50⟩ o9 eq51 ih ex
  unfold s_X1_setPricesToAll_1 at eq51
  show fx_J M G Λ 7 3 [some (3, this_0), some (6, town_0), some (2, court_0), some (0, person_0), some (0, hours_0), some (0, hour_49), none] [] h50
  refine fx_iload (pc := 3) F rfl dX1_setPricesToAll_3 ?_
  refine fx_iload (pc := 5) F rfl dX1_setPricesToAll_5 ?_
  refine fx_nlt (pc := 7) F 75 (by decide) dX1_setPricesToAll_7 (fun c52 => ?_) (fun c52 => ?_)
  · have eq51 := (if_pos c52).symm.trans eq51
    refine fx_iconst (pc := 10) F ⟨by decide, by decide⟩ dX1_setPricesToAll_10 ?_
    refine fx_istore (pc := 11) (ls' := [some (3, this_0), some (6, town_0), some (2, court_0), some (0, person_0), some (0, hours_0), some (0, hour_49), some (0, 0)]) F (by decide) rfl rfl dX1_setPricesToAll_11 ?_
    obtain ⟨⟨t_88, h89⟩, e90, eq51⟩ := fx_bnd eq51
    have hE91 : fx_J M G Λ 7 69 [some (3, this_0), some (6, town_0), some (2, court_0), some (0, person_0), some (0, hours_0), some (0, hour_49), some (0, t_88)] [] h89 := by
      refine fx_iinc (pc := 69) (ls' := [some (3, this_0), some (6, town_0), some (2, court_0), some (0, person_0), some (0, hours_0), some (0, (fx_w (hour_49 + 1))), some (0, t_88)]) F (by decide) rfl rfl rfl dX1_setPricesToAll_69 ?_
      refine fx_goto (pc := 72) F 3 (by decide) dX1_setPricesToAll_72 ?_
      cases eq51
      refine fx_drop (ls' := [some (3, this_0), some (6, town_0), some (2, court_0), some (0, person_0), some (0, hours_0), some (0, (fx_w (hour_49 + 1))), none]) ⟨rfl, rfl, rfl, rfl, rfl, rfl, trivial⟩ ?_
      exact ih _ rfl
    refine fx_loop_J (Hd := (fun z : Int × fx_H => fx_J M G Λ 7 13 [some (3, this_0), some (6, town_0), some (2, court_0), some (0, person_0), some (0, hours_0), some (0, hour_49), some (0, z.1)] [] z.2)) (Ex := (fun z : Int × fx_H => fx_J M G Λ 7 69 [some (3, this_0), some (6, town_0), some (2, court_0), some (0, person_0), some (0, hours_0), some (0, hour_49), some (0, z.1)] [] z.2)) ?_ Fu _ _ e90 hE91
    rintro ⟨t_73, h74⟩ o9 eq75 ih ex
    unfold s_X1_setPricesToAll_2 at eq75
    show fx_J M G Λ 7 13 [some (3, this_0), some (6, town_0), some (2, court_0), some (0, person_0), some (0, hours_0), some (0, hour_49), some (0, t_73)] [] h74
    refine fx_iload (pc := 13) F rfl dX1_setPricesToAll_13 ?_
    refine fx_aload_n (pc := 15) (t := 4) F 1 rfl rfl dX1_setPricesToAll_15 ?_
    refine fx_gI (pc := 16) F 4 0 0 rfl kC_X4 rfl wF_X1_141 dX1_setPricesToAll_16 ?_
    refine fx_nlt (pc := 19) F 69 (by decide) dX1_setPricesToAll_19 (fun c76 => ?_) (fun c76 => ?_)
    · have eq75 := (if_pos c76).symm.trans eq75
      refine fx_aload_n (pc := 22) (t := 4) F 1 rfl rfl dX1_setPricesToAll_22 ?_
      refine fx_gR (pc := 23) F 4 9 9 11 rfl kC_X4 (by decide) rfl wF_X1_148 dX1_setPricesToAll_23 ?_
      refine fx_iload_n (pc := 26) F 3 rfl rfl dX1_setPricesToAll_26 ?_
      obtain ⟨v77, e78, eq75⟩ := fx_bnd eq75
      refine fx_raldG (pc := 27) F e78 dX1_setPricesToAll_27 ?_
      refine fx_iload (pc := 28) F rfl dX1_setPricesToAll_28 ?_
      obtain ⟨v79, e80, eq75⟩ := fx_bnd eq75
      refine fx_raldI (pc := 30) F e80 dX1_setPricesToAll_30 ?_
      refine fx_nzgt (pc := 31) F 63 (by decide) dX1_setPricesToAll_31 (fun c81 => ?_) (fun c81 => ?_)
      · have eq75 := (if_pos c81).symm.trans eq75
        refine fx_aload_n (pc := 34) (t := 1) F 0 rfl rfl dX1_setPricesToAll_34 ?_
        refine fx_gR (pc := 35) F 1 12 12 11 rfl kC_X1 (by decide) rfl wF_X1_45 dX1_setPricesToAll_35 ?_
        refine fx_iload_n (pc := 38) F 3 rfl rfl dX1_setPricesToAll_38 ?_
        obtain ⟨v82, e83, eq75⟩ := fx_bnd eq75
        refine fx_raldG (pc := 39) F e83 dX1_setPricesToAll_39 ?_
        refine fx_iload (pc := 40) F rfl dX1_setPricesToAll_40 ?_
        refine fx_bipush (pc := 42) F ⟨by decide, by decide⟩ (by decide) dX1_setPricesToAll_42 ?_
        refine fx_imul (pc := 44) F dX1_setPricesToAll_44 ?_
        refine fx_iload (pc := 45) F rfl dX1_setPricesToAll_45 ?_
        refine fx_iadd (pc := 47) F dX1_setPricesToAll_47 ?_
        refine fx_aload_n (pc := 48) (t := 0) F 2 rfl rfl dX1_setPricesToAll_48 ?_
        refine fx_aload_n (pc := 49) (t := 4) F 1 rfl rfl dX1_setPricesToAll_49 ?_
        refine fx_aload_n (pc := 50) (t := 1) F 0 rfl rfl dX1_setPricesToAll_50 ?_
        refine fx_gR (pc := 51) F 1 0 0 11 rfl kC_X1 (by decide) rfl wF_X1_11 dX1_setPricesToAll_51 ?_
        refine fx_iload (pc := 54) F rfl dX1_setPricesToAll_54 ?_
        refine fx_iload_n (pc := 56) F 3 rfl rfl dX1_setPricesToAll_56 ?_
        refine fx_iload (pc := 57) F rfl dX1_setPricesToAll_57 ?_
        obtain ⟨v84, e85, eq75⟩ := fx_bnd eq75
        refine fx_cV (pc := 59) F 0 kC_X0 [(6, town_0), (13, (fx_tg Λ this_0 0)), (0, hour_49), (0, person_0), (0, t_73)] court_0 [(0, (fx_w ((fx_w (hour_49 * 10)) + t_73))), (10, v82)] (m_X0_added Fu Λ court_0 town_0 (fx_tg Λ this_0 0) hour_49 person_0 t_73 h74 _ e85) kD_X0_added kI_X0_added rfl wM_X1_151 ⟨rfl, rfl⟩ ⟨by decide, by decide⟩ (Nat.le_of_ble_eq_true rfl) rfl dX1_setPricesToAll_59 ?_
        obtain ⟨h86, e87, eq75⟩ := fx_bnd eq75
        refine fx_rastI (pc := 62) F e87 dX1_setPricesToAll_62 ?_
        refine fx_iinc (pc := 63) (ls' := [some (3, this_0), some (6, town_0), some (2, court_0), some (0, person_0), some (0, hours_0), some (0, hour_49), some (0, (fx_w (t_73 + 1)))]) F (by decide) rfl rfl rfl dX1_setPricesToAll_63 ?_
        refine fx_goto (pc := 66) F 13 (by decide) dX1_setPricesToAll_66 ?_
        cases eq75
        exact ih _ rfl
      · have eq75 := (if_neg c81).symm.trans eq75
        refine fx_iinc (pc := 63) (ls' := [some (3, this_0), some (6, town_0), some (2, court_0), some (0, person_0), some (0, hours_0), some (0, hour_49), some (0, (fx_w (t_73 + 1)))]) F (by decide) rfl rfl rfl dX1_setPricesToAll_63 ?_
        refine fx_goto (pc := 66) F 13 (by decide) dX1_setPricesToAll_66 ?_
        cases eq75
        exact ih _ rfl
    · have eq75 := (if_neg c76).symm.trans eq75
      cases eq75
      exact ex _ rfl
  · have eq51 := (if_neg c52).symm.trans eq51
    cases eq51
    exact ex _ rfl
def f_X1_startPerson (Fu : Nat) (Λ : fx_L) (this_0 : Int) (town_0 : Int) (court_0 : Int) (person_0 : Int) (fines_0 : Int) (hours_0 : Int) (h : fx_H) : Option (fx_H) :=
  (fx_wr Λ h (fx_tg Λ this_0 9) person_0 (-1)).bind fun h1 =>
  (fx_wr Λ h1 (fx_tg Λ this_0 10) person_0 fines_0).bind fun h3 =>
  (f_X1_setPricesToAll Fu Λ this_0 town_0 court_0 person_0 hours_0 h3).bind fun h5 =>
  some h5
abbrev rm_X1_startPerson : Room := { frames := 5, cells := 0, slots := 0, locals := 117 }
set_option maxRecDepth 100000 in
set_option maxHeartbeats 4000000 in
theorem m_X1_startPerson (Fu : Nat) (Λ : fx_L) (this_0 : Int) (town_0 : Int) (court_0 : Int) (person_0 : Int) (fines_0 : Int) (hours_0 : Int) (h : fx_H) (ho : fx_H) (hf : f_X1_startPerson Fu Λ this_0 town_0 court_0 person_0 fines_0 hours_0 h = some ho) : fx_Met yX1_startPerson cX1_startPerson 6 none rm_X1_startPerson Λ [(3, this_0), (6, town_0), (2, court_0), (0, person_0), (0, fines_0), (0, hours_0)] h none ho := by
  unfold f_X1_startPerson at hf
  refine fx_enter (ls := [some (3, this_0), some (6, town_0), some (2, court_0), some (0, person_0), some (0, fines_0), some (0, hours_0)]) (by decide) (Nat.le_of_ble_eq_true rfl) rfl (fun M G F K => ?_)
  refine fx_aload_n (pc := 0) (t := 1) F 0 rfl rfl dX1_startPerson_0 ?_
  refine fx_gR (pc := 1) F 1 9 9 8 rfl kC_X1 (by decide) rfl wF_X1_36 dX1_startPerson_1 ?_
  refine fx_iload_n (pc := 4) F 3 rfl rfl dX1_startPerson_4 ?_
  refine fx_iconst (pc := 5) F ⟨by decide, by decide⟩ dX1_startPerson_5 ?_
  obtain ⟨h1, e2, hf⟩ := fx_bnd hf
  refine fx_rastI (pc := 6) F e2 dX1_startPerson_6 ?_
  refine fx_aload_n (pc := 7) (t := 1) F 0 rfl rfl dX1_startPerson_7 ?_
  refine fx_gR (pc := 8) F 1 10 10 8 rfl kC_X1 (by decide) rfl wF_X1_39 dX1_startPerson_8 ?_
  refine fx_iload_n (pc := 11) F 3 rfl rfl dX1_startPerson_11 ?_
  refine fx_iload (pc := 12) F rfl dX1_startPerson_12 ?_
  obtain ⟨h3, e4, hf⟩ := fx_bnd hf
  refine fx_rastI (pc := 14) F e4 dX1_startPerson_14 ?_
  refine fx_aload_n (pc := 15) (t := 1) F 0 rfl rfl dX1_startPerson_15 ?_
  refine fx_aload_n (pc := 16) (t := 4) F 1 rfl rfl dX1_startPerson_16 ?_
  refine fx_aload_n (pc := 17) (t := 0) F 2 rfl rfl dX1_startPerson_17 ?_
  refine fx_iload_n (pc := 18) F 3 rfl rfl dX1_startPerson_18 ?_
  refine fx_iload (pc := 19) F rfl dX1_startPerson_19 ?_
  obtain ⟨h5, e6, hf⟩ := fx_bnd hf
  refine fx_cVv (pc := 21) F 1 kC_X1 [(6, town_0), (2, court_0), (0, person_0), (0, hours_0)] this_0 [] (m_X1_setPricesToAll Fu Λ this_0 town_0 court_0 person_0 hours_0 h3 _ e6) kD_X1_setPricesToAll kI_X1_setPricesToAll rfl wM_X1_163 ⟨rfl, rfl⟩ ⟨by decide, by decide⟩ (Nat.le_of_ble_eq_true rfl) rfl dX1_startPerson_21 ?_
  cases hf
  exact fx_vreturn (pc := 24) F K dX1_startPerson_24
