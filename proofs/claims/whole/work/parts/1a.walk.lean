def f_X5_within (Fu : Nat) (Λ : fx_L) (v_0 : Int) (low_0 : Int) (high_0 : Int) (h : fx_H) : Option (Int) :=
  Option.bind (
    if ((low_0 ≤ v_0) ∧ (v_0 ≤ high_0)) then
      some (1 : Int)
    else
      some (0 : Int)
  ) fun v1 =>
  (fx_zb v1).bind fun z9 =>
  some z9
abbrev rm_X5_within : Room := { frames := 0, cells := 0, slots := 0, locals := 0 }
set_option maxRecDepth 100000 in
set_option maxHeartbeats 4000000 in
theorem m_X5_within (Fu : Nat) (Λ : fx_L) (v_0 : Int) (low_0 : Int) (high_0 : Int) (h : fx_H) (r : Int) (hf : f_X5_within Fu Λ v_0 low_0 high_0 h = some r) : fx_Met yX5_within cX5_within 3 (some .boolean) rm_X5_within Λ [(0, v_0), (0, low_0), (0, high_0)] h (some (0, r)) h := by
  unfold f_X5_within at hf
  refine fx_enter (ls := [some (0, v_0), some (0, low_0), some (0, high_0)]) (by decide) (Nat.le_of_ble_eq_true rfl) rfl (fun M G F K => ?_)
  obtain ⟨v1, e2, hf⟩ := fx_bnd hf
  have hJ3 : fx_J M G Λ 3 15 [some (0, v_0), some (0, low_0), some (0, high_0)] [(0, v1)] h := by
    obtain ⟨z9, e10, hf⟩ := fx_bnd hf
    obtain ⟨e10, hzz9⟩ := fx_zb_use e10
    refine fx_top (X := fx_X) e10 ?_
    cases hf
    exact fx_zreturn (pc := 15) F hzz9 K dX5_within_15
  refine fx_iload_n (pc := 0) F 0 rfl rfl dX5_within_0 ?_
  refine fx_iload_n (pc := 1) F 1 rfl rfl dX5_within_1 ?_
  have hT4 : (((low_0 ≤ v_0) ∧ (v_0 ≤ high_0))) → fx_J M G Λ 3 10 [some (0, v_0), some (0, low_0), some (0, high_0)] [] h := fun c8 => by
    have e2 := (if_pos c8).symm.trans e2
    refine fx_iconst (pc := 10) F ⟨by decide, by decide⟩ dX5_within_10 ?_
    cases e2
    refine fx_goto (pc := 11) F 15 (by decide) dX5_within_11 ?_
    exact hJ3
  have hF5 : ¬ (((low_0 ≤ v_0) ∧ (v_0 ≤ high_0))) → fx_J M G Λ 3 14 [some (0, v_0), some (0, low_0), some (0, high_0)] [] h := fun c8 => by
    have e2 := (if_neg c8).symm.trans e2
    refine fx_iconst (pc := 14) F ⟨by decide, by decide⟩ dX5_within_14 ?_
    cases e2
    exact hJ3
  refine fx_nge (pc := 2) F 14 (by decide) dX5_within_2 (fun c6 => ?_) (fun c6 => ?_)
  · refine fx_iload_n (pc := 5) F 0 rfl rfl dX5_within_5 ?_
    refine fx_iload_n (pc := 6) F 2 rfl rfl dX5_within_6 ?_
    refine fx_nle (pc := 7) F 14 (by decide) dX5_within_7 (fun c7 => ?_) (fun c7 => ?_)
    · exact hT4 ⟨c6, c7⟩
    · exact hF5 (fun q => c7 q.2)
  · exact hF5 (fun q => c6 q.1)
def f_X4_hasThing (Fu : Nat) (Λ : fx_L) (this_0 : Int) (thing_0 : Int) (h : fx_H) : Option (Int) :=
  (f_X5_within Fu Λ thing_0 0 (fx_w ((h this_0 0) - 1)) h).bind fun v1 =>
  (fx_zb v1).bind fun z3 =>
  some z3
abbrev rm_X4_hasThing : Room := { frames := 1, cells := 0, slots := 0, locals := 22 }
set_option maxRecDepth 100000 in
set_option maxHeartbeats 4000000 in
theorem m_X4_hasThing (Fu : Nat) (Λ : fx_L) (this_0 : Int) (thing_0 : Int) (h : fx_H) (r : Int) (hf : f_X4_hasThing Fu Λ this_0 thing_0 h = some r) : fx_Met yX4_hasThing cX4_hasThing 2 (some .boolean) rm_X4_hasThing Λ [(6, this_0), (0, thing_0)] h (some (0, r)) h := by
  unfold f_X4_hasThing at hf
  refine fx_enter (ls := [some (6, this_0), some (0, thing_0)]) (by decide) (Nat.le_of_ble_eq_true rfl) rfl (fun M G F K => ?_)
  refine fx_iload_n (pc := 0) F 1 rfl rfl dX4_hasThing_0 ?_
  refine fx_iconst (pc := 1) F ⟨by decide, by decide⟩ dX4_hasThing_1 ?_
  refine fx_aload_n (pc := 2) (t := 4) F 0 rfl rfl dX4_hasThing_2 ?_
  refine fx_gI (pc := 3) F 4 0 0 rfl kC_X4 rfl wF_X4_41 dX4_hasThing_3 ?_
  refine fx_iconst (pc := 6) F ⟨by decide, by decide⟩ dX4_hasThing_6 ?_
  refine fx_isub (pc := 7) F dX4_hasThing_7 ?_
  obtain ⟨v1, e2, hf⟩ := fx_bnd hf
  refine fx_cN (pc := 8) F [(0, thing_0), (0, 0), (0, (fx_w ((h this_0 0) - 1)))] [] (m_X5_within Fu Λ thing_0 0 (fx_w ((h this_0 0) - 1)) h _ e2) kD_X5_within wSt_X5_within (by decide) ⟨rfl, rfl⟩ ⟨by decide, by decide⟩ (Nat.le_of_ble_eq_true rfl) rfl dX4_hasThing_8 ?_
  obtain ⟨z3, e4, hf⟩ := fx_bnd hf
  obtain ⟨e4, hzz3⟩ := fx_zb_use e4
  refine fx_top (X := fx_X) e4 ?_
  cases hf
  exact fx_zreturn (pc := 11) F hzz3 K dX4_hasThing_11
def f_X5_refuseBad (Fu : Nat) (Λ : fx_L) (this_0 : Int) (answer_0 : Int) (h : fx_H) : Option (Int × fx_H) :=
  some (answer_0, (fx_up h this_0 10 (fx_w ((h this_0 10) + 1))))
abbrev rm_X5_refuseBad : Room := { frames := 0, cells := 0, slots := 0, locals := 0 }
set_option maxRecDepth 100000 in
set_option maxHeartbeats 4000000 in
theorem m_X5_refuseBad (Fu : Nat) (Λ : fx_L) (this_0 : Int) (answer_0 : Int) (h : fx_H) (r : Int) (ho : fx_H) (hf : f_X5_refuseBad Fu Λ this_0 answer_0 h = some (r, ho)) : fx_Met yX5_refuseBad cX5_refuseBad 2 (some .int) rm_X5_refuseBad Λ [(7, this_0), (0, answer_0)] h (some (0, r)) ho := by
  unfold f_X5_refuseBad at hf
  refine fx_enter (ls := [some (7, this_0), some (0, answer_0)]) (by decide) (Nat.le_of_ble_eq_true rfl) rfl (fun M G F K => ?_)
  refine fx_aload_n (pc := 0) (t := 5) F 0 rfl rfl dX5_refuseBad_0 ?_
  refine fx_dup (pc := 1) F (show (7 : Nat) ≠ 1 by decide) dX5_refuseBad_1 ?_
  refine fx_gI (pc := 2) F 5 10 10 rfl kC_X5 rfl wF_X5_241 dX5_refuseBad_2 ?_
  refine fx_iconst (pc := 5) F ⟨by decide, by decide⟩ dX5_refuseBad_5 ?_
  refine fx_iadd (pc := 6) F dX5_refuseBad_6 ?_
  refine fx_pI (pc := 7) F 5 10 10 rfl kC_X5 rfl rfl (by decide +kernel) wF_X5_241 dX5_refuseBad_7 ?_
  refine fx_iload_n (pc := 10) F 1 rfl rfl dX5_refuseBad_10 ?_
  cases hf
  exact fx_ireturn (pc := 11) F K dX5_refuseBad_11
def f_X5_refuseFull (Fu : Nat) (Λ : fx_L) (this_0 : Int) (h : fx_H) : Option (Int × fx_H) :=
  some ((-4), (fx_up h this_0 12 (fx_w ((h this_0 12) + 1))))
abbrev rm_X5_refuseFull : Room := { frames := 0, cells := 0, slots := 0, locals := 0 }
set_option maxRecDepth 100000 in
set_option maxHeartbeats 4000000 in
theorem m_X5_refuseFull (Fu : Nat) (Λ : fx_L) (this_0 : Int) (h : fx_H) (r : Int) (ho : fx_H) (hf : f_X5_refuseFull Fu Λ this_0 h = some (r, ho)) : fx_Met yX5_refuseFull cX5_refuseFull 1 (some .int) rm_X5_refuseFull Λ [(7, this_0)] h (some (0, r)) ho := by
  unfold f_X5_refuseFull at hf
  refine fx_enter (ls := [some (7, this_0)]) (by decide) (Nat.le_of_ble_eq_true rfl) rfl (fun M G F K => ?_)
  refine fx_aload_n (pc := 0) (t := 5) F 0 rfl rfl dX5_refuseFull_0 ?_
  refine fx_dup (pc := 1) F (show (7 : Nat) ≠ 1 by decide) dX5_refuseFull_1 ?_
  refine fx_gI (pc := 2) F 5 12 12 rfl kC_X5 rfl wF_X5_247 dX5_refuseFull_2 ?_
  refine fx_iconst (pc := 5) F ⟨by decide, by decide⟩ dX5_refuseFull_5 ?_
  refine fx_iadd (pc := 6) F dX5_refuseFull_6 ?_
  refine fx_pI (pc := 7) F 5 12 12 rfl kC_X5 rfl rfl (by decide +kernel) wF_X5_247 dX5_refuseFull_7 ?_
  refine fx_bipush (pc := 10) F ⟨by decide, by decide⟩ (by decide) dX5_refuseFull_10 ?_
  cases hf
  exact fx_ireturn (pc := 12) F K dX5_refuseFull_12
def f_X4_addThing (Fu : Nat) (Λ : fx_L) (this_0 : Int) (above_0 : Int) (h : fx_H) : Option (fx_H) :=
  if (h this_0 0) < 9 then
    (fx_wr Λ h (fx_tg Λ this_0 6) (h this_0 0) above_0).bind fun h2 =>
    some (fx_up h2 this_0 0 (fx_w ((h2 this_0 0) + 1)))
  else
    some h
abbrev rm_X4_addThing : Room := { frames := 0, cells := 0, slots := 0, locals := 0 }
set_option maxRecDepth 100000 in
set_option maxHeartbeats 4000000 in
theorem m_X4_addThing (Fu : Nat) (Λ : fx_L) (this_0 : Int) (above_0 : Int) (h : fx_H) (ho : fx_H) (hf : f_X4_addThing Fu Λ this_0 above_0 h = some ho) : fx_Met yX4_addThing cX4_addThing 2 none rm_X4_addThing Λ [(6, this_0), (0, above_0)] h none ho := by
  unfold f_X4_addThing at hf
  refine fx_enter (ls := [some (6, this_0), some (0, above_0)]) (by decide) (Nat.le_of_ble_eq_true rfl) rfl (fun M G F K => ?_)
  refine fx_aload_n (pc := 0) (t := 4) F 0 rfl rfl dX4_addThing_0 ?_
  refine fx_gI (pc := 1) F 4 0 0 rfl kC_X4 rfl wF_X4_41 dX4_addThing_1 ?_
  refine fx_bipush (pc := 4) F ⟨by decide, by decide⟩ (by decide) dX4_addThing_4 ?_
  refine fx_nlt (pc := 6) F 29 (by decide) dX4_addThing_6 (fun c1 => ?_) (fun c1 => ?_)
  · have hf := (if_pos c1).symm.trans hf
    refine fx_aload_n (pc := 9) (t := 4) F 0 rfl rfl dX4_addThing_9 ?_
    refine fx_gR (pc := 10) F 4 6 6 8 rfl kC_X4 (by decide) rfl wF_X4_9 dX4_addThing_10 ?_
    refine fx_aload_n (pc := 13) (t := 4) F 0 rfl rfl dX4_addThing_13 ?_
    refine fx_gI (pc := 14) F 4 0 0 rfl kC_X4 rfl wF_X4_41 dX4_addThing_14 ?_
    refine fx_iload_n (pc := 17) F 1 rfl rfl dX4_addThing_17 ?_
    obtain ⟨h2, e3, hf⟩ := fx_bnd hf
    refine fx_rastI (pc := 18) F e3 dX4_addThing_18 ?_
    refine fx_aload_n (pc := 19) (t := 4) F 0 rfl rfl dX4_addThing_19 ?_
    refine fx_dup (pc := 20) F (show (6 : Nat) ≠ 1 by decide) dX4_addThing_20 ?_
    refine fx_gI (pc := 21) F 4 0 0 rfl kC_X4 rfl wF_X4_41 dX4_addThing_21 ?_
    refine fx_iconst (pc := 24) F ⟨by decide, by decide⟩ dX4_addThing_24 ?_
    refine fx_iadd (pc := 25) F dX4_addThing_25 ?_
    refine fx_pI (pc := 26) F 4 0 0 rfl kC_X4 rfl rfl (by decide +kernel) wF_X4_41 dX4_addThing_26 ?_
    cases hf
    exact fx_vreturn (pc := 29) F K dX4_addThing_29
  · have hf := (if_neg c1).symm.trans hf
    cases hf
    exact fx_vreturn (pc := 29) F K dX4_addThing_29
def f_X5_thing (Fu : Nat) (Λ : fx_L) (this_0 : Int) (under_0 : Int) (h : fx_H) : Option (Int × fx_H) :=
  Option.bind (
    if ¬ under_0 = (-1) then
      (f_X4_hasThing Fu Λ (fx_tg Λ this_0 0) under_0 h).bind fun v6 =>
      if v6 = 0 then
        some true
      else
        some false
    else
      some false
  ) fun b1 =>
  if b1 = true then
    (f_X5_refuseBad Fu Λ this_0 (-2) h).bind fun (v10, h11) =>
    some (v10, h11)
  else
    if 9 ≤ (h (fx_tg Λ this_0 0) 0) then
      (f_X5_refuseFull Fu Λ this_0 h).bind fun (v14, h15) =>
      some (v14, h15)
    else
      (f_X4_addThing Fu Λ (fx_tg Λ this_0 0) under_0 (fx_up h this_0 13 (fx_w ((h this_0 13) + 1)))).bind fun h17 =>
      some ((fx_w ((h17 (fx_tg Λ this_0 0) 0) - 1)), h17)
abbrev rm_X5_thing : Room := { frames := 2, cells := 0, slots := 0, locals := 43 }
set_option maxRecDepth 100000 in
set_option maxHeartbeats 4000000 in
theorem m_X5_thing (Fu : Nat) (Λ : fx_L) (this_0 : Int) (under_0 : Int) (h : fx_H) (r : Int) (ho : fx_H) (hf : f_X5_thing Fu Λ this_0 under_0 h = some (r, ho)) : fx_Met yX5_thing cX5_thing 2 (some .int) rm_X5_thing Λ [(7, this_0), (0, under_0)] h (some (0, r)) ho := by
  unfold f_X5_thing at hf
  refine fx_enter (ls := [some (7, this_0), some (0, under_0)]) (by decide) (Nat.le_of_ble_eq_true rfl) rfl (fun M G F K => ?_)
  obtain ⟨b1, e2, hf⟩ := fx_bnd hf
  have hT3 : b1 = true → fx_J M G Λ 2 16 [some (7, this_0), some (0, under_0)] [] h := fun c9 => by
    have hf := (if_pos c9).symm.trans hf
    refine fx_aload_n (pc := 16) (t := 5) F 0 rfl rfl dX5_thing_16 ?_
    refine fx_bipush (pc := 17) F ⟨by decide, by decide⟩ (by decide) dX5_thing_17 ?_
    obtain ⟨⟨v10, h11⟩, e12, hf⟩ := fx_bnd hf
    refine fx_cV (pc := 19) F 5 kC_X5 [(0, (-2))] this_0 [] (m_X5_refuseBad Fu Λ this_0 (-2) h _ _ e12) kD_X5_refuseBad kI_X5_refuseBad rfl wM_X5_63 ⟨rfl, rfl⟩ ⟨by decide, by decide⟩ (Nat.le_of_ble_eq_true rfl) rfl dX5_thing_19 ?_
    cases hf
    exact fx_ireturn (pc := 22) F K dX5_thing_22
  have hF4 : ¬ b1 = true → fx_J M G Λ 2 23 [some (7, this_0), some (0, under_0)] [] h := fun c9 => by
    have hf := (if_neg c9).symm.trans hf
    refine fx_aload_n (pc := 23) (t := 5) F 0 rfl rfl dX5_thing_23 ?_
    refine fx_gR (pc := 24) F 5 0 0 4 rfl kC_X5 (by decide) rfl wF_X5_10 dX5_thing_24 ?_
    refine fx_gI (pc := 27) F 4 0 0 rfl kC_X4 rfl wF_X5_67 dX5_thing_27 ?_
    refine fx_bipush (pc := 30) F ⟨by decide, by decide⟩ (by decide) dX5_thing_30 ?_
    refine fx_nge (pc := 32) F 40 (by decide) dX5_thing_32 (fun c13 => ?_) (fun c13 => ?_)
    · have hf := (if_pos c13).symm.trans hf
      refine fx_aload_n (pc := 35) (t := 5) F 0 rfl rfl dX5_thing_35 ?_
      obtain ⟨⟨v14, h15⟩, e16, hf⟩ := fx_bnd hf
      refine fx_cV (pc := 36) F 5 kC_X5 [] this_0 [] (m_X5_refuseFull Fu Λ this_0 h _ _ e16) kD_X5_refuseFull kI_X5_refuseFull rfl wM_X5_71 ⟨rfl, rfl⟩ ⟨by decide, by decide⟩ (Nat.le_of_ble_eq_true rfl) rfl dX5_thing_36 ?_
      cases hf
      exact fx_ireturn (pc := 39) F K dX5_thing_39
    · have hf := (if_neg c13).symm.trans hf
      refine fx_aload_n (pc := 40) (t := 5) F 0 rfl rfl dX5_thing_40 ?_
      refine fx_dup (pc := 41) F (show (7 : Nat) ≠ 1 by decide) dX5_thing_41 ?_
      refine fx_gI (pc := 42) F 5 13 13 rfl kC_X5 rfl wF_X5_75 dX5_thing_42 ?_
      refine fx_iconst (pc := 45) F ⟨by decide, by decide⟩ dX5_thing_45 ?_
      refine fx_iadd (pc := 46) F dX5_thing_46 ?_
      refine fx_pI (pc := 47) F 5 13 13 rfl kC_X5 rfl rfl (by decide +kernel) wF_X5_75 dX5_thing_47 ?_
      refine fx_aload_n (pc := 50) (t := 5) F 0 rfl rfl dX5_thing_50 ?_
      refine fx_gR (pc := 51) F 5 0 0 4 rfl kC_X5 (by decide) rfl wF_X5_10 dX5_thing_51 ?_
      refine fx_iload_n (pc := 54) F 1 rfl rfl dX5_thing_54 ?_
      obtain ⟨h17, e18, hf⟩ := fx_bnd hf
      refine fx_cVv (pc := 55) F 4 kC_X4 [(0, under_0)] (fx_tg Λ this_0 0) [] (m_X4_addThing Fu Λ (fx_tg Λ this_0 0) under_0 (fx_up h this_0 13 (fx_w ((h this_0 13) + 1))) _ e18) kD_X4_addThing kI_X4_addThing rfl wM_X5_78 ⟨rfl, rfl⟩ ⟨by decide, by decide⟩ (Nat.le_of_ble_eq_true rfl) rfl dX5_thing_55 ?_
      refine fx_aload_n (pc := 58) (t := 5) F 0 rfl rfl dX5_thing_58 ?_
      refine fx_gR (pc := 59) F 5 0 0 4 rfl kC_X5 (by decide) rfl wF_X5_10 dX5_thing_59 ?_
      refine fx_gI (pc := 62) F 4 0 0 rfl kC_X4 rfl wF_X5_67 dX5_thing_62 ?_
      refine fx_iconst (pc := 65) F ⟨by decide, by decide⟩ dX5_thing_65 ?_
      refine fx_isub (pc := 66) F dX5_thing_66 ?_
      cases hf
      exact fx_ireturn (pc := 67) F K dX5_thing_67
  refine fx_iload_n (pc := 0) F 1 rfl rfl dX5_thing_0 ?_
  refine fx_iconst (pc := 1) F ⟨by decide, by decide⟩ dX5_thing_1 ?_
  refine fx_nne (pc := 2) F 23 (by decide) dX5_thing_2 (fun c5 => ?_) (fun c5 => ?_)
  · have e2 := (if_pos c5).symm.trans e2
    refine fx_aload_n (pc := 5) (t := 5) F 0 rfl rfl dX5_thing_5 ?_
    refine fx_gR (pc := 6) F 5 0 0 4 rfl kC_X5 (by decide) rfl wF_X5_10 dX5_thing_6 ?_
    refine fx_iload_n (pc := 9) F 1 rfl rfl dX5_thing_9 ?_
    obtain ⟨v6, e7, e2⟩ := fx_bnd e2
    refine fx_cV (pc := 10) F 4 kC_X4 [(0, under_0)] (fx_tg Λ this_0 0) [] (m_X4_hasThing Fu Λ (fx_tg Λ this_0 0) under_0 h _ e7) kD_X4_hasThing kI_X4_hasThing rfl wM_X5_59 ⟨rfl, rfl⟩ ⟨by decide, by decide⟩ (Nat.le_of_ble_eq_true rfl) rfl dX5_thing_10 ?_
    refine fx_nzeq (pc := 13) F 23 (by decide) dX5_thing_13 (fun c8 => ?_) (fun c8 => ?_)
    · have e2 := (if_pos c8).symm.trans e2
      cases e2
      exact hT3 (by decide)
    · have e2 := (if_neg c8).symm.trans e2
      cases e2
      exact hF4 (by decide)
  · have e2 := (if_neg c5).symm.trans e2
    cases e2
    exact hF4 (by decide)
def s_J7_fill_53178_1 (Fu : Nat) (Λ : fx_L) (a_3 : Int) (val_4 : Int) (len_5 : Int) : Int × fx_H → Option ((Int × fx_H) ⊕ (Int × fx_H)) := fun (i_1, h2) =>
  if i_1 < len_5 then
    (fx_wr Λ h2 a_3 i_1 val_4).bind fun h8 =>
    some (.inl ((fx_w (i_1 + 1)), h8))
  else
    some (.inr (i_1, h2))
def f_J7_fill_53178 (Fu : Nat) (Λ : fx_L) (a_0 : Int) (val_0 : Int) (h : fx_H) : Option (fx_H) :=
  Option.bind (fx_loop (s_J7_fill_53178_1 Fu Λ a_0 val_0 (fx_ln Λ a_0)) Fu (0, h)) fun (i_16, h17) =>
  some h17
abbrev rm_J7_fill_53178 : Room := { frames := 0, cells := 0, slots := 0, locals := 0 }
set_option maxRecDepth 100000 in
set_option maxHeartbeats 4000000 in
theorem m_J7_fill_53178 (Fu : Nat) (Λ : fx_L) (a_0 : Int) (val_0 : Int) (h : fx_H) (ho : fx_H) (hf : f_J7_fill_53178 Fu Λ a_0 val_0 h = some ho) : fx_Met yJ7_fill_53178 cJ7_fill_53178 4 none rm_J7_fill_53178 Λ [(10, a_0), (0, val_0)] h none ho := by
  unfold f_J7_fill_53178 at hf
  refine fx_enter (ls := [some (10, a_0), some (0, val_0), none, none]) (by decide) (Nat.le_of_ble_eq_true rfl) rfl (fun M G F K => ?_)
  refine fx_iconst (pc := 0) F ⟨by decide, by decide⟩ dJ7_fill_53178_0 ?_
  refine fx_istore_n (pc := 1) (ls' := [some (10, a_0), some (0, val_0), some (0, 0), none]) F 2 rfl (by decide) rfl rfl dJ7_fill_53178_1 ?_
  refine fx_aload_n (pc := 2) (t := 8) F 0 rfl rfl dJ7_fill_53178_2 ?_
  refine fx_alenI (pc := 3) F dJ7_fill_53178_3 ?_
  refine fx_istore_n (pc := 4) (ls' := [some (10, a_0), some (0, val_0), some (0, 0), some (0, (fx_ln Λ a_0))]) F 3 rfl (by decide) rfl rfl dJ7_fill_53178_4 ?_
  obtain ⟨⟨i_16, h17⟩, e18, hf⟩ := fx_bnd hf
  have hE19 : fx_J M G Λ 4 20 [some (10, a_0), some (0, val_0), some (0, i_16), some (0, (fx_ln Λ a_0))] [] h17 := by
    cases hf
    exact fx_vreturn (pc := 20) F K dJ7_fill_53178_20
  refine fx_loop_J (Hd := (fun z : Int × fx_H => fx_J M G Λ 4 5 [some (10, a_0), some (0, val_0), some (0, z.1), some (0, (fx_ln Λ a_0))] [] z.2)) (Ex := (fun z : Int × fx_H => fx_J M G Λ 4 20 [some (10, a_0), some (0, val_0), some (0, z.1), some (0, (fx_ln Λ a_0))] [] z.2)) ?_ Fu _ _ e18 hE19
  rintro ⟨i_10, h11⟩ o9 eq12 ih ex
  unfold s_J7_fill_53178_1 at eq12
  show fx_J M G Λ 4 5 [some (10, a_0), some (0, val_0), some (0, i_10), some (0, (fx_ln Λ a_0))] [] h11
  refine fx_iload_n (pc := 5) F 2 rfl rfl dJ7_fill_53178_5 ?_
  refine fx_iload_n (pc := 6) F 3 rfl rfl dJ7_fill_53178_6 ?_
  refine fx_nlt (pc := 7) F 20 (by decide) dJ7_fill_53178_7 (fun c13 => ?_) (fun c13 => ?_)
  · have eq12 := (if_pos c13).symm.trans eq12
    refine fx_aload_n (pc := 10) (t := 8) F 0 rfl rfl dJ7_fill_53178_10 ?_
    refine fx_iload_n (pc := 11) F 2 rfl rfl dJ7_fill_53178_11 ?_
    refine fx_iload_n (pc := 12) F 1 rfl rfl dJ7_fill_53178_12 ?_
    obtain ⟨h14, e15, eq12⟩ := fx_bnd eq12
    refine fx_rastI (pc := 13) F e15 dJ7_fill_53178_13 ?_
    refine fx_iinc (pc := 14) (ls' := [some (10, a_0), some (0, val_0), some (0, (fx_w (i_10 + 1))), some (0, (fx_ln Λ a_0))]) F (by decide) rfl rfl rfl dJ7_fill_53178_14 ?_
    refine fx_goto (pc := 17) F 5 (by decide) dJ7_fill_53178_17 ?_
    cases eq12
    exact ih _ rfl
  · have eq12 := (if_neg c13).symm.trans eq12
    cases eq12
    exact ex _ rfl
def s_X4_settle_1 (Fu : Nat) (Λ : fx_L) (this_7 : Int) : Int × fx_H → Option ((Int × fx_H) ⊕ (Int × fx_H)) := fun (hour_5, h6) =>
  if hour_5 < 5 then
    (fx_rr Λ (fx_tg Λ this_7 8) hour_5).bind fun v10 =>
    (f_J7_fill_53178 Fu Λ v10 9 h6).bind fun h12 =>
    some (.inl ((fx_w (hour_5 + 1)), h12))
  else
    some (.inr (hour_5, h6))
def s_X4_settle_2 (Fu : Nat) (Λ : fx_L) (this_28 : Int) : Int × fx_H → Option ((Int × fx_H) ⊕ (Int × fx_H)) := fun (person_26, h27) =>
  if person_26 < 5 then
    (fx_rr Λ (fx_tg Λ this_28 9) person_26).bind fun v31 =>
    (f_J7_fill_53178 Fu Λ v31 0 h27).bind fun h33 =>
    some (.inl ((fx_w (person_26 + 1)), h33))
  else
    some (.inr (person_26, h27))
def f_X4_settle (Fu : Nat) (Λ : fx_L) (this_0 : Int) (n_0 : Int) (h_0 : Int) (h : fx_H) : Option (fx_H) :=
  (f_J7_fill_53178 Fu Λ (fx_tg Λ this_0 7) 0 (fx_up (fx_up (fx_up (fx_up h this_0 2 n_0) this_0 3 h_0) this_0 4 0) this_0 5 0)).bind fun h1 =>
  (f_J7_fill_53178 Fu Λ (fx_tg Λ this_0 10) 0 h1).bind fun h3 =>
  Option.bind (fx_loop (s_X4_settle_1 Fu Λ this_0) Fu (0, h3)) fun (hour_22, h23) =>
  Option.bind (fx_loop (s_X4_settle_2 Fu Λ this_0) Fu (0, h23)) fun (person_43, h44) =>
  some h44
abbrev rm_X4_settle : Room := { frames := 1, cells := 0, slots := 0, locals := 23 }
set_option maxRecDepth 100000 in
set_option maxHeartbeats 4000000 in
theorem m_X4_settle (Fu : Nat) (Λ : fx_L) (this_0 : Int) (n_0 : Int) (h_0 : Int) (h : fx_H) (ho : fx_H) (hf : f_X4_settle Fu Λ this_0 n_0 h_0 h = some ho) : fx_Met yX4_settle cX4_settle 4 none rm_X4_settle Λ [(6, this_0), (0, n_0), (0, h_0)] h none ho := by
  unfold f_X4_settle at hf
  refine fx_enter (ls := [some (6, this_0), some (0, n_0), some (0, h_0), none]) (by decide) (Nat.le_of_ble_eq_true rfl) rfl (fun M G F K => ?_)
  refine fx_aload_n (pc := 0) (t := 4) F 0 rfl rfl dX4_settle_0 ?_
  refine fx_iload_n (pc := 1) F 1 rfl rfl dX4_settle_1 ?_
  refine fx_pI (pc := 2) F 4 2 2 rfl kC_X4 rfl rfl (by decide +kernel) wF_X4_52 dX4_settle_2 ?_
  refine fx_aload_n (pc := 5) (t := 4) F 0 rfl rfl dX4_settle_5 ?_
  refine fx_iload_n (pc := 6) F 2 rfl rfl dX4_settle_6 ?_
  refine fx_pI (pc := 7) F 4 3 3 rfl kC_X4 rfl rfl (by decide +kernel) wF_X4_55 dX4_settle_7 ?_
  refine fx_aload_n (pc := 10) (t := 4) F 0 rfl rfl dX4_settle_10 ?_
  refine fx_iconst (pc := 11) F ⟨by decide, by decide⟩ dX4_settle_11 ?_
  refine fx_pI (pc := 12) F 4 4 4 rfl kC_X4 rfl rfl (by decide +kernel) wF_X4_58 dX4_settle_12 ?_
  refine fx_aload_n (pc := 15) (t := 4) F 0 rfl rfl dX4_settle_15 ?_
  refine fx_iconst (pc := 16) F ⟨by decide, by decide⟩ dX4_settle_16 ?_
  refine fx_pI (pc := 17) F 4 5 5 rfl kC_X4 rfl rfl (by decide +kernel) wF_X4_61 dX4_settle_17 ?_
  refine fx_aload_n (pc := 20) (t := 4) F 0 rfl rfl dX4_settle_20 ?_
  refine fx_gR (pc := 21) F 4 7 7 8 rfl kC_X4 (by decide) rfl wF_X4_15 dX4_settle_21 ?_
  refine fx_iconst (pc := 24) F ⟨by decide, by decide⟩ dX4_settle_24 ?_
  obtain ⟨h1, e2, hf⟩ := fx_bnd hf
  refine fx_cSv (pc := 25) F [(10, (fx_tg Λ this_0 7)), (0, 0)] [] (m_J7_fill_53178 Fu Λ (fx_tg Λ this_0 7) 0 (fx_up (fx_up (fx_up (fx_up h this_0 2 n_0) this_0 3 h_0) this_0 4 0) this_0 5 0) _ e2) kD_J7_fill_53178 wSt_J7_fill_53178 wM_X4_64 ⟨rfl, rfl⟩ ⟨by decide, by decide⟩ (Nat.le_of_ble_eq_true rfl) rfl dX4_settle_25 ?_
  refine fx_aload_n (pc := 28) (t := 4) F 0 rfl rfl dX4_settle_28 ?_
  refine fx_gR (pc := 29) F 4 10 10 8 rfl kC_X4 (by decide) rfl wF_X4_26 dX4_settle_29 ?_
  refine fx_iconst (pc := 32) F ⟨by decide, by decide⟩ dX4_settle_32 ?_
  obtain ⟨h3, e4, hf⟩ := fx_bnd hf
  refine fx_cSv (pc := 33) F [(10, (fx_tg Λ this_0 10)), (0, 0)] [] (m_J7_fill_53178 Fu Λ (fx_tg Λ this_0 10) 0 h1 _ e4) kD_J7_fill_53178 wSt_J7_fill_53178 wM_X4_64 ⟨rfl, rfl⟩ ⟨by decide, by decide⟩ (Nat.le_of_ble_eq_true rfl) rfl dX4_settle_33 ?_
  refine fx_iconst (pc := 36) F ⟨by decide, by decide⟩ dX4_settle_36 ?_
  refine fx_istore_n (pc := 37) (ls' := [some (6, this_0), some (0, n_0), some (0, h_0), some (0, 0)]) F 3 rfl (by decide) rfl rfl dX4_settle_37 ?_
  obtain ⟨⟨hour_22, h23⟩, e24, hf⟩ := fx_bnd hf
  have hE25 : fx_J M G Λ 4 60 [some (6, this_0), some (0, n_0), some (0, h_0), some (0, hour_22)] [] h23 := by
    refine fx_iconst (pc := 60) F ⟨by decide, by decide⟩ dX4_settle_60 ?_
    refine fx_istore_n (pc := 61) (ls' := [some (6, this_0), some (0, n_0), some (0, h_0), some (0, 0)]) F 3 rfl (by decide) rfl rfl dX4_settle_61 ?_
    obtain ⟨⟨person_43, h44⟩, e45, hf⟩ := fx_bnd hf
    have hE46 : fx_J M G Λ 4 83 [some (6, this_0), some (0, n_0), some (0, h_0), some (0, person_43)] [] h44 := by
      cases hf
      exact fx_vreturn (pc := 83) F K dX4_settle_83
    refine fx_loop_J (Hd := (fun z : Int × fx_H => fx_J M G Λ 4 62 [some (6, this_0), some (0, n_0), some (0, h_0), some (0, z.1)] [] z.2)) (Ex := (fun z : Int × fx_H => fx_J M G Λ 4 83 [some (6, this_0), some (0, n_0), some (0, h_0), some (0, z.1)] [] z.2)) ?_ Fu _ _ e45 hE46
    rintro ⟨person_35, h36⟩ o9 eq37 ih ex
    unfold s_X4_settle_2 at eq37
    show fx_J M G Λ 4 62 [some (6, this_0), some (0, n_0), some (0, h_0), some (0, person_35)] [] h36
    refine fx_iload_n (pc := 62) F 3 rfl rfl dX4_settle_62 ?_
    refine fx_iconst (pc := 63) F ⟨by decide, by decide⟩ dX4_settle_63 ?_
    refine fx_nlt (pc := 64) F 83 (by decide) dX4_settle_64 (fun c38 => ?_) (fun c38 => ?_)
    · have eq37 := (if_pos c38).symm.trans eq37
      refine fx_aload_n (pc := 67) (t := 4) F 0 rfl rfl dX4_settle_67 ?_
      refine fx_gR (pc := 68) F 4 9 9 11 rfl kC_X4 (by decide) rfl wF_X4_23 dX4_settle_68 ?_
      refine fx_iload_n (pc := 71) F 3 rfl rfl dX4_settle_71 ?_
      obtain ⟨v39, e40, eq37⟩ := fx_bnd eq37
      refine fx_raldG (pc := 72) F e40 dX4_settle_72 ?_
      refine fx_iconst (pc := 73) F ⟨by decide, by decide⟩ dX4_settle_73 ?_
      obtain ⟨h41, e42, eq37⟩ := fx_bnd eq37
      refine fx_cSv (pc := 74) F [(10, v39), (0, 0)] [] (m_J7_fill_53178 Fu Λ v39 0 h36 _ e42) kD_J7_fill_53178 wSt_J7_fill_53178 wM_X4_64 ⟨rfl, rfl⟩ ⟨by decide, by decide⟩ (Nat.le_of_ble_eq_true rfl) rfl dX4_settle_74 ?_
      refine fx_iinc (pc := 77) (ls' := [some (6, this_0), some (0, n_0), some (0, h_0), some (0, (fx_w (person_35 + 1)))]) F (by decide) rfl rfl rfl dX4_settle_77 ?_
      refine fx_goto (pc := 80) F 62 (by decide) dX4_settle_80 ?_
      cases eq37
      exact ih _ rfl
    · have eq37 := (if_neg c38).symm.trans eq37
      cases eq37
      exact ex _ rfl
  refine fx_loop_J (Hd := (fun z : Int × fx_H => fx_J M G Λ 4 38 [some (6, this_0), some (0, n_0), some (0, h_0), some (0, z.1)] [] z.2)) (Ex := (fun z : Int × fx_H => fx_J M G Λ 4 60 [some (6, this_0), some (0, n_0), some (0, h_0), some (0, z.1)] [] z.2)) ?_ Fu _ _ e24 hE25
  rintro ⟨hour_14, h15⟩ o9 eq16 ih ex
  unfold s_X4_settle_1 at eq16
  show fx_J M G Λ 4 38 [some (6, this_0), some (0, n_0), some (0, h_0), some (0, hour_14)] [] h15
  refine fx_iload_n (pc := 38) F 3 rfl rfl dX4_settle_38 ?_
  refine fx_iconst (pc := 39) F ⟨by decide, by decide⟩ dX4_settle_39 ?_
  refine fx_nlt (pc := 40) F 60 (by decide) dX4_settle_40 (fun c17 => ?_) (fun c17 => ?_)
  · have eq16 := (if_pos c17).symm.trans eq16
    refine fx_aload_n (pc := 43) (t := 4) F 0 rfl rfl dX4_settle_43 ?_
    refine fx_gR (pc := 44) F 4 8 8 11 rfl kC_X4 (by decide) rfl wF_X4_20 dX4_settle_44 ?_
    refine fx_iload_n (pc := 47) F 3 rfl rfl dX4_settle_47 ?_
    obtain ⟨v18, e19, eq16⟩ := fx_bnd eq16
    refine fx_raldG (pc := 48) F e19 dX4_settle_48 ?_
    refine fx_bipush (pc := 49) F ⟨by decide, by decide⟩ (by decide) dX4_settle_49 ?_
    obtain ⟨h20, e21, eq16⟩ := fx_bnd eq16
    refine fx_cSv (pc := 51) F [(10, v18), (0, 9)] [] (m_J7_fill_53178 Fu Λ v18 9 h15 _ e21) kD_J7_fill_53178 wSt_J7_fill_53178 wM_X4_64 ⟨rfl, rfl⟩ ⟨by decide, by decide⟩ (Nat.le_of_ble_eq_true rfl) rfl dX4_settle_51 ?_
    refine fx_iinc (pc := 54) (ls' := [some (6, this_0), some (0, n_0), some (0, h_0), some (0, (fx_w (hour_14 + 1)))]) F (by decide) rfl rfl rfl dX4_settle_54 ?_
    refine fx_goto (pc := 57) F 38 (by decide) dX4_settle_57 ?_
    cases eq16
    exact ih _ rfl
  · have eq16 := (if_neg c17).symm.trans eq16
    cases eq16
    exact ex _ rfl
def f_X5_town (Fu : Nat) (Λ : fx_L) (this_0 : Int) (n_0 : Int) (h_0 : Int) (h : fx_H) : Option (Int × fx_H) :=
  Option.bind (
    (f_X5_within Fu Λ n_0 1 5 h).bind fun v5 =>
    if v5 = 0 then
      some true
    else
      (f_X5_within Fu Λ h_0 1 5 h).bind fun v8 =>
      if v8 = 0 then
        some true
      else
        some false
  ) fun b1 =>
  if b1 = true then
    (f_X5_refuseBad Fu Λ this_0 (-2) h).bind fun (v12, h13) =>
    some (v12, h13)
  else
    (f_X4_settle Fu Λ (fx_tg Λ this_0 0) n_0 h_0 (fx_up h this_0 13 (fx_w ((h this_0 13) + 1)))).bind fun h15 =>
    some (1, h15)
abbrev rm_X5_town : Room := { frames := 2, cells := 0, slots := 0, locals := 46 }
set_option maxRecDepth 100000 in
set_option maxHeartbeats 4000000 in
theorem m_X5_town (Fu : Nat) (Λ : fx_L) (this_0 : Int) (n_0 : Int) (h_0 : Int) (h : fx_H) (r : Int) (ho : fx_H) (hf : f_X5_town Fu Λ this_0 n_0 h_0 h = some (r, ho)) : fx_Met yX5_town cX5_town 3 (some .int) rm_X5_town Λ [(7, this_0), (0, n_0), (0, h_0)] h (some (0, r)) ho := by
  unfold f_X5_town at hf
  refine fx_enter (ls := [some (7, this_0), some (0, n_0), some (0, h_0)]) (by decide) (Nat.le_of_ble_eq_true rfl) rfl (fun M G F K => ?_)
  obtain ⟨b1, e2, hf⟩ := fx_bnd hf
  have hT3 : b1 = true → fx_J M G Λ 3 18 [some (7, this_0), some (0, n_0), some (0, h_0)] [] h := fun c11 => by
    have hf := (if_pos c11).symm.trans hf
    refine fx_aload_n (pc := 18) (t := 5) F 0 rfl rfl dX5_town_18 ?_
    refine fx_bipush (pc := 19) F ⟨by decide, by decide⟩ (by decide) dX5_town_19 ?_
    obtain ⟨⟨v12, h13⟩, e14, hf⟩ := fx_bnd hf
    refine fx_cV (pc := 21) F 5 kC_X5 [(0, (-2))] this_0 [] (m_X5_refuseBad Fu Λ this_0 (-2) h _ _ e14) kD_X5_refuseBad kI_X5_refuseBad rfl wM_X5_63 ⟨rfl, rfl⟩ ⟨by decide, by decide⟩ (Nat.le_of_ble_eq_true rfl) rfl dX5_town_21 ?_
    cases hf
    exact fx_ireturn (pc := 24) F K dX5_town_24
  have hF4 : ¬ b1 = true → fx_J M G Λ 3 25 [some (7, this_0), some (0, n_0), some (0, h_0)] [] h := fun c11 => by
    have hf := (if_neg c11).symm.trans hf
    refine fx_aload_n (pc := 25) (t := 5) F 0 rfl rfl dX5_town_25 ?_
    refine fx_dup (pc := 26) F (show (7 : Nat) ≠ 1 by decide) dX5_town_26 ?_
    refine fx_gI (pc := 27) F 5 13 13 rfl kC_X5 rfl wF_X5_75 dX5_town_27 ?_
    refine fx_iconst (pc := 30) F ⟨by decide, by decide⟩ dX5_town_30 ?_
    refine fx_iadd (pc := 31) F dX5_town_31 ?_
    refine fx_pI (pc := 32) F 5 13 13 rfl kC_X5 rfl rfl (by decide +kernel) wF_X5_75 dX5_town_32 ?_
    refine fx_aload_n (pc := 35) (t := 5) F 0 rfl rfl dX5_town_35 ?_
    refine fx_gR (pc := 36) F 5 0 0 4 rfl kC_X5 (by decide) rfl wF_X5_10 dX5_town_36 ?_
    refine fx_iload_n (pc := 39) F 1 rfl rfl dX5_town_39 ?_
    refine fx_iload_n (pc := 40) F 2 rfl rfl dX5_town_40 ?_
    obtain ⟨h15, e16, hf⟩ := fx_bnd hf
    refine fx_cVv (pc := 41) F 4 kC_X4 [(0, n_0), (0, h_0)] (fx_tg Λ this_0 0) [] (m_X4_settle Fu Λ (fx_tg Λ this_0 0) n_0 h_0 (fx_up h this_0 13 (fx_w ((h this_0 13) + 1))) _ e16) kD_X4_settle kI_X4_settle rfl wM_X5_86 ⟨rfl, rfl⟩ ⟨by decide, by decide⟩ (Nat.le_of_ble_eq_true rfl) rfl dX5_town_41 ?_
    refine fx_iconst (pc := 44) F ⟨by decide, by decide⟩ dX5_town_44 ?_
    cases hf
    exact fx_ireturn (pc := 45) F K dX5_town_45
  refine fx_iload_n (pc := 0) F 1 rfl rfl dX5_town_0 ?_
  refine fx_iconst (pc := 1) F ⟨by decide, by decide⟩ dX5_town_1 ?_
  refine fx_iconst (pc := 2) F ⟨by decide, by decide⟩ dX5_town_2 ?_
  obtain ⟨v5, e6, e2⟩ := fx_bnd e2
  refine fx_cS (pc := 3) F [(0, n_0), (0, 1), (0, 5)] [] (m_X5_within Fu Λ n_0 1 5 h _ e6) kD_X5_within wSt_X5_within wM_X5_82 ⟨rfl, rfl⟩ ⟨by decide, by decide⟩ (Nat.le_of_ble_eq_true rfl) rfl dX5_town_3 ?_
  refine fx_jzeq (pc := 6) F 18 (by decide) dX5_town_6 (fun c7 => ?_) (fun c7 => ?_)
  · have e2 := (if_pos c7).symm.trans e2
    cases e2
    exact hT3 (by decide)
  · have e2 := (if_neg c7).symm.trans e2
    refine fx_iload_n (pc := 9) F 2 rfl rfl dX5_town_9 ?_
    refine fx_iconst (pc := 10) F ⟨by decide, by decide⟩ dX5_town_10 ?_
    refine fx_iconst (pc := 11) F ⟨by decide, by decide⟩ dX5_town_11 ?_
    obtain ⟨v8, e9, e2⟩ := fx_bnd e2
    refine fx_cS (pc := 12) F [(0, h_0), (0, 1), (0, 5)] [] (m_X5_within Fu Λ h_0 1 5 h _ e9) kD_X5_within wSt_X5_within wM_X5_82 ⟨rfl, rfl⟩ ⟨by decide, by decide⟩ (Nat.le_of_ble_eq_true rfl) rfl dX5_town_12 ?_
    refine fx_nzeq (pc := 15) F 25 (by decide) dX5_town_15 (fun c10 => ?_) (fun c10 => ?_)
    · have e2 := (if_pos c10).symm.trans e2
      cases e2
      exact hT3 (by decide)
    · have e2 := (if_neg c10).symm.trans e2
      cases e2
      exact hF4 (by decide)
def f_X4_hasHour (Fu : Nat) (Λ : fx_L) (this_0 : Int) (hour_0 : Int) (h : fx_H) : Option (Int) :=
  (f_X5_within Fu Λ hour_0 0 (fx_w ((h this_0 3) - 1)) h).bind fun v1 =>
  (fx_zb v1).bind fun z3 =>
  some z3
abbrev rm_X4_hasHour : Room := { frames := 1, cells := 0, slots := 0, locals := 22 }
set_option maxRecDepth 100000 in
set_option maxHeartbeats 4000000 in
theorem m_X4_hasHour (Fu : Nat) (Λ : fx_L) (this_0 : Int) (hour_0 : Int) (h : fx_H) (r : Int) (hf : f_X4_hasHour Fu Λ this_0 hour_0 h = some r) : fx_Met yX4_hasHour cX4_hasHour 2 (some .boolean) rm_X4_hasHour Λ [(6, this_0), (0, hour_0)] h (some (0, r)) h := by
  unfold f_X4_hasHour at hf
  refine fx_enter (ls := [some (6, this_0), some (0, hour_0)]) (by decide) (Nat.le_of_ble_eq_true rfl) rfl (fun M G F K => ?_)
  refine fx_iload_n (pc := 0) F 1 rfl rfl dX4_hasHour_0 ?_
  refine fx_iconst (pc := 1) F ⟨by decide, by decide⟩ dX4_hasHour_1 ?_
  refine fx_aload_n (pc := 2) (t := 4) F 0 rfl rfl dX4_hasHour_2 ?_
  refine fx_gI (pc := 3) F 4 3 3 rfl kC_X4 rfl wF_X4_55 dX4_hasHour_3 ?_
  refine fx_iconst (pc := 6) F ⟨by decide, by decide⟩ dX4_hasHour_6 ?_
  refine fx_isub (pc := 7) F dX4_hasHour_7 ?_
  obtain ⟨v1, e2, hf⟩ := fx_bnd hf
  refine fx_cN (pc := 8) F [(0, hour_0), (0, 0), (0, (fx_w ((h this_0 3) - 1)))] [] (m_X5_within Fu Λ hour_0 0 (fx_w ((h this_0 3) - 1)) h _ e2) kD_X5_within wSt_X5_within (by decide) ⟨rfl, rfl⟩ ⟨by decide, by decide⟩ (Nat.le_of_ble_eq_true rfl) rfl dX4_hasHour_8 ?_
  obtain ⟨z3, e4, hf⟩ := fx_bnd hf
  obtain ⟨e4, hzz3⟩ := fx_zb_use e4
  refine fx_top (X := fx_X) e4 ?_
  cases hf
  exact fx_zreturn (pc := 11) F hzz3 K dX4_hasHour_11
def f_X5_putKind (Fu : Nat) (Λ : fx_L) (this_0 : Int) (hour_0 : Int) (kind_0 : Int) (h : fx_H) : Option (Int × fx_H) :=
  (fx_rd Λ (fx_up h this_0 13 (fx_w ((h this_0 13) + 1))) (fx_tg Λ (fx_tg Λ this_0 0) 7) hour_0).bind fun v1 =>
  (fx_wr Λ (fx_up h this_0 13 (fx_w ((h this_0 13) + 1))) (fx_tg Λ (fx_tg Λ this_0 0) 7) hour_0 kind_0).bind fun h3 =>
  some (v1, h3)
abbrev rm_X5_putKind : Room := { frames := 0, cells := 0, slots := 0, locals := 0 }
set_option maxRecDepth 100000 in
set_option maxHeartbeats 4000000 in
theorem m_X5_putKind (Fu : Nat) (Λ : fx_L) (this_0 : Int) (hour_0 : Int) (kind_0 : Int) (h : fx_H) (r : Int) (ho : fx_H) (hf : f_X5_putKind Fu Λ this_0 hour_0 kind_0 h = some (r, ho)) : fx_Met yX5_putKind cX5_putKind 4 (some .int) rm_X5_putKind Λ [(7, this_0), (0, hour_0), (0, kind_0)] h (some (0, r)) ho := by
  unfold f_X5_putKind at hf
  refine fx_enter (ls := [some (7, this_0), some (0, hour_0), some (0, kind_0), none]) (by decide) (Nat.le_of_ble_eq_true rfl) rfl (fun M G F K => ?_)
  refine fx_aload_n (pc := 0) (t := 5) F 0 rfl rfl dX5_putKind_0 ?_
  refine fx_dup (pc := 1) F (show (7 : Nat) ≠ 1 by decide) dX5_putKind_1 ?_
  refine fx_gI (pc := 2) F 5 13 13 rfl kC_X5 rfl wF_X5_75 dX5_putKind_2 ?_
  refine fx_iconst (pc := 5) F ⟨by decide, by decide⟩ dX5_putKind_5 ?_
  refine fx_iadd (pc := 6) F dX5_putKind_6 ?_
  refine fx_pI (pc := 7) F 5 13 13 rfl kC_X5 rfl rfl (by decide +kernel) wF_X5_75 dX5_putKind_7 ?_
  refine fx_aload_n (pc := 10) (t := 5) F 0 rfl rfl dX5_putKind_10 ?_
  refine fx_gR (pc := 11) F 5 0 0 4 rfl kC_X5 (by decide) rfl wF_X5_10 dX5_putKind_11 ?_
  refine fx_gR (pc := 14) F 4 7 7 8 rfl kC_X4 (by decide) rfl wF_X5_263 dX5_putKind_14 ?_
  refine fx_iload_n (pc := 17) F 1 rfl rfl dX5_putKind_17 ?_
  obtain ⟨v1, e2, hf⟩ := fx_bnd hf
  refine fx_raldI (pc := 18) F e2 dX5_putKind_18 ?_
  refine fx_istore_n (pc := 19) (ls' := [some (7, this_0), some (0, hour_0), some (0, kind_0), some (0, v1)]) F 3 rfl (by decide) rfl rfl dX5_putKind_19 ?_
  refine fx_aload_n (pc := 20) (t := 5) F 0 rfl rfl dX5_putKind_20 ?_
  refine fx_gR (pc := 21) F 5 0 0 4 rfl kC_X5 (by decide) rfl wF_X5_10 dX5_putKind_21 ?_
  refine fx_gR (pc := 24) F 4 7 7 8 rfl kC_X4 (by decide) rfl wF_X5_263 dX5_putKind_24 ?_
  refine fx_iload_n (pc := 27) F 1 rfl rfl dX5_putKind_27 ?_
  refine fx_iload_n (pc := 28) F 2 rfl rfl dX5_putKind_28 ?_
  obtain ⟨h3, e4, hf⟩ := fx_bnd hf
  refine fx_rastI (pc := 29) F e4 dX5_putKind_29 ?_
  refine fx_iload_n (pc := 30) F 3 rfl rfl dX5_putKind_30 ?_
  cases hf
  exact fx_ireturn (pc := 31) F K dX5_putKind_31
def f_X5_putLine (Fu : Nat) (Λ : fx_L) (this_0 : Int) (line_0 : Int) (h : fx_H) : Option (Int × fx_H) :=
  some (((fx_up h this_0 13 (fx_w ((h this_0 13) + 1))) (fx_tg Λ this_0 0) 1), (fx_up (fx_up h this_0 13 (fx_w ((h this_0 13) + 1))) (fx_tg Λ this_0 0) 1 line_0))
abbrev rm_X5_putLine : Room := { frames := 0, cells := 0, slots := 0, locals := 0 }
set_option maxRecDepth 100000 in
set_option maxHeartbeats 4000000 in
theorem m_X5_putLine (Fu : Nat) (Λ : fx_L) (this_0 : Int) (line_0 : Int) (h : fx_H) (r : Int) (ho : fx_H) (hf : f_X5_putLine Fu Λ this_0 line_0 h = some (r, ho)) : fx_Met yX5_putLine cX5_putLine 3 (some .int) rm_X5_putLine Λ [(7, this_0), (0, line_0)] h (some (0, r)) ho := by
  unfold f_X5_putLine at hf
  refine fx_enter (ls := [some (7, this_0), some (0, line_0), none]) (by decide) (Nat.le_of_ble_eq_true rfl) rfl (fun M G F K => ?_)
  refine fx_aload_n (pc := 0) (t := 5) F 0 rfl rfl dX5_putLine_0 ?_
  refine fx_dup (pc := 1) F (show (7 : Nat) ≠ 1 by decide) dX5_putLine_1 ?_
  refine fx_gI (pc := 2) F 5 13 13 rfl kC_X5 rfl wF_X5_75 dX5_putLine_2 ?_
  refine fx_iconst (pc := 5) F ⟨by decide, by decide⟩ dX5_putLine_5 ?_
  refine fx_iadd (pc := 6) F dX5_putLine_6 ?_
  refine fx_pI (pc := 7) F 5 13 13 rfl kC_X5 rfl rfl (by decide +kernel) wF_X5_75 dX5_putLine_7 ?_
  refine fx_aload_n (pc := 10) (t := 5) F 0 rfl rfl dX5_putLine_10 ?_
  refine fx_gR (pc := 11) F 5 0 0 4 rfl kC_X5 (by decide) rfl wF_X5_10 dX5_putLine_11 ?_
  refine fx_gI (pc := 14) F 4 1 1 rfl kC_X4 rfl wF_X5_147 dX5_putLine_14 ?_
  refine fx_istore_n (pc := 17) (ls' := [some (7, this_0), some (0, line_0), some (0, ((fx_up h this_0 13 (fx_w ((h this_0 13) + 1))) (fx_tg Λ this_0 0) 1))]) F 2 rfl (by decide) rfl rfl dX5_putLine_17 ?_
  refine fx_aload_n (pc := 18) (t := 5) F 0 rfl rfl dX5_putLine_18 ?_
  refine fx_gR (pc := 19) F 5 0 0 4 rfl kC_X5 (by decide) rfl wF_X5_10 dX5_putLine_19 ?_
  refine fx_iload_n (pc := 22) F 1 rfl rfl dX5_putLine_22 ?_
  refine fx_pI (pc := 23) F 4 1 1 rfl kC_X4 rfl rfl (by decide +kernel) wF_X5_147 dX5_putLine_23 ?_
  refine fx_iload_n (pc := 26) F 2 rfl rfl dX5_putLine_26 ?_
  cases hf
  exact fx_ireturn (pc := 27) F K dX5_putLine_27
def f_X4_hasPerson (Fu : Nat) (Λ : fx_L) (this_0 : Int) (person_0 : Int) (h : fx_H) : Option (Int) :=
  (f_X5_within Fu Λ person_0 0 (fx_w ((h this_0 2) - 1)) h).bind fun v1 =>
  (fx_zb v1).bind fun z3 =>
  some z3
abbrev rm_X4_hasPerson : Room := { frames := 1, cells := 0, slots := 0, locals := 22 }
set_option maxRecDepth 100000 in
set_option maxHeartbeats 4000000 in
theorem m_X4_hasPerson (Fu : Nat) (Λ : fx_L) (this_0 : Int) (person_0 : Int) (h : fx_H) (r : Int) (hf : f_X4_hasPerson Fu Λ this_0 person_0 h = some r) : fx_Met yX4_hasPerson cX4_hasPerson 2 (some .boolean) rm_X4_hasPerson Λ [(6, this_0), (0, person_0)] h (some (0, r)) h := by
  unfold f_X4_hasPerson at hf
  refine fx_enter (ls := [some (6, this_0), some (0, person_0)]) (by decide) (Nat.le_of_ble_eq_true rfl) rfl (fun M G F K => ?_)
  refine fx_iload_n (pc := 0) F 1 rfl rfl dX4_hasPerson_0 ?_
  refine fx_iconst (pc := 1) F ⟨by decide, by decide⟩ dX4_hasPerson_1 ?_
  refine fx_aload_n (pc := 2) (t := 4) F 0 rfl rfl dX4_hasPerson_2 ?_
  refine fx_gI (pc := 3) F 4 2 2 rfl kC_X4 rfl wF_X4_52 dX4_hasPerson_3 ?_
  refine fx_iconst (pc := 6) F ⟨by decide, by decide⟩ dX4_hasPerson_6 ?_
  refine fx_isub (pc := 7) F dX4_hasPerson_7 ?_
  obtain ⟨v1, e2, hf⟩ := fx_bnd hf
  refine fx_cN (pc := 8) F [(0, person_0), (0, 0), (0, (fx_w ((h this_0 2) - 1)))] [] (m_X5_within Fu Λ person_0 0 (fx_w ((h this_0 2) - 1)) h _ e2) kD_X5_within wSt_X5_within (by decide) ⟨rfl, rfl⟩ ⟨by decide, by decide⟩ (Nat.le_of_ble_eq_true rfl) rfl dX4_hasPerson_8 ?_
  obtain ⟨z3, e4, hf⟩ := fx_bnd hf
  obtain ⟨e4, hzz3⟩ := fx_zb_use e4
  refine fx_top (X := fx_X) e4 ?_
  cases hf
  exact fx_zreturn (pc := 11) F hzz3 K dX4_hasPerson_11
def f_X5_putRich (Fu : Nat) (Λ : fx_L) (this_0 : Int) (person_0 : Int) (h : fx_H) : Option (Int × fx_H) :=
  some (((fx_up h this_0 13 (fx_w ((h this_0 13) + 1))) (fx_tg Λ this_0 0) 4), (fx_up (fx_up h this_0 13 (fx_w ((h this_0 13) + 1))) (fx_tg Λ this_0 0) 4 person_0))
abbrev rm_X5_putRich : Room := { frames := 0, cells := 0, slots := 0, locals := 0 }
set_option maxRecDepth 100000 in
set_option maxHeartbeats 4000000 in
theorem m_X5_putRich (Fu : Nat) (Λ : fx_L) (this_0 : Int) (person_0 : Int) (h : fx_H) (r : Int) (ho : fx_H) (hf : f_X5_putRich Fu Λ this_0 person_0 h = some (r, ho)) : fx_Met yX5_putRich cX5_putRich 3 (some .int) rm_X5_putRich Λ [(7, this_0), (0, person_0)] h (some (0, r)) ho := by
  unfold f_X5_putRich at hf
  refine fx_enter (ls := [some (7, this_0), some (0, person_0), none]) (by decide) (Nat.le_of_ble_eq_true rfl) rfl (fun M G F K => ?_)
  refine fx_aload_n (pc := 0) (t := 5) F 0 rfl rfl dX5_putRich_0 ?_
  refine fx_dup (pc := 1) F (show (7 : Nat) ≠ 1 by decide) dX5_putRich_1 ?_
  refine fx_gI (pc := 2) F 5 13 13 rfl kC_X5 rfl wF_X5_75 dX5_putRich_2 ?_
  refine fx_iconst (pc := 5) F ⟨by decide, by decide⟩ dX5_putRich_5 ?_
  refine fx_iadd (pc := 6) F dX5_putRich_6 ?_
  refine fx_pI (pc := 7) F 5 13 13 rfl kC_X5 rfl rfl (by decide +kernel) wF_X5_75 dX5_putRich_7 ?_
  refine fx_aload_n (pc := 10) (t := 5) F 0 rfl rfl dX5_putRich_10 ?_
  refine fx_gR (pc := 11) F 5 0 0 4 rfl kC_X5 (by decide) rfl wF_X5_10 dX5_putRich_11 ?_
  refine fx_gI (pc := 14) F 4 4 4 rfl kC_X4 rfl wF_X5_260 dX5_putRich_14 ?_
  refine fx_istore_n (pc := 17) (ls' := [some (7, this_0), some (0, person_0), some (0, ((fx_up h this_0 13 (fx_w ((h this_0 13) + 1))) (fx_tg Λ this_0 0) 4))]) F 2 rfl (by decide) rfl rfl dX5_putRich_17 ?_
  refine fx_aload_n (pc := 18) (t := 5) F 0 rfl rfl dX5_putRich_18 ?_
  refine fx_gR (pc := 19) F 5 0 0 4 rfl kC_X5 (by decide) rfl wF_X5_10 dX5_putRich_19 ?_
  refine fx_iload_n (pc := 22) F 1 rfl rfl dX5_putRich_22 ?_
  refine fx_pI (pc := 23) F 4 4 4 rfl kC_X4 rfl rfl (by decide +kernel) wF_X5_260 dX5_putRich_23 ?_
  refine fx_iload_n (pc := 26) F 2 rfl rfl dX5_putRich_26 ?_
  cases hf
  exact fx_ireturn (pc := 27) F K dX5_putRich_27
def f_X5_put (Fu : Nat) (Λ : fx_L) (this_0 : Int) (what_0 : Int) (i_0 : Int) (v_0 : Int) (h : fx_H) : Option (Int × fx_H) :=
  if what_0 = 0 then
    Option.bind (
      Option.bind (
        (f_X4_hasHour Fu Λ (fx_tg Λ this_0 0) i_0 h).bind fun v10 =>
        if ¬ v10 = 0 then
          (f_X5_within Fu Λ v_0 0 5 h).bind fun v13 =>
          if ¬ v13 = 0 then
            some true
          else
            some false
        else
          some false
      ) fun b6 =>
      if b6 = true then
        (f_X5_putKind Fu Λ this_0 i_0 v_0 h).bind fun (v17, h18) =>
        some (v17, h18)
      else
        (f_X5_refuseBad Fu Λ this_0 (-2) h).bind fun (v20, h21) =>
        some (v20, h21)
    ) fun (v2, h3) =>
    some (v2, h3)
  else
    if what_0 = 1 then
      Option.bind (
        Option.bind (
          if i_0 = 0 then
            (f_X5_within Fu Λ v_0 0 4 h).bind fun v34 =>
            if ¬ v34 = 0 then
              some true
            else
              some false
          else
            some false
        ) fun b29 =>
        if b29 = true then
          (f_X5_putLine Fu Λ this_0 v_0 h).bind fun (v38, h39) =>
          some (v38, h39)
        else
          (f_X5_refuseBad Fu Λ this_0 (-2) h).bind fun (v41, h42) =>
          some (v41, h42)
      ) fun (v25, h26) =>
      some (v25, h26)
    else
      if what_0 = 2 then
        Option.bind (
          Option.bind (
            if i_0 = 0 then
              (f_X4_hasPerson Fu Λ (fx_tg Λ this_0 0) v_0 h).bind fun v55 =>
              if ¬ v55 = 0 then
                some true
              else
                some false
            else
              some false
          ) fun b50 =>
          if b50 = true then
            (f_X5_putRich Fu Λ this_0 v_0 h).bind fun (v59, h60) =>
            some (v59, h60)
          else
            (f_X5_refuseBad Fu Λ this_0 (-2) h).bind fun (v62, h63) =>
            some (v62, h63)
        ) fun (v46, h47) =>
        some (v46, h47)
      else
        (f_X5_refuseBad Fu Λ this_0 (-2) h).bind fun (v66, h67) =>
        some (v66, h67)
abbrev rm_X5_put : Room := { frames := 2, cells := 0, slots := 0, locals := 43 }
set_option maxRecDepth 100000 in
set_option maxHeartbeats 4000000 in
theorem m_X5_put (Fu : Nat) (Λ : fx_L) (this_0 : Int) (what_0 : Int) (i_0 : Int) (v_0 : Int) (h : fx_H) (r : Int) (ho : fx_H) (hf : f_X5_put Fu Λ this_0 what_0 i_0 v_0 h = some (r, ho)) : fx_Met yX5_put cX5_put 4 (some .int) rm_X5_put Λ [(7, this_0), (0, what_0), (0, i_0), (0, v_0)] h (some (0, r)) ho := by
  unfold f_X5_put at hf
  refine fx_enter (ls := [some (7, this_0), some (0, what_0), some (0, i_0), some (0, v_0)]) (by decide) (Nat.le_of_ble_eq_true rfl) rfl (fun M G F K => ?_)
  refine fx_iload_n (pc := 0) F 1 rfl rfl dX5_put_0 ?_
  by_cases c1 : what_0 = 0
  · have hf := (if_pos c1).symm.trans hf
    have hB23 : fx_J M G Λ 4 28 [some (7, this_0), some (0, what_0), some (0, i_0), some (0, v_0)] [] h := by
      obtain ⟨⟨v2, h3⟩, e4, hf⟩ := fx_bnd hf
      have hJ5 : fx_J M G Λ 4 63 [some (7, this_0), some (0, what_0), some (0, i_0), some (0, v_0)] [(0, v2)] h3 := by
        cases hf
        exact fx_ireturn (pc := 63) F K dX5_put_63
      obtain ⟨b6, e7, e4⟩ := fx_bnd e4
      have hT8 : b6 = true → fx_J M G Λ 4 48 [some (7, this_0), some (0, what_0), some (0, i_0), some (0, v_0)] [] h := fun c16 => by
        have e4 := (if_pos c16).symm.trans e4
        refine fx_aload_n (pc := 48) (t := 5) F 0 rfl rfl dX5_put_48 ?_
        refine fx_iload_n (pc := 49) F 2 rfl rfl dX5_put_49 ?_
        refine fx_iload_n (pc := 50) F 3 rfl rfl dX5_put_50 ?_
        obtain ⟨⟨v17, h18⟩, e19, e4⟩ := fx_bnd e4
        refine fx_cV (pc := 51) F 5 kC_X5 [(0, i_0), (0, v_0)] this_0 [] (m_X5_putKind Fu Λ this_0 i_0 v_0 h _ _ e19) kD_X5_putKind kI_X5_putKind rfl wM_X5_93 ⟨rfl, rfl⟩ ⟨by decide, by decide⟩ (Nat.le_of_ble_eq_true rfl) rfl dX5_put_51 ?_
        cases e4
        refine fx_goto (pc := 54) F 63 (by decide) dX5_put_54 ?_
        exact hJ5
      have hF9 : ¬ b6 = true → fx_J M G Λ 4 57 [some (7, this_0), some (0, what_0), some (0, i_0), some (0, v_0)] [] h := fun c16 => by
        have e4 := (if_neg c16).symm.trans e4
        refine fx_aload_n (pc := 57) (t := 5) F 0 rfl rfl dX5_put_57 ?_
        refine fx_bipush (pc := 58) F ⟨by decide, by decide⟩ (by decide) dX5_put_58 ?_
        obtain ⟨⟨v20, h21⟩, e22, e4⟩ := fx_bnd e4
        refine fx_cV (pc := 60) F 5 kC_X5 [(0, (-2))] this_0 [] (m_X5_refuseBad Fu Λ this_0 (-2) h _ _ e22) kD_X5_refuseBad kI_X5_refuseBad rfl wM_X5_63 ⟨rfl, rfl⟩ ⟨by decide, by decide⟩ (Nat.le_of_ble_eq_true rfl) rfl dX5_put_60 ?_
        cases e4
        exact hJ5
      refine fx_aload_n (pc := 28) (t := 5) F 0 rfl rfl dX5_put_28 ?_
      refine fx_gR (pc := 29) F 5 0 0 4 rfl kC_X5 (by decide) rfl wF_X5_10 dX5_put_29 ?_
      refine fx_iload_n (pc := 32) F 2 rfl rfl dX5_put_32 ?_
      obtain ⟨v10, e11, e7⟩ := fx_bnd e7
      refine fx_cV (pc := 33) F 4 kC_X4 [(0, i_0)] (fx_tg Λ this_0 0) [] (m_X4_hasHour Fu Λ (fx_tg Λ this_0 0) i_0 h _ e11) kD_X4_hasHour kI_X4_hasHour rfl wM_X5_90 ⟨rfl, rfl⟩ ⟨by decide, by decide⟩ (Nat.le_of_ble_eq_true rfl) rfl dX5_put_33 ?_
      refine fx_nzne (pc := 36) F 57 (by decide) dX5_put_36 (fun c12 => ?_) (fun c12 => ?_)
      · have e7 := (if_pos c12).symm.trans e7
        refine fx_iload_n (pc := 39) F 3 rfl rfl dX5_put_39 ?_
        refine fx_iconst (pc := 40) F ⟨by decide, by decide⟩ dX5_put_40 ?_
        refine fx_iconst (pc := 41) F ⟨by decide, by decide⟩ dX5_put_41 ?_
        obtain ⟨v13, e14, e7⟩ := fx_bnd e7
        refine fx_cS (pc := 42) F [(0, v_0), (0, 0), (0, 5)] [] (m_X5_within Fu Λ v_0 0 5 h _ e14) kD_X5_within wSt_X5_within wM_X5_82 ⟨rfl, rfl⟩ ⟨by decide, by decide⟩ (Nat.le_of_ble_eq_true rfl) rfl dX5_put_42 ?_
        refine fx_nzne (pc := 45) F 57 (by decide) dX5_put_45 (fun c15 => ?_) (fun c15 => ?_)
        · have e7 := (if_pos c15).symm.trans e7
          cases e7
          exact hT8 (by decide)
        · have e7 := (if_neg c15).symm.trans e7
          cases e7
          exact hF9 (by decide)
      · have e7 := (if_neg c12).symm.trans e7
        cases e7
        exact hF9 (by decide)
    exact fx_tswI (pc := 1) F 28 0 dX5_put_1 c1 (by decide) rfl (by decide) hB23
  · have hf := (if_neg c1).symm.trans hf
    by_cases c24 : what_0 = 1
    · have hf := (if_pos c24).symm.trans hf
      have hB44 : fx_J M G Λ 4 64 [some (7, this_0), some (0, what_0), some (0, i_0), some (0, v_0)] [] h := by
        obtain ⟨⟨v25, h26⟩, e27, hf⟩ := fx_bnd hf
        have hJ28 : fx_J M G Λ 4 91 [some (7, this_0), some (0, what_0), some (0, i_0), some (0, v_0)] [(0, v25)] h26 := by
          cases hf
          exact fx_ireturn (pc := 91) F K dX5_put_91
        obtain ⟨b29, e30, e27⟩ := fx_bnd e27
        have hT31 : b29 = true → fx_J M G Λ 4 77 [some (7, this_0), some (0, what_0), some (0, i_0), some (0, v_0)] [] h := fun c37 => by
          have e27 := (if_pos c37).symm.trans e27
          refine fx_aload_n (pc := 77) (t := 5) F 0 rfl rfl dX5_put_77 ?_
          refine fx_iload_n (pc := 78) F 3 rfl rfl dX5_put_78 ?_
          obtain ⟨⟨v38, h39⟩, e40, e27⟩ := fx_bnd e27
          refine fx_cV (pc := 79) F 5 kC_X5 [(0, v_0)] this_0 [] (m_X5_putLine Fu Λ this_0 v_0 h _ _ e40) kD_X5_putLine kI_X5_putLine rfl wM_X5_97 ⟨rfl, rfl⟩ ⟨by decide, by decide⟩ (Nat.le_of_ble_eq_true rfl) rfl dX5_put_79 ?_
          cases e27
          refine fx_goto (pc := 82) F 91 (by decide) dX5_put_82 ?_
          exact hJ28
        have hF32 : ¬ b29 = true → fx_J M G Λ 4 85 [some (7, this_0), some (0, what_0), some (0, i_0), some (0, v_0)] [] h := fun c37 => by
          have e27 := (if_neg c37).symm.trans e27
          refine fx_aload_n (pc := 85) (t := 5) F 0 rfl rfl dX5_put_85 ?_
          refine fx_bipush (pc := 86) F ⟨by decide, by decide⟩ (by decide) dX5_put_86 ?_
          obtain ⟨⟨v41, h42⟩, e43, e27⟩ := fx_bnd e27
          refine fx_cV (pc := 88) F 5 kC_X5 [(0, (-2))] this_0 [] (m_X5_refuseBad Fu Λ this_0 (-2) h _ _ e43) kD_X5_refuseBad kI_X5_refuseBad rfl wM_X5_63 ⟨rfl, rfl⟩ ⟨by decide, by decide⟩ (Nat.le_of_ble_eq_true rfl) rfl dX5_put_88 ?_
          cases e27
          exact hJ28
        refine fx_iload_n (pc := 64) F 2 rfl rfl dX5_put_64 ?_
        refine fx_nzeq (pc := 65) F 85 (by decide) dX5_put_65 (fun c33 => ?_) (fun c33 => ?_)
        · have e30 := (if_pos c33).symm.trans e30
          refine fx_iload_n (pc := 68) F 3 rfl rfl dX5_put_68 ?_
          refine fx_iconst (pc := 69) F ⟨by decide, by decide⟩ dX5_put_69 ?_
          refine fx_iconst (pc := 70) F ⟨by decide, by decide⟩ dX5_put_70 ?_
          obtain ⟨v34, e35, e30⟩ := fx_bnd e30
          refine fx_cS (pc := 71) F [(0, v_0), (0, 0), (0, 4)] [] (m_X5_within Fu Λ v_0 0 4 h _ e35) kD_X5_within wSt_X5_within wM_X5_82 ⟨rfl, rfl⟩ ⟨by decide, by decide⟩ (Nat.le_of_ble_eq_true rfl) rfl dX5_put_71 ?_
          refine fx_nzne (pc := 74) F 85 (by decide) dX5_put_74 (fun c36 => ?_) (fun c36 => ?_)
          · have e30 := (if_pos c36).symm.trans e30
            cases e30
            exact hT31 (by decide)
          · have e30 := (if_neg c36).symm.trans e30
            cases e30
            exact hF32 (by decide)
        · have e30 := (if_neg c33).symm.trans e30
          cases e30
          exact hF32 (by decide)
      exact fx_tswI (pc := 1) F 64 1 dX5_put_1 c24 (by decide) rfl (by decide) hB44
    · have hf := (if_neg c24).symm.trans hf
      by_cases c45 : what_0 = 2
      · have hf := (if_pos c45).symm.trans hf
        have hB65 : fx_J M G Λ 4 92 [some (7, this_0), some (0, what_0), some (0, i_0), some (0, v_0)] [] h := by
          obtain ⟨⟨v46, h47⟩, e48, hf⟩ := fx_bnd hf
          have hJ49 : fx_J M G Λ 4 121 [some (7, this_0), some (0, what_0), some (0, i_0), some (0, v_0)] [(0, v46)] h47 := by
            cases hf
            exact fx_ireturn (pc := 121) F K dX5_put_121
          obtain ⟨b50, e51, e48⟩ := fx_bnd e48
          have hT52 : b50 = true → fx_J M G Λ 4 107 [some (7, this_0), some (0, what_0), some (0, i_0), some (0, v_0)] [] h := fun c58 => by
            have e48 := (if_pos c58).symm.trans e48
            refine fx_aload_n (pc := 107) (t := 5) F 0 rfl rfl dX5_put_107 ?_
            refine fx_iload_n (pc := 108) F 3 rfl rfl dX5_put_108 ?_
            obtain ⟨⟨v59, h60⟩, e61, e48⟩ := fx_bnd e48
            refine fx_cV (pc := 109) F 5 kC_X5 [(0, v_0)] this_0 [] (m_X5_putRich Fu Λ this_0 v_0 h _ _ e61) kD_X5_putRich kI_X5_putRich rfl wM_X5_103 ⟨rfl, rfl⟩ ⟨by decide, by decide⟩ (Nat.le_of_ble_eq_true rfl) rfl dX5_put_109 ?_
            cases e48
            refine fx_goto (pc := 112) F 121 (by decide) dX5_put_112 ?_
            exact hJ49
          have hF53 : ¬ b50 = true → fx_J M G Λ 4 115 [some (7, this_0), some (0, what_0), some (0, i_0), some (0, v_0)] [] h := fun c58 => by
            have e48 := (if_neg c58).symm.trans e48
            refine fx_aload_n (pc := 115) (t := 5) F 0 rfl rfl dX5_put_115 ?_
            refine fx_bipush (pc := 116) F ⟨by decide, by decide⟩ (by decide) dX5_put_116 ?_
            obtain ⟨⟨v62, h63⟩, e64, e48⟩ := fx_bnd e48
            refine fx_cV (pc := 118) F 5 kC_X5 [(0, (-2))] this_0 [] (m_X5_refuseBad Fu Λ this_0 (-2) h _ _ e64) kD_X5_refuseBad kI_X5_refuseBad rfl wM_X5_63 ⟨rfl, rfl⟩ ⟨by decide, by decide⟩ (Nat.le_of_ble_eq_true rfl) rfl dX5_put_118 ?_
            cases e48
            exact hJ49
          refine fx_iload_n (pc := 92) F 2 rfl rfl dX5_put_92 ?_
          refine fx_nzeq (pc := 93) F 115 (by decide) dX5_put_93 (fun c54 => ?_) (fun c54 => ?_)
          · have e51 := (if_pos c54).symm.trans e51
            refine fx_aload_n (pc := 96) (t := 5) F 0 rfl rfl dX5_put_96 ?_
            refine fx_gR (pc := 97) F 5 0 0 4 rfl kC_X5 (by decide) rfl wF_X5_10 dX5_put_97 ?_
            refine fx_iload_n (pc := 100) F 3 rfl rfl dX5_put_100 ?_
            obtain ⟨v55, e56, e51⟩ := fx_bnd e51
            refine fx_cV (pc := 101) F 4 kC_X4 [(0, v_0)] (fx_tg Λ this_0 0) [] (m_X4_hasPerson Fu Λ (fx_tg Λ this_0 0) v_0 h _ e56) kD_X4_hasPerson kI_X4_hasPerson rfl wM_X5_100 ⟨rfl, rfl⟩ ⟨by decide, by decide⟩ (Nat.le_of_ble_eq_true rfl) rfl dX5_put_101 ?_
            refine fx_nzne (pc := 104) F 115 (by decide) dX5_put_104 (fun c57 => ?_) (fun c57 => ?_)
            · have e51 := (if_pos c57).symm.trans e51
              cases e51
              exact hT52 (by decide)
            · have e51 := (if_neg c57).symm.trans e51
              cases e51
              exact hF53 (by decide)
          · have e51 := (if_neg c54).symm.trans e51
            cases e51
            exact hF53 (by decide)
        exact fx_tswI (pc := 1) F 92 2 dX5_put_1 c45 (by decide) rfl (by decide) hB65
      · have hf := (if_neg c45).symm.trans hf
        refine fx_tswO (pc := 1) F 122 dX5_put_1 (by omega) (by decide) ?_
        refine fx_aload_n (pc := 122) (t := 5) F 0 rfl rfl dX5_put_122 ?_
        refine fx_bipush (pc := 123) F ⟨by decide, by decide⟩ (by decide) dX5_put_123 ?_
        obtain ⟨⟨v66, h67⟩, e68, hf⟩ := fx_bnd hf
        refine fx_cV (pc := 125) F 5 kC_X5 [(0, (-2))] this_0 [] (m_X5_refuseBad Fu Λ this_0 (-2) h _ _ e68) kD_X5_refuseBad kI_X5_refuseBad rfl wM_X5_63 ⟨rfl, rfl⟩ ⟨by decide, by decide⟩ (Nat.le_of_ble_eq_true rfl) rfl dX5_put_125 ?_
        cases hf
        exact fx_ireturn (pc := 128) F K dX5_put_128
def f_X4_forgetOldest (Fu : Nat) (Λ : fx_L) (this_0 : Int) (h : fx_H) : Option (fx_H) :=
  (fx_cp Λ h (fx_tg Λ this_0 11) 1 (fx_tg Λ this_0 11) 0 9).bind fun h1 =>
  (fx_cp Λ h1 (fx_tg Λ this_0 12) 1 (fx_tg Λ this_0 12) 0 9).bind fun h3 =>
  (fx_cp Λ h3 (fx_tg Λ this_0 13) 1 (fx_tg Λ this_0 13) 0 9).bind fun h5 =>
  some (fx_up h5 this_0 5 9)
abbrev rm_X4_forgetOldest : Room := { frames := 1, cells := 0, slots := 0, locals := 26 }
set_option maxRecDepth 100000 in
set_option maxHeartbeats 4000000 in
theorem m_X4_forgetOldest (Fu : Nat) (Λ : fx_L) (this_0 : Int) (h : fx_H) (ho : fx_H) (hf : f_X4_forgetOldest Fu Λ this_0 h = some ho) : fx_Met yX4_forgetOldest cX4_forgetOldest 1 none rm_X4_forgetOldest Λ [(6, this_0)] h none ho := by
  unfold f_X4_forgetOldest at hf
  refine fx_enter (ls := [some (6, this_0)]) (by decide) (Nat.le_of_ble_eq_true rfl) rfl (fun M G F K => ?_)
  refine fx_aload_n (pc := 0) (t := 4) F 0 rfl rfl dX4_forgetOldest_0 ?_
  refine fx_gR (pc := 1) F 4 11 11 8 rfl kC_X4 (by decide) rfl wF_X4_29 dX4_forgetOldest_1 ?_
  refine fx_iconst (pc := 4) F ⟨by decide, by decide⟩ dX4_forgetOldest_4 ?_
  refine fx_aload_n (pc := 5) (t := 4) F 0 rfl rfl dX4_forgetOldest_5 ?_
  refine fx_gR (pc := 6) F 4 11 11 8 rfl kC_X4 (by decide) rfl wF_X4_29 dX4_forgetOldest_6 ?_
  refine fx_iconst (pc := 9) F ⟨by decide, by decide⟩ dX4_forgetOldest_9 ?_
  refine fx_bipush (pc := 10) F ⟨by decide, by decide⟩ (by decide) dX4_forgetOldest_10 ?_
  obtain ⟨h1, e2, hf⟩ := fx_bnd hf
  refine fx_racopy (pc := 12) F e2 wM_X4_70 wNa_arraycopy wSt_arraycopy wI_J10 (by decide) (Nat.le_of_ble_eq_true rfl) dX4_forgetOldest_12 ?_
  refine fx_aload_n (pc := 15) (t := 4) F 0 rfl rfl dX4_forgetOldest_15 ?_
  refine fx_gR (pc := 16) F 4 12 12 8 rfl kC_X4 (by decide) rfl wF_X4_32 dX4_forgetOldest_16 ?_
  refine fx_iconst (pc := 19) F ⟨by decide, by decide⟩ dX4_forgetOldest_19 ?_
  refine fx_aload_n (pc := 20) (t := 4) F 0 rfl rfl dX4_forgetOldest_20 ?_
  refine fx_gR (pc := 21) F 4 12 12 8 rfl kC_X4 (by decide) rfl wF_X4_32 dX4_forgetOldest_21 ?_
  refine fx_iconst (pc := 24) F ⟨by decide, by decide⟩ dX4_forgetOldest_24 ?_
  refine fx_bipush (pc := 25) F ⟨by decide, by decide⟩ (by decide) dX4_forgetOldest_25 ?_
  obtain ⟨h3, e4, hf⟩ := fx_bnd hf
  refine fx_racopy (pc := 27) F e4 wM_X4_70 wNa_arraycopy wSt_arraycopy wI_J10 (by decide) (Nat.le_of_ble_eq_true rfl) dX4_forgetOldest_27 ?_
  refine fx_aload_n (pc := 30) (t := 4) F 0 rfl rfl dX4_forgetOldest_30 ?_
  refine fx_gR (pc := 31) F 4 13 13 8 rfl kC_X4 (by decide) rfl wF_X4_35 dX4_forgetOldest_31 ?_
  refine fx_iconst (pc := 34) F ⟨by decide, by decide⟩ dX4_forgetOldest_34 ?_
  refine fx_aload_n (pc := 35) (t := 4) F 0 rfl rfl dX4_forgetOldest_35 ?_
  refine fx_gR (pc := 36) F 4 13 13 8 rfl kC_X4 (by decide) rfl wF_X4_35 dX4_forgetOldest_36 ?_
  refine fx_iconst (pc := 39) F ⟨by decide, by decide⟩ dX4_forgetOldest_39 ?_
  refine fx_bipush (pc := 40) F ⟨by decide, by decide⟩ (by decide) dX4_forgetOldest_40 ?_
  obtain ⟨h5, e6, hf⟩ := fx_bnd hf
  refine fx_racopy (pc := 42) F e6 wM_X4_70 wNa_arraycopy wSt_arraycopy wI_J10 (by decide) (Nat.le_of_ble_eq_true rfl) dX4_forgetOldest_42 ?_
  refine fx_aload_n (pc := 45) (t := 4) F 0 rfl rfl dX4_forgetOldest_45 ?_
  refine fx_bipush (pc := 46) F ⟨by decide, by decide⟩ (by decide) dX4_forgetOldest_46 ?_
  refine fx_pI (pc := 48) F 4 5 5 rfl kC_X4 rfl rfl (by decide +kernel) wF_X4_61 dX4_forgetOldest_48 ?_
  cases hf
  exact fx_vreturn (pc := 51) F K dX4_forgetOldest_51
def f_X4_rememberDoing (Fu : Nat) (Λ : fx_L) (this_0 : Int) (person_0 : Int) (hour_0 : Int) (thing_0 : Int) (h : fx_H) : Option (fx_H) :=
  Option.bind (
    if 10 ≤ (h this_0 5) then
      (f_X4_forgetOldest Fu Λ this_0 h).bind fun h5 =>
      some h5
    else
      some h
  ) fun h1 =>
  (fx_wr Λ h1 (fx_tg Λ this_0 11) (h1 this_0 5) person_0).bind fun h7 =>
  (fx_wr Λ h7 (fx_tg Λ this_0 12) (h7 this_0 5) hour_0).bind fun h9 =>
  (fx_wr Λ h9 (fx_tg Λ this_0 13) (h9 this_0 5) thing_0).bind fun h11 =>
  some (fx_up h11 this_0 5 (fx_w ((h11 this_0 5) + 1)))
abbrev rm_X4_rememberDoing : Room := { frames := 2, cells := 0, slots := 0, locals := 46 }
set_option maxRecDepth 100000 in
set_option maxHeartbeats 4000000 in
theorem m_X4_rememberDoing (Fu : Nat) (Λ : fx_L) (this_0 : Int) (person_0 : Int) (hour_0 : Int) (thing_0 : Int) (h : fx_H) (ho : fx_H) (hf : f_X4_rememberDoing Fu Λ this_0 person_0 hour_0 thing_0 h = some ho) : fx_Met yX4_rememberDoing cX4_rememberDoing 4 none rm_X4_rememberDoing Λ [(6, this_0), (0, person_0), (0, hour_0), (0, thing_0)] h none ho := by
  unfold f_X4_rememberDoing at hf
  refine fx_enter (ls := [some (6, this_0), some (0, person_0), some (0, hour_0), some (0, thing_0)]) (by decide) (Nat.le_of_ble_eq_true rfl) rfl (fun M G F K => ?_)
  obtain ⟨h1, e2, hf⟩ := fx_bnd hf
  have hJ3 : fx_J M G Λ 4 13 [some (6, this_0), some (0, person_0), some (0, hour_0), some (0, thing_0)] [] h1 := by
    refine fx_aload_n (pc := 13) (t := 4) F 0 rfl rfl dX4_rememberDoing_13 ?_
    refine fx_gR (pc := 14) F 4 11 11 8 rfl kC_X4 (by decide) rfl wF_X4_29 dX4_rememberDoing_14 ?_
    refine fx_aload_n (pc := 17) (t := 4) F 0 rfl rfl dX4_rememberDoing_17 ?_
    refine fx_gI (pc := 18) F 4 5 5 rfl kC_X4 rfl wF_X4_61 dX4_rememberDoing_18 ?_
    refine fx_iload_n (pc := 21) F 1 rfl rfl dX4_rememberDoing_21 ?_
    obtain ⟨h7, e8, hf⟩ := fx_bnd hf
    refine fx_rastI (pc := 22) F e8 dX4_rememberDoing_22 ?_
    refine fx_aload_n (pc := 23) (t := 4) F 0 rfl rfl dX4_rememberDoing_23 ?_
    refine fx_gR (pc := 24) F 4 12 12 8 rfl kC_X4 (by decide) rfl wF_X4_32 dX4_rememberDoing_24 ?_
    refine fx_aload_n (pc := 27) (t := 4) F 0 rfl rfl dX4_rememberDoing_27 ?_
    refine fx_gI (pc := 28) F 4 5 5 rfl kC_X4 rfl wF_X4_61 dX4_rememberDoing_28 ?_
    refine fx_iload_n (pc := 31) F 2 rfl rfl dX4_rememberDoing_31 ?_
    obtain ⟨h9, e10, hf⟩ := fx_bnd hf
    refine fx_rastI (pc := 32) F e10 dX4_rememberDoing_32 ?_
    refine fx_aload_n (pc := 33) (t := 4) F 0 rfl rfl dX4_rememberDoing_33 ?_
    refine fx_gR (pc := 34) F 4 13 13 8 rfl kC_X4 (by decide) rfl wF_X4_35 dX4_rememberDoing_34 ?_
    refine fx_aload_n (pc := 37) (t := 4) F 0 rfl rfl dX4_rememberDoing_37 ?_
    refine fx_gI (pc := 38) F 4 5 5 rfl kC_X4 rfl wF_X4_61 dX4_rememberDoing_38 ?_
    refine fx_iload_n (pc := 41) F 3 rfl rfl dX4_rememberDoing_41 ?_
    obtain ⟨h11, e12, hf⟩ := fx_bnd hf
    refine fx_rastI (pc := 42) F e12 dX4_rememberDoing_42 ?_
    refine fx_aload_n (pc := 43) (t := 4) F 0 rfl rfl dX4_rememberDoing_43 ?_
    refine fx_dup (pc := 44) F (show (6 : Nat) ≠ 1 by decide) dX4_rememberDoing_44 ?_
    refine fx_gI (pc := 45) F 4 5 5 rfl kC_X4 rfl wF_X4_61 dX4_rememberDoing_45 ?_
    refine fx_iconst (pc := 48) F ⟨by decide, by decide⟩ dX4_rememberDoing_48 ?_
    refine fx_iadd (pc := 49) F dX4_rememberDoing_49 ?_
    refine fx_pI (pc := 50) F 4 5 5 rfl kC_X4 rfl rfl (by decide +kernel) wF_X4_61 dX4_rememberDoing_50 ?_
    cases hf
    exact fx_vreturn (pc := 53) F K dX4_rememberDoing_53
  refine fx_aload_n (pc := 0) (t := 4) F 0 rfl rfl dX4_rememberDoing_0 ?_
  refine fx_gI (pc := 1) F 4 5 5 rfl kC_X4 rfl wF_X4_61 dX4_rememberDoing_1 ?_
  refine fx_bipush (pc := 4) F ⟨by decide, by decide⟩ (by decide) dX4_rememberDoing_4 ?_
  refine fx_nge (pc := 6) F 13 (by decide) dX4_rememberDoing_6 (fun c4 => ?_) (fun c4 => ?_)
  · have e2 := (if_pos c4).symm.trans e2
    refine fx_aload_n (pc := 9) (t := 4) F 0 rfl rfl dX4_rememberDoing_9 ?_
    obtain ⟨h5, e6, e2⟩ := fx_bnd e2
    refine fx_cVv (pc := 10) F 4 kC_X4 [] this_0 [] (m_X4_forgetOldest Fu Λ this_0 h _ e6) kD_X4_forgetOldest kI_X4_forgetOldest rfl wM_X4_90 ⟨rfl, rfl⟩ ⟨by decide, by decide⟩ (Nat.le_of_ble_eq_true rfl) rfl dX4_rememberDoing_10 ?_
    cases e2
    exact hJ3
  · have e2 := (if_neg c4).symm.trans e2
    cases e2
    exact hJ3
def f_X5_shown (Fu : Nat) (Λ : fx_L) (thing_0 : Int) (h : fx_H) : Option (Int) :=
  Option.bind (
    if thing_0 = 9 then
      some (-1 : Int)
    else
      some thing_0
  ) fun v1 =>
  some v1
abbrev rm_X5_shown : Room := { frames := 0, cells := 0, slots := 0, locals := 0 }
set_option maxRecDepth 100000 in
set_option maxHeartbeats 4000000 in
theorem m_X5_shown (Fu : Nat) (Λ : fx_L) (thing_0 : Int) (h : fx_H) (r : Int) (hf : f_X5_shown Fu Λ thing_0 h = some r) : fx_Met yX5_shown cX5_shown 1 (some .int) rm_X5_shown Λ [(0, thing_0)] h (some (0, r)) h := by
  unfold f_X5_shown at hf
  refine fx_enter (ls := [some (0, thing_0)]) (by decide) (Nat.le_of_ble_eq_true rfl) rfl (fun M G F K => ?_)
  obtain ⟨v1, e2, hf⟩ := fx_bnd hf
  have hJ3 : fx_J M G Λ 1 11 [some (0, thing_0)] [(0, v1)] h := by
    cases hf
    exact fx_ireturn (pc := 11) F K dX5_shown_11
  refine fx_iload_n (pc := 0) F 0 rfl rfl dX5_shown_0 ?_
  refine fx_bipush (pc := 1) F ⟨by decide, by decide⟩ (by decide) dX5_shown_1 ?_
  refine fx_neq (pc := 3) F 10 (by decide) dX5_shown_3 (fun c4 => ?_) (fun c4 => ?_)
  · have e2 := (if_pos c4).symm.trans e2
    refine fx_iconst (pc := 6) F ⟨by decide, by decide⟩ dX5_shown_6 ?_
    cases e2
    refine fx_goto (pc := 7) F 11 (by decide) dX5_shown_7 ?_
    exact hJ3
  · have e2 := (if_neg c4).symm.trans e2
    refine fx_iload_n (pc := 10) F 0 rfl rfl dX5_shown_10 ?_
    cases e2
    exact hJ3
def f_X5_does (Fu : Nat) (Λ : fx_L) (this_0 : Int) (person_0 : Int) (hour_0 : Int) (thing_0 : Int) (h : fx_H) : Option (Int × fx_H) :=
  Option.bind (
    Option.bind (
      if thing_0 = (-1) then
        some true
      else
        (f_X4_hasThing Fu Λ (fx_tg Λ this_0 0) thing_0 h).bind fun v9 =>
        if ¬ v9 = 0 then
          some true
        else
          some false
    ) fun b4 =>
    if b4 = true then
      some (1 : Int)
    else
      some (0 : Int)
  ) fun v1 =>
  Option.bind (
    if v1 = 0 then
      some true
    else
      (f_X4_hasPerson Fu Λ (fx_tg Λ this_0 0) person_0 h).bind fun v18 =>
      if v18 = 0 then
        some true
      else
        (f_X4_hasHour Fu Λ (fx_tg Λ this_0 0) hour_0 h).bind fun v21 =>
        if v21 = 0 then
          some true
        else
          some false
  ) fun b13 =>
  if b13 = true then
    (f_X5_refuseBad Fu Λ this_0 (-10) h).bind fun (v25, h26) =>
    some (v25, h26)
  else
    (fx_rr Λ (fx_tg Λ (fx_tg Λ this_0 0) 8) hour_0).bind fun v28 =>
    (fx_rd Λ (fx_up h this_0 13 (fx_w ((h this_0 13) + 1))) v28 person_0).bind fun v30 =>
    (f_X4_rememberDoing Fu Λ (fx_tg Λ this_0 0) person_0 hour_0 v30 (fx_up h this_0 13 (fx_w ((h this_0 13) + 1)))).bind fun h32 =>
    (fx_rr Λ (fx_tg Λ (fx_tg Λ this_0 0) 8) hour_0).bind fun v34 =>
    Option.bind (
      if thing_0 = (-1) then
        some (9 : Int)
      else
        some thing_0
    ) fun v36 =>
    (fx_wr Λ h32 v34 person_0 v36).bind fun h40 =>
    (f_X5_shown Fu Λ v30 h40).bind fun v42 =>
    some (v42, h40)
abbrev rm_X5_does : Room := { frames := 3, cells := 0, slots := 0, locals := 69 }
set_option maxRecDepth 100000 in
set_option maxHeartbeats 4000000 in
theorem m_X5_does (Fu : Nat) (Λ : fx_L) (this_0 : Int) (person_0 : Int) (hour_0 : Int) (thing_0 : Int) (h : fx_H) (r : Int) (ho : fx_H) (hf : f_X5_does Fu Λ this_0 person_0 hour_0 thing_0 h = some (r, ho)) : fx_Met yX5_does cX5_does 6 (some .int) rm_X5_does Λ [(7, this_0), (0, person_0), (0, hour_0), (0, thing_0)] h (some (0, r)) ho := by
  unfold f_X5_does at hf
  refine fx_enter (ls := [some (7, this_0), some (0, person_0), some (0, hour_0), some (0, thing_0), none, none]) (by decide) (Nat.le_of_ble_eq_true rfl) rfl (fun M G F K => ?_)
  obtain ⟨v1, e2, hf⟩ := fx_bnd hf
  have hJ3 : fx_J M G Λ 6 21 [some (7, this_0), some (0, person_0), some (0, hour_0), some (0, thing_0), none, none] [(0, v1)] h := by
    refine fx_istore (pc := 21) (ls' := [some (7, this_0), some (0, person_0), some (0, hour_0), some (0, thing_0), some (0, v1), none]) F (by decide) rfl rfl dX5_does_21 ?_
    obtain ⟨b13, e14, hf⟩ := fx_bnd hf
    have hT15 : b13 = true → fx_J M G Λ 6 50 [some (7, this_0), some (0, person_0), some (0, hour_0), some (0, thing_0), some (0, v1), none] [] h := fun c24 => by
      have hf := (if_pos c24).symm.trans hf
      refine fx_aload_n (pc := 50) (t := 5) F 0 rfl rfl dX5_does_50 ?_
      refine fx_bipush (pc := 51) F ⟨by decide, by decide⟩ (by decide) dX5_does_51 ?_
      obtain ⟨⟨v25, h26⟩, e27, hf⟩ := fx_bnd hf
      refine fx_cV (pc := 53) F 5 kC_X5 [(0, (-10))] this_0 [] (m_X5_refuseBad Fu Λ this_0 (-10) h _ _ e27) kD_X5_refuseBad kI_X5_refuseBad rfl wM_X5_63 ⟨rfl, rfl⟩ ⟨by decide, by decide⟩ (Nat.le_of_ble_eq_true rfl) rfl dX5_does_53 ?_
      cases hf
      exact fx_ireturn (pc := 56) F K dX5_does_56
    have hF16 : ¬ b13 = true → fx_J M G Λ 6 57 [some (7, this_0), some (0, person_0), some (0, hour_0), some (0, thing_0), some (0, v1), none] [] h := fun c24 => by
      have hf := (if_neg c24).symm.trans hf
      refine fx_aload_n (pc := 57) (t := 5) F 0 rfl rfl dX5_does_57 ?_
      refine fx_dup (pc := 58) F (show (7 : Nat) ≠ 1 by decide) dX5_does_58 ?_
      refine fx_gI (pc := 59) F 5 13 13 rfl kC_X5 rfl wF_X5_75 dX5_does_59 ?_
      refine fx_iconst (pc := 62) F ⟨by decide, by decide⟩ dX5_does_62 ?_
      refine fx_iadd (pc := 63) F dX5_does_63 ?_
      refine fx_pI (pc := 64) F 5 13 13 rfl kC_X5 rfl rfl (by decide +kernel) wF_X5_75 dX5_does_64 ?_
      refine fx_aload_n (pc := 67) (t := 5) F 0 rfl rfl dX5_does_67 ?_
      refine fx_gR (pc := 68) F 5 0 0 4 rfl kC_X5 (by decide) rfl wF_X5_10 dX5_does_68 ?_
      refine fx_gR (pc := 71) F 4 8 8 11 rfl kC_X4 (by decide) rfl wF_X5_106 dX5_does_71 ?_
      refine fx_iload_n (pc := 74) F 2 rfl rfl dX5_does_74 ?_
      obtain ⟨v28, e29, hf⟩ := fx_bnd hf
      refine fx_raldG (pc := 75) F e29 dX5_does_75 ?_
      refine fx_iload_n (pc := 76) F 1 rfl rfl dX5_does_76 ?_
      obtain ⟨v30, e31, hf⟩ := fx_bnd hf
      refine fx_raldI (pc := 77) F e31 dX5_does_77 ?_
      refine fx_istore (pc := 78) (ls' := [some (7, this_0), some (0, person_0), some (0, hour_0), some (0, thing_0), some (0, v1), some (0, v30)]) F (by decide) rfl rfl dX5_does_78 ?_
      refine fx_aload_n (pc := 80) (t := 5) F 0 rfl rfl dX5_does_80 ?_
      refine fx_gR (pc := 81) F 5 0 0 4 rfl kC_X5 (by decide) rfl wF_X5_10 dX5_does_81 ?_
      refine fx_iload_n (pc := 84) F 1 rfl rfl dX5_does_84 ?_
      refine fx_iload_n (pc := 85) F 2 rfl rfl dX5_does_85 ?_
      refine fx_iload (pc := 86) F rfl dX5_does_86 ?_
      obtain ⟨h32, e33, hf⟩ := fx_bnd hf
      refine fx_cVv (pc := 88) F 4 kC_X4 [(0, person_0), (0, hour_0), (0, v30)] (fx_tg Λ this_0 0) [] (m_X4_rememberDoing Fu Λ (fx_tg Λ this_0 0) person_0 hour_0 v30 (fx_up h this_0 13 (fx_w ((h this_0 13) + 1))) _ e33) kD_X4_rememberDoing kI_X4_rememberDoing rfl wM_X5_110 ⟨rfl, rfl⟩ ⟨by decide, by decide⟩ (Nat.le_of_ble_eq_true rfl) rfl dX5_does_88 ?_
      refine fx_aload_n (pc := 91) (t := 5) F 0 rfl rfl dX5_does_91 ?_
      refine fx_gR (pc := 92) F 5 0 0 4 rfl kC_X5 (by decide) rfl wF_X5_10 dX5_does_92 ?_
      refine fx_gR (pc := 95) F 4 8 8 11 rfl kC_X4 (by decide) rfl wF_X5_106 dX5_does_95 ?_
      refine fx_iload_n (pc := 98) F 2 rfl rfl dX5_does_98 ?_
      obtain ⟨v34, e35, hf⟩ := fx_bnd hf
      refine fx_raldG (pc := 99) F e35 dX5_does_99 ?_
      refine fx_iload_n (pc := 100) F 1 rfl rfl dX5_does_100 ?_
      obtain ⟨v36, e37, hf⟩ := fx_bnd hf
      have hJ38 : fx_J M G Λ 6 112 [some (7, this_0), some (0, person_0), some (0, hour_0), some (0, thing_0), some (0, v1), some (0, v30)] [(0, v36), (0, person_0), (10, v34)] h32 := by
        obtain ⟨h40, e41, hf⟩ := fx_bnd hf
        refine fx_rastI (pc := 112) F e41 dX5_does_112 ?_
        refine fx_iload (pc := 113) F rfl dX5_does_113 ?_
        obtain ⟨v42, e43, hf⟩ := fx_bnd hf
        refine fx_cS (pc := 115) F [(0, v30)] [] (m_X5_shown Fu Λ v30 h40 _ e43) kD_X5_shown wSt_X5_shown wM_X5_114 ⟨rfl, rfl⟩ ⟨by decide, by decide⟩ (Nat.le_of_ble_eq_true rfl) rfl dX5_does_115 ?_
        cases hf
        exact fx_ireturn (pc := 118) F K dX5_does_118
      refine fx_iload_n (pc := 101) F 3 rfl rfl dX5_does_101 ?_
      refine fx_iconst (pc := 102) F ⟨by decide, by decide⟩ dX5_does_102 ?_
      refine fx_neq (pc := 103) F 111 (by decide) dX5_does_103 (fun c39 => ?_) (fun c39 => ?_)
      · have e37 := (if_pos c39).symm.trans e37
        refine fx_bipush (pc := 106) F ⟨by decide, by decide⟩ (by decide) dX5_does_106 ?_
        cases e37
        refine fx_goto (pc := 108) F 112 (by decide) dX5_does_108 ?_
        exact hJ38
      · have e37 := (if_neg c39).symm.trans e37
        refine fx_iload_n (pc := 111) F 3 rfl rfl dX5_does_111 ?_
        cases e37
        exact hJ38
    refine fx_iload (pc := 23) F rfl dX5_does_23 ?_
    refine fx_jzeq (pc := 25) F 50 (by decide) dX5_does_25 (fun c17 => ?_) (fun c17 => ?_)
    · have e14 := (if_pos c17).symm.trans e14
      cases e14
      exact hT15 (by decide)
    · have e14 := (if_neg c17).symm.trans e14
      refine fx_aload_n (pc := 28) (t := 5) F 0 rfl rfl dX5_does_28 ?_
      refine fx_gR (pc := 29) F 5 0 0 4 rfl kC_X5 (by decide) rfl wF_X5_10 dX5_does_29 ?_
      refine fx_iload_n (pc := 32) F 1 rfl rfl dX5_does_32 ?_
      obtain ⟨v18, e19, e14⟩ := fx_bnd e14
      refine fx_cV (pc := 33) F 4 kC_X4 [(0, person_0)] (fx_tg Λ this_0 0) [] (m_X4_hasPerson Fu Λ (fx_tg Λ this_0 0) person_0 h _ e19) kD_X4_hasPerson kI_X4_hasPerson rfl wM_X5_100 ⟨rfl, rfl⟩ ⟨by decide, by decide⟩ (Nat.le_of_ble_eq_true rfl) rfl dX5_does_33 ?_
      refine fx_jzeq (pc := 36) F 50 (by decide) dX5_does_36 (fun c20 => ?_) (fun c20 => ?_)
      · have e14 := (if_pos c20).symm.trans e14
        cases e14
        exact hT15 (by decide)
      · have e14 := (if_neg c20).symm.trans e14
        refine fx_aload_n (pc := 39) (t := 5) F 0 rfl rfl dX5_does_39 ?_
        refine fx_gR (pc := 40) F 5 0 0 4 rfl kC_X5 (by decide) rfl wF_X5_10 dX5_does_40 ?_
        refine fx_iload_n (pc := 43) F 2 rfl rfl dX5_does_43 ?_
        obtain ⟨v21, e22, e14⟩ := fx_bnd e14
        refine fx_cV (pc := 44) F 4 kC_X4 [(0, hour_0)] (fx_tg Λ this_0 0) [] (m_X4_hasHour Fu Λ (fx_tg Λ this_0 0) hour_0 h _ e22) kD_X4_hasHour kI_X4_hasHour rfl wM_X5_90 ⟨rfl, rfl⟩ ⟨by decide, by decide⟩ (Nat.le_of_ble_eq_true rfl) rfl dX5_does_44 ?_
        refine fx_nzeq (pc := 47) F 57 (by decide) dX5_does_47 (fun c23 => ?_) (fun c23 => ?_)
        · have e14 := (if_pos c23).symm.trans e14
          cases e14
          exact hT15 (by decide)
        · have e14 := (if_neg c23).symm.trans e14
          cases e14
          exact hF16 (by decide)
  obtain ⟨b4, e5, e2⟩ := fx_bnd e2
  have hT6 : b4 = true → fx_J M G Λ 6 16 [some (7, this_0), some (0, person_0), some (0, hour_0), some (0, thing_0), none, none] [] h := fun c12 => by
    have e2 := (if_pos c12).symm.trans e2
    refine fx_iconst (pc := 16) F ⟨by decide, by decide⟩ dX5_does_16 ?_
    cases e2
    refine fx_goto (pc := 17) F 21 (by decide) dX5_does_17 ?_
    exact hJ3
  have hF7 : ¬ b4 = true → fx_J M G Λ 6 20 [some (7, this_0), some (0, person_0), some (0, hour_0), some (0, thing_0), none, none] [] h := fun c12 => by
    have e2 := (if_neg c12).symm.trans e2
    refine fx_iconst (pc := 20) F ⟨by decide, by decide⟩ dX5_does_20 ?_
    cases e2
    exact hJ3
  refine fx_iload_n (pc := 0) F 3 rfl rfl dX5_does_0 ?_
  refine fx_iconst (pc := 1) F ⟨by decide, by decide⟩ dX5_does_1 ?_
  refine fx_jeq (pc := 2) F 16 (by decide) dX5_does_2 (fun c8 => ?_) (fun c8 => ?_)
  · have e5 := (if_pos c8).symm.trans e5
    cases e5
    exact hT6 (by decide)
  · have e5 := (if_neg c8).symm.trans e5
    refine fx_aload_n (pc := 5) (t := 5) F 0 rfl rfl dX5_does_5 ?_
    refine fx_gR (pc := 6) F 5 0 0 4 rfl kC_X5 (by decide) rfl wF_X5_10 dX5_does_6 ?_
    refine fx_iload_n (pc := 9) F 3 rfl rfl dX5_does_9 ?_
    obtain ⟨v9, e10, e5⟩ := fx_bnd e5
    refine fx_cV (pc := 10) F 4 kC_X4 [(0, thing_0)] (fx_tg Λ this_0 0) [] (m_X4_hasThing Fu Λ (fx_tg Λ this_0 0) thing_0 h _ e10) kD_X4_hasThing kI_X4_hasThing rfl wM_X5_59 ⟨rfl, rfl⟩ ⟨by decide, by decide⟩ (Nat.le_of_ble_eq_true rfl) rfl dX5_does_10 ?_
    refine fx_nzne (pc := 13) F 20 (by decide) dX5_does_13 (fun c11 => ?_) (fun c11 => ?_)
    · have e5 := (if_pos c11).symm.trans e5
      cases e5
      exact hT6 (by decide)
    · have e5 := (if_neg c11).symm.trans e5
      cases e5
      exact hF7 (by decide)
def f_X5_refuseNo (Fu : Nat) (Λ : fx_L) (this_0 : Int) (h : fx_H) : Option (Int × fx_H) :=
  some ((-3), (fx_up h this_0 11 (fx_w ((h this_0 11) + 1))))
abbrev rm_X5_refuseNo : Room := { frames := 0, cells := 0, slots := 0, locals := 0 }
set_option maxRecDepth 100000 in
set_option maxHeartbeats 4000000 in
theorem m_X5_refuseNo (Fu : Nat) (Λ : fx_L) (this_0 : Int) (h : fx_H) (r : Int) (ho : fx_H) (hf : f_X5_refuseNo Fu Λ this_0 h = some (r, ho)) : fx_Met yX5_refuseNo cX5_refuseNo 1 (some .int) rm_X5_refuseNo Λ [(7, this_0)] h (some (0, r)) ho := by
  unfold f_X5_refuseNo at hf
  refine fx_enter (ls := [some (7, this_0)]) (by decide) (Nat.le_of_ble_eq_true rfl) rfl (fun M G F K => ?_)
  refine fx_aload_n (pc := 0) (t := 5) F 0 rfl rfl dX5_refuseNo_0 ?_
  refine fx_dup (pc := 1) F (show (7 : Nat) ≠ 1 by decide) dX5_refuseNo_1 ?_
  refine fx_gI (pc := 2) F 5 11 11 rfl kC_X5 rfl wF_X5_244 dX5_refuseNo_2 ?_
  refine fx_iconst (pc := 5) F ⟨by decide, by decide⟩ dX5_refuseNo_5 ?_
  refine fx_iadd (pc := 6) F dX5_refuseNo_6 ?_
  refine fx_pI (pc := 7) F 5 11 11 rfl kC_X5 rfl rfl (by decide +kernel) wF_X5_244 dX5_refuseNo_7 ?_
  refine fx_bipush (pc := 10) F ⟨by decide, by decide⟩ (by decide) dX5_refuseNo_10 ?_
  cases hf
  exact fx_ireturn (pc := 12) F K dX5_refuseNo_12
def f_X4_undoLast (Fu : Nat) (Λ : fx_L) (this_0 : Int) (h : fx_H) : Option (fx_H) :=
  if 0 < (h this_0 5) then
    (fx_rd Λ (fx_up h this_0 5 (fx_w ((h this_0 5) - 1))) (fx_tg Λ this_0 12) ((fx_up h this_0 5 (fx_w ((h this_0 5) - 1))) this_0 5)).bind fun v2 =>
    (fx_rr Λ (fx_tg Λ this_0 8) v2).bind fun v4 =>
    (fx_rd Λ (fx_up h this_0 5 (fx_w ((h this_0 5) - 1))) (fx_tg Λ this_0 11) ((fx_up h this_0 5 (fx_w ((h this_0 5) - 1))) this_0 5)).bind fun v6 =>
    (fx_rd Λ (fx_up h this_0 5 (fx_w ((h this_0 5) - 1))) (fx_tg Λ this_0 13) ((fx_up h this_0 5 (fx_w ((h this_0 5) - 1))) this_0 5)).bind fun v8 =>
    (fx_wr Λ (fx_up h this_0 5 (fx_w ((h this_0 5) - 1))) v4 v6 v8).bind fun h10 =>
    some h10
  else
    some h
abbrev rm_X4_undoLast : Room := { frames := 0, cells := 0, slots := 0, locals := 0 }
set_option maxRecDepth 100000 in
set_option maxHeartbeats 4000000 in
theorem m_X4_undoLast (Fu : Nat) (Λ : fx_L) (this_0 : Int) (h : fx_H) (ho : fx_H) (hf : f_X4_undoLast Fu Λ this_0 h = some ho) : fx_Met yX4_undoLast cX4_undoLast 1 none rm_X4_undoLast Λ [(6, this_0)] h none ho := by
  unfold f_X4_undoLast at hf
  refine fx_enter (ls := [some (6, this_0)]) (by decide) (Nat.le_of_ble_eq_true rfl) rfl (fun M G F K => ?_)
  refine fx_aload_n (pc := 0) (t := 4) F 0 rfl rfl dX4_undoLast_0 ?_
  refine fx_gI (pc := 1) F 4 5 5 rfl kC_X4 rfl wF_X4_61 dX4_undoLast_1 ?_
  refine fx_nzgt (pc := 4) F 50 (by decide) dX4_undoLast_4 (fun c1 => ?_) (fun c1 => ?_)
  · have hf := (if_pos c1).symm.trans hf
    refine fx_aload_n (pc := 7) (t := 4) F 0 rfl rfl dX4_undoLast_7 ?_
    refine fx_dup (pc := 8) F (show (6 : Nat) ≠ 1 by decide) dX4_undoLast_8 ?_
    refine fx_gI (pc := 9) F 4 5 5 rfl kC_X4 rfl wF_X4_61 dX4_undoLast_9 ?_
    refine fx_iconst (pc := 12) F ⟨by decide, by decide⟩ dX4_undoLast_12 ?_
    refine fx_isub (pc := 13) F dX4_undoLast_13 ?_
    refine fx_pI (pc := 14) F 4 5 5 rfl kC_X4 rfl rfl (by decide +kernel) wF_X4_61 dX4_undoLast_14 ?_
    refine fx_aload_n (pc := 17) (t := 4) F 0 rfl rfl dX4_undoLast_17 ?_
    refine fx_gR (pc := 18) F 4 8 8 11 rfl kC_X4 (by decide) rfl wF_X4_20 dX4_undoLast_18 ?_
    refine fx_aload_n (pc := 21) (t := 4) F 0 rfl rfl dX4_undoLast_21 ?_
    refine fx_gR (pc := 22) F 4 12 12 8 rfl kC_X4 (by decide) rfl wF_X4_32 dX4_undoLast_22 ?_
    refine fx_aload_n (pc := 25) (t := 4) F 0 rfl rfl dX4_undoLast_25 ?_
    refine fx_gI (pc := 26) F 4 5 5 rfl kC_X4 rfl wF_X4_61 dX4_undoLast_26 ?_
    obtain ⟨v2, e3, hf⟩ := fx_bnd hf
    refine fx_raldI (pc := 29) F e3 dX4_undoLast_29 ?_
    obtain ⟨v4, e5, hf⟩ := fx_bnd hf
    refine fx_raldG (pc := 30) F e5 dX4_undoLast_30 ?_
    refine fx_aload_n (pc := 31) (t := 4) F 0 rfl rfl dX4_undoLast_31 ?_
    refine fx_gR (pc := 32) F 4 11 11 8 rfl kC_X4 (by decide) rfl wF_X4_29 dX4_undoLast_32 ?_
    refine fx_aload_n (pc := 35) (t := 4) F 0 rfl rfl dX4_undoLast_35 ?_
    refine fx_gI (pc := 36) F 4 5 5 rfl kC_X4 rfl wF_X4_61 dX4_undoLast_36 ?_
    obtain ⟨v6, e7, hf⟩ := fx_bnd hf
    refine fx_raldI (pc := 39) F e7 dX4_undoLast_39 ?_
    refine fx_aload_n (pc := 40) (t := 4) F 0 rfl rfl dX4_undoLast_40 ?_
    refine fx_gR (pc := 41) F 4 13 13 8 rfl kC_X4 (by decide) rfl wF_X4_35 dX4_undoLast_41 ?_
    refine fx_aload_n (pc := 44) (t := 4) F 0 rfl rfl dX4_undoLast_44 ?_
    refine fx_gI (pc := 45) F 4 5 5 rfl kC_X4 rfl wF_X4_61 dX4_undoLast_45 ?_
    obtain ⟨v8, e9, hf⟩ := fx_bnd hf
    refine fx_raldI (pc := 48) F e9 dX4_undoLast_48 ?_
    obtain ⟨h10, e11, hf⟩ := fx_bnd hf
    refine fx_rastI (pc := 49) F e11 dX4_undoLast_49 ?_
    cases hf
    exact fx_vreturn (pc := 50) F K dX4_undoLast_50
  · have hf := (if_neg c1).symm.trans hf
    cases hf
    exact fx_vreturn (pc := 50) F K dX4_undoLast_50
def f_X5_undo (Fu : Nat) (Λ : fx_L) (this_0 : Int) (h : fx_H) : Option (Int × fx_H) :=
  if (h (fx_tg Λ this_0 0) 5) < 1 then
    (f_X5_refuseNo Fu Λ this_0 h).bind fun (v2, h3) =>
    some (v2, h3)
  else
    (f_X4_undoLast Fu Λ (fx_tg Λ this_0 0) (fx_up h this_0 13 (fx_w ((h this_0 13) + 1)))).bind fun h5 =>
    some (1, h5)
abbrev rm_X5_undo : Room := { frames := 1, cells := 0, slots := 0, locals := 20 }
set_option maxRecDepth 100000 in
set_option maxHeartbeats 4000000 in
theorem m_X5_undo (Fu : Nat) (Λ : fx_L) (this_0 : Int) (h : fx_H) (r : Int) (ho : fx_H) (hf : f_X5_undo Fu Λ this_0 h = some (r, ho)) : fx_Met yX5_undo cX5_undo 1 (some .int) rm_X5_undo Λ [(7, this_0)] h (some (0, r)) ho := by
  unfold f_X5_undo at hf
  refine fx_enter (ls := [some (7, this_0)]) (by decide) (Nat.le_of_ble_eq_true rfl) rfl (fun M G F K => ?_)
  refine fx_aload_n (pc := 0) (t := 5) F 0 rfl rfl dX5_undo_0 ?_
  refine fx_gR (pc := 1) F 5 0 0 4 rfl kC_X5 (by decide) rfl wF_X5_10 dX5_undo_1 ?_
  refine fx_gI (pc := 4) F 4 5 5 rfl kC_X4 rfl wF_X5_117 dX5_undo_4 ?_
  refine fx_iconst (pc := 7) F ⟨by decide, by decide⟩ dX5_undo_7 ?_
  refine fx_nlt (pc := 8) F 16 (by decide) dX5_undo_8 (fun c1 => ?_) (fun c1 => ?_)
  · have hf := (if_pos c1).symm.trans hf
    refine fx_aload_n (pc := 11) (t := 5) F 0 rfl rfl dX5_undo_11 ?_
    obtain ⟨⟨v2, h3⟩, e4, hf⟩ := fx_bnd hf
    refine fx_cV (pc := 12) F 5 kC_X5 [] this_0 [] (m_X5_refuseNo Fu Λ this_0 h _ _ e4) kD_X5_refuseNo kI_X5_refuseNo rfl wM_X5_120 ⟨rfl, rfl⟩ ⟨by decide, by decide⟩ (Nat.le_of_ble_eq_true rfl) rfl dX5_undo_12 ?_
    cases hf
    exact fx_ireturn (pc := 15) F K dX5_undo_15
  · have hf := (if_neg c1).symm.trans hf
    refine fx_aload_n (pc := 16) (t := 5) F 0 rfl rfl dX5_undo_16 ?_
    refine fx_dup (pc := 17) F (show (7 : Nat) ≠ 1 by decide) dX5_undo_17 ?_
    refine fx_gI (pc := 18) F 5 13 13 rfl kC_X5 rfl wF_X5_75 dX5_undo_18 ?_
    refine fx_iconst (pc := 21) F ⟨by decide, by decide⟩ dX5_undo_21 ?_
    refine fx_iadd (pc := 22) F dX5_undo_22 ?_
    refine fx_pI (pc := 23) F 5 13 13 rfl kC_X5 rfl rfl (by decide +kernel) wF_X5_75 dX5_undo_23 ?_
    refine fx_aload_n (pc := 26) (t := 5) F 0 rfl rfl dX5_undo_26 ?_
    refine fx_gR (pc := 27) F 5 0 0 4 rfl kC_X5 (by decide) rfl wF_X5_10 dX5_undo_27 ?_
    obtain ⟨h5, e6, hf⟩ := fx_bnd hf
    refine fx_cVv (pc := 30) F 4 kC_X4 [] (fx_tg Λ this_0 0) [] (m_X4_undoLast Fu Λ (fx_tg Λ this_0 0) (fx_up h this_0 13 (fx_w ((h this_0 13) + 1))) _ e6) kD_X4_undoLast kI_X4_undoLast rfl wM_X5_123 ⟨rfl, rfl⟩ ⟨by decide, by decide⟩ (Nat.le_of_ble_eq_true rfl) rfl dX5_undo_30 ?_
    refine fx_iconst (pc := 33) F ⟨by decide, by decide⟩ dX5_undo_33 ?_
    cases hf
    exact fx_ireturn (pc := 34) F K dX5_undo_34
def s_X4_needed_1 (Fu : Nat) (Λ : fx_L) (this_3 : Int) (person_4 : Int) (h : fx_H) : Int × Int → Option ((Int × Int) ⊕ (Int × Int)) := fun (sum_1, t_2) =>
  if t_2 < (h this_3 0) then
    (fx_rr Λ (fx_tg Λ this_3 9) person_4).bind fun v7 =>
    (fx_rd Λ h v7 t_2).bind fun v9 =>
    some (.inl ((fx_w (sum_1 + v9)), (fx_w (t_2 + 1))))
  else
    some (.inr (sum_1, t_2))
def f_X4_needed (Fu : Nat) (Λ : fx_L) (this_0 : Int) (person_0 : Int) (h : fx_H) : Option (Int) :=
  Option.bind (fx_loop (s_X4_needed_1 Fu Λ this_0 person_0 h) Fu (0, 0)) fun (sum_19, t_20) =>
  some sum_19
abbrev rm_X4_needed : Room := { frames := 0, cells := 0, slots := 0, locals := 0 }
set_option maxRecDepth 100000 in
set_option maxHeartbeats 4000000 in
theorem m_X4_needed (Fu : Nat) (Λ : fx_L) (this_0 : Int) (person_0 : Int) (h : fx_H) (r : Int) (hf : f_X4_needed Fu Λ this_0 person_0 h = some r) : fx_Met yX4_needed cX4_needed 4 (some .int) rm_X4_needed Λ [(6, this_0), (0, person_0)] h (some (0, r)) h := by
  unfold f_X4_needed at hf
  refine fx_enter (ls := [some (6, this_0), some (0, person_0), none, none]) (by decide) (Nat.le_of_ble_eq_true rfl) rfl (fun M G F K => ?_)
  refine fx_iconst (pc := 0) F ⟨by decide, by decide⟩ dX4_needed_0 ?_
  refine fx_istore_n (pc := 1) (ls' := [some (6, this_0), some (0, person_0), some (0, 0), none]) F 2 rfl (by decide) rfl rfl dX4_needed_1 ?_
  refine fx_iconst (pc := 2) F ⟨by decide, by decide⟩ dX4_needed_2 ?_
  refine fx_istore_n (pc := 3) (ls' := [some (6, this_0), some (0, person_0), some (0, 0), some (0, 0)]) F 3 rfl (by decide) rfl rfl dX4_needed_3 ?_
  obtain ⟨⟨sum_19, t_20⟩, e21, hf⟩ := fx_bnd hf
  have hE22 : fx_J M G Λ 4 29 [some (6, this_0), some (0, person_0), some (0, sum_19), some (0, t_20)] [] h := by
    refine fx_iload_n (pc := 29) F 2 rfl rfl dX4_needed_29 ?_
    cases hf
    exact fx_ireturn (pc := 30) F K dX4_needed_30
  refine fx_loop_J (Hd := (fun z : Int × Int => fx_J M G Λ 4 4 [some (6, this_0), some (0, person_0), some (0, z.1), some (0, z.2)] [] h)) (Ex := (fun z : Int × Int => fx_J M G Λ 4 29 [some (6, this_0), some (0, person_0), some (0, z.1), some (0, z.2)] [] h)) ?_ Fu _ _ e21 hE22
  rintro ⟨sum_11, t_12⟩ o9 eq13 ih ex
  unfold s_X4_needed_1 at eq13
  show fx_J M G Λ 4 4 [some (6, this_0), some (0, person_0), some (0, sum_11), some (0, t_12)] [] h
  refine fx_iload_n (pc := 4) F 3 rfl rfl dX4_needed_4 ?_
  refine fx_aload_n (pc := 5) (t := 4) F 0 rfl rfl dX4_needed_5 ?_
  refine fx_gI (pc := 6) F 4 0 0 rfl kC_X4 rfl wF_X4_41 dX4_needed_6 ?_
  refine fx_nlt (pc := 9) F 29 (by decide) dX4_needed_9 (fun c14 => ?_) (fun c14 => ?_)
  · have eq13 := (if_pos c14).symm.trans eq13
    refine fx_iload_n (pc := 12) F 2 rfl rfl dX4_needed_12 ?_
    refine fx_aload_n (pc := 13) (t := 4) F 0 rfl rfl dX4_needed_13 ?_
    refine fx_gR (pc := 14) F 4 9 9 11 rfl kC_X4 (by decide) rfl wF_X4_23 dX4_needed_14 ?_
    refine fx_iload_n (pc := 17) F 1 rfl rfl dX4_needed_17 ?_
    obtain ⟨v15, e16, eq13⟩ := fx_bnd eq13
    refine fx_raldG (pc := 18) F e16 dX4_needed_18 ?_
    refine fx_iload_n (pc := 19) F 3 rfl rfl dX4_needed_19 ?_
    obtain ⟨v17, e18, eq13⟩ := fx_bnd eq13
    refine fx_raldI (pc := 20) F e18 dX4_needed_20 ?_
    refine fx_iadd (pc := 21) F dX4_needed_21 ?_
    refine fx_istore_n (pc := 22) (ls' := [some (6, this_0), some (0, person_0), some (0, (fx_w (sum_11 + v17))), some (0, t_12)]) F 2 rfl (by decide) rfl rfl dX4_needed_22 ?_
    refine fx_iinc (pc := 23) (ls' := [some (6, this_0), some (0, person_0), some (0, (fx_w (sum_11 + v17))), some (0, (fx_w (t_12 + 1)))]) F (by decide) rfl rfl rfl dX4_needed_23 ?_
    refine fx_goto (pc := 26) F 4 (by decide) dX4_needed_26 ?_
    cases eq13
    exact ih _ rfl
  · have eq13 := (if_neg c14).symm.trans eq13
    cases eq13
    exact ex _ rfl
def f_X4_mostNeeded (Fu : Nat) (Λ : fx_L) (this_0 : Int) (person_0 : Int) (thing_0 : Int) (h : fx_H) : Option (Int) :=
  (f_X4_needed Fu Λ this_0 person_0 h).bind fun v1 =>
  (fx_rr Λ (fx_tg Λ this_0 9) person_0).bind fun v3 =>
  (fx_rd Λ h v3 thing_0).bind fun v5 =>
  some (min 5 (fx_w ((fx_w ((h this_0 3) - v1)) + v5)))
abbrev rm_X4_mostNeeded : Room := { frames := 1, cells := 0, slots := 0, locals := 23 }
set_option maxRecDepth 100000 in
set_option maxHeartbeats 4000000 in
theorem m_X4_mostNeeded (Fu : Nat) (Λ : fx_L) (this_0 : Int) (person_0 : Int) (thing_0 : Int) (h : fx_H) (r : Int) (hf : f_X4_mostNeeded Fu Λ this_0 person_0 thing_0 h = some r) : fx_Met yX4_mostNeeded cX4_mostNeeded 3 (some .int) rm_X4_mostNeeded Λ [(6, this_0), (0, person_0), (0, thing_0)] h (some (0, r)) h := by
  unfold f_X4_mostNeeded at hf
  refine fx_enter (ls := [some (6, this_0), some (0, person_0), some (0, thing_0)]) (by decide) (Nat.le_of_ble_eq_true rfl) rfl (fun M G F K => ?_)
  refine fx_iconst (pc := 0) F ⟨by decide, by decide⟩ dX4_mostNeeded_0 ?_
  refine fx_aload_n (pc := 1) (t := 4) F 0 rfl rfl dX4_mostNeeded_1 ?_
  refine fx_gI (pc := 2) F 4 3 3 rfl kC_X4 rfl wF_X4_55 dX4_mostNeeded_2 ?_
  refine fx_aload_n (pc := 5) (t := 4) F 0 rfl rfl dX4_mostNeeded_5 ?_
  refine fx_iload_n (pc := 6) F 1 rfl rfl dX4_mostNeeded_6 ?_
  obtain ⟨v1, e2, hf⟩ := fx_bnd hf
  refine fx_cV (pc := 7) F 4 kC_X4 [(0, person_0)] this_0 [(0, (h this_0 3)), (0, 5)] (m_X4_needed Fu Λ this_0 person_0 h _ e2) kD_X4_needed kI_X4_needed rfl wM_X4_80 ⟨rfl, rfl⟩ ⟨by decide, by decide⟩ (Nat.le_of_ble_eq_true rfl) rfl dX4_mostNeeded_7 ?_
  refine fx_isub (pc := 10) F dX4_mostNeeded_10 ?_
  refine fx_aload_n (pc := 11) (t := 4) F 0 rfl rfl dX4_mostNeeded_11 ?_
  refine fx_gR (pc := 12) F 4 9 9 11 rfl kC_X4 (by decide) rfl wF_X4_23 dX4_mostNeeded_12 ?_
  refine fx_iload_n (pc := 15) F 1 rfl rfl dX4_mostNeeded_15 ?_
  obtain ⟨v3, e4, hf⟩ := fx_bnd hf
  refine fx_raldG (pc := 16) F e4 dX4_mostNeeded_16 ?_
  refine fx_iload_n (pc := 17) F 2 rfl rfl dX4_mostNeeded_17 ?_
  obtain ⟨v5, e6, hf⟩ := fx_bnd hf
  refine fx_raldI (pc := 18) F e6 dX4_mostNeeded_18 ?_
  refine fx_iadd (pc := 19) F dX4_mostNeeded_19 ?_
  refine fx_imin (pc := 20) F wM_X4_84 wSt_min wI_J9 wCo_min (by decide) (Nat.le_of_ble_eq_true rfl) dX4_mostNeeded_20 ?_
  cases hf
  exact fx_ireturn (pc := 23) F K dX4_mostNeeded_23
def f_X5_need (Fu : Nat) (Λ : fx_L) (this_0 : Int) (person_0 : Int) (thing_0 : Int) (n_0 : Int) (h : fx_H) : Option (Int × fx_H) :=
  Option.bind (
    (f_X4_hasPerson Fu Λ (fx_tg Λ this_0 0) person_0 h).bind fun v5 =>
    if v5 = 0 then
      some true
    else
      (f_X4_hasThing Fu Λ (fx_tg Λ this_0 0) thing_0 h).bind fun v8 =>
      if v8 = 0 then
        some true
      else
        (f_X4_mostNeeded Fu Λ (fx_tg Λ this_0 0) person_0 thing_0 h).bind fun v11 =>
        (f_X5_within Fu Λ n_0 0 v11 h).bind fun v13 =>
        if v13 = 0 then
          some true
        else
          some false
  ) fun b1 =>
  if b1 = true then
    (f_X5_refuseBad Fu Λ this_0 (-2) h).bind fun (v17, h18) =>
    some (v17, h18)
  else
    (fx_rr Λ (fx_tg Λ (fx_tg Λ this_0 0) 9) person_0).bind fun v20 =>
    (fx_rd Λ (fx_up h this_0 13 (fx_w ((h this_0 13) + 1))) v20 thing_0).bind fun v22 =>
    (fx_rr Λ (fx_tg Λ (fx_tg Λ this_0 0) 9) person_0).bind fun v24 =>
    (fx_wr Λ (fx_up h this_0 13 (fx_w ((h this_0 13) + 1))) v24 thing_0 n_0).bind fun h26 =>
    some (v22, h26)
abbrev rm_X5_need : Room := { frames := 2, cells := 0, slots := 0, locals := 45 }
set_option maxRecDepth 100000 in
set_option maxHeartbeats 4000000 in
theorem m_X5_need (Fu : Nat) (Λ : fx_L) (this_0 : Int) (person_0 : Int) (thing_0 : Int) (n_0 : Int) (h : fx_H) (r : Int) (ho : fx_H) (hf : f_X5_need Fu Λ this_0 person_0 thing_0 n_0 h = some (r, ho)) : fx_Met yX5_need cX5_need 5 (some .int) rm_X5_need Λ [(7, this_0), (0, person_0), (0, thing_0), (0, n_0)] h (some (0, r)) ho := by
  unfold f_X5_need at hf
  refine fx_enter (ls := [some (7, this_0), some (0, person_0), some (0, thing_0), some (0, n_0), none]) (by decide) (Nat.le_of_ble_eq_true rfl) rfl (fun M G F K => ?_)
  obtain ⟨b1, e2, hf⟩ := fx_bnd hf
  have hT3 : b1 = true → fx_J M G Λ 5 39 [some (7, this_0), some (0, person_0), some (0, thing_0), some (0, n_0), none] [] h := fun c16 => by
    have hf := (if_pos c16).symm.trans hf
    refine fx_aload_n (pc := 39) (t := 5) F 0 rfl rfl dX5_need_39 ?_
    refine fx_bipush (pc := 40) F ⟨by decide, by decide⟩ (by decide) dX5_need_40 ?_
    obtain ⟨⟨v17, h18⟩, e19, hf⟩ := fx_bnd hf
    refine fx_cV (pc := 42) F 5 kC_X5 [(0, (-2))] this_0 [] (m_X5_refuseBad Fu Λ this_0 (-2) h _ _ e19) kD_X5_refuseBad kI_X5_refuseBad rfl wM_X5_63 ⟨rfl, rfl⟩ ⟨by decide, by decide⟩ (Nat.le_of_ble_eq_true rfl) rfl dX5_need_42 ?_
    cases hf
    exact fx_ireturn (pc := 45) F K dX5_need_45
  have hF4 : ¬ b1 = true → fx_J M G Λ 5 46 [some (7, this_0), some (0, person_0), some (0, thing_0), some (0, n_0), none] [] h := fun c16 => by
    have hf := (if_neg c16).symm.trans hf
    refine fx_aload_n (pc := 46) (t := 5) F 0 rfl rfl dX5_need_46 ?_
    refine fx_dup (pc := 47) F (show (7 : Nat) ≠ 1 by decide) dX5_need_47 ?_
    refine fx_gI (pc := 48) F 5 13 13 rfl kC_X5 rfl wF_X5_75 dX5_need_48 ?_
    refine fx_iconst (pc := 51) F ⟨by decide, by decide⟩ dX5_need_51 ?_
    refine fx_iadd (pc := 52) F dX5_need_52 ?_
    refine fx_pI (pc := 53) F 5 13 13 rfl kC_X5 rfl rfl (by decide +kernel) wF_X5_75 dX5_need_53 ?_
    refine fx_aload_n (pc := 56) (t := 5) F 0 rfl rfl dX5_need_56 ?_
    refine fx_gR (pc := 57) F 5 0 0 4 rfl kC_X5 (by decide) rfl wF_X5_10 dX5_need_57 ?_
    refine fx_gR (pc := 60) F 4 9 9 11 rfl kC_X4 (by decide) rfl wF_X5_129 dX5_need_60 ?_
    refine fx_iload_n (pc := 63) F 1 rfl rfl dX5_need_63 ?_
    obtain ⟨v20, e21, hf⟩ := fx_bnd hf
    refine fx_raldG (pc := 64) F e21 dX5_need_64 ?_
    refine fx_iload_n (pc := 65) F 2 rfl rfl dX5_need_65 ?_
    obtain ⟨v22, e23, hf⟩ := fx_bnd hf
    refine fx_raldI (pc := 66) F e23 dX5_need_66 ?_
    refine fx_istore (pc := 67) (ls' := [some (7, this_0), some (0, person_0), some (0, thing_0), some (0, n_0), some (0, v22)]) F (by decide) rfl rfl dX5_need_67 ?_
    refine fx_aload_n (pc := 69) (t := 5) F 0 rfl rfl dX5_need_69 ?_
    refine fx_gR (pc := 70) F 5 0 0 4 rfl kC_X5 (by decide) rfl wF_X5_10 dX5_need_70 ?_
    refine fx_gR (pc := 73) F 4 9 9 11 rfl kC_X4 (by decide) rfl wF_X5_129 dX5_need_73 ?_
    refine fx_iload_n (pc := 76) F 1 rfl rfl dX5_need_76 ?_
    obtain ⟨v24, e25, hf⟩ := fx_bnd hf
    refine fx_raldG (pc := 77) F e25 dX5_need_77 ?_
    refine fx_iload_n (pc := 78) F 2 rfl rfl dX5_need_78 ?_
    refine fx_iload_n (pc := 79) F 3 rfl rfl dX5_need_79 ?_
    obtain ⟨h26, e27, hf⟩ := fx_bnd hf
    refine fx_rastI (pc := 80) F e27 dX5_need_80 ?_
    refine fx_iload (pc := 81) F rfl dX5_need_81 ?_
    cases hf
    exact fx_ireturn (pc := 83) F K dX5_need_83
  refine fx_aload_n (pc := 0) (t := 5) F 0 rfl rfl dX5_need_0 ?_
  refine fx_gR (pc := 1) F 5 0 0 4 rfl kC_X5 (by decide) rfl wF_X5_10 dX5_need_1 ?_
  refine fx_iload_n (pc := 4) F 1 rfl rfl dX5_need_4 ?_
  obtain ⟨v5, e6, e2⟩ := fx_bnd e2
  refine fx_cV (pc := 5) F 4 kC_X4 [(0, person_0)] (fx_tg Λ this_0 0) [] (m_X4_hasPerson Fu Λ (fx_tg Λ this_0 0) person_0 h _ e6) kD_X4_hasPerson kI_X4_hasPerson rfl wM_X5_100 ⟨rfl, rfl⟩ ⟨by decide, by decide⟩ (Nat.le_of_ble_eq_true rfl) rfl dX5_need_5 ?_
  refine fx_jzeq (pc := 8) F 39 (by decide) dX5_need_8 (fun c7 => ?_) (fun c7 => ?_)
  · have e2 := (if_pos c7).symm.trans e2
    cases e2
    exact hT3 (by decide)
  · have e2 := (if_neg c7).symm.trans e2
    refine fx_aload_n (pc := 11) (t := 5) F 0 rfl rfl dX5_need_11 ?_
    refine fx_gR (pc := 12) F 5 0 0 4 rfl kC_X5 (by decide) rfl wF_X5_10 dX5_need_12 ?_
    refine fx_iload_n (pc := 15) F 2 rfl rfl dX5_need_15 ?_
    obtain ⟨v8, e9, e2⟩ := fx_bnd e2
    refine fx_cV (pc := 16) F 4 kC_X4 [(0, thing_0)] (fx_tg Λ this_0 0) [] (m_X4_hasThing Fu Λ (fx_tg Λ this_0 0) thing_0 h _ e9) kD_X4_hasThing kI_X4_hasThing rfl wM_X5_59 ⟨rfl, rfl⟩ ⟨by decide, by decide⟩ (Nat.le_of_ble_eq_true rfl) rfl dX5_need_16 ?_
    refine fx_jzeq (pc := 19) F 39 (by decide) dX5_need_19 (fun c10 => ?_) (fun c10 => ?_)
    · have e2 := (if_pos c10).symm.trans e2
      cases e2
      exact hT3 (by decide)
    · have e2 := (if_neg c10).symm.trans e2
      refine fx_iload_n (pc := 22) F 3 rfl rfl dX5_need_22 ?_
      refine fx_iconst (pc := 23) F ⟨by decide, by decide⟩ dX5_need_23 ?_
      refine fx_aload_n (pc := 24) (t := 5) F 0 rfl rfl dX5_need_24 ?_
      refine fx_gR (pc := 25) F 5 0 0 4 rfl kC_X5 (by decide) rfl wF_X5_10 dX5_need_25 ?_
      refine fx_iload_n (pc := 28) F 1 rfl rfl dX5_need_28 ?_
      refine fx_iload_n (pc := 29) F 2 rfl rfl dX5_need_29 ?_
      obtain ⟨v11, e12, e2⟩ := fx_bnd e2
      refine fx_cV (pc := 30) F 4 kC_X4 [(0, person_0), (0, thing_0)] (fx_tg Λ this_0 0) [(0, 0), (0, n_0)] (m_X4_mostNeeded Fu Λ (fx_tg Λ this_0 0) person_0 thing_0 h _ e12) kD_X4_mostNeeded kI_X4_mostNeeded rfl wM_X5_126 ⟨rfl, rfl⟩ ⟨by decide, by decide⟩ (Nat.le_of_ble_eq_true rfl) rfl dX5_need_30 ?_
      obtain ⟨v13, e14, e2⟩ := fx_bnd e2
      refine fx_cS (pc := 33) F [(0, n_0), (0, 0), (0, v11)] [] (m_X5_within Fu Λ n_0 0 v11 h _ e14) kD_X5_within wSt_X5_within wM_X5_82 ⟨rfl, rfl⟩ ⟨by decide, by decide⟩ (Nat.le_of_ble_eq_true rfl) rfl dX5_need_33 ?_
      refine fx_nzeq (pc := 36) F 46 (by decide) dX5_need_36 (fun c15 => ?_) (fun c15 => ?_)
      · have e2 := (if_pos c15).symm.trans e2
        cases e2
        exact hT3 (by decide)
      · have e2 := (if_neg c15).symm.trans e2
        cases e2
        exact hF4 (by decide)
def f_X3_append (Fu : Nat) (Λ : fx_L) (this_0 : Int) (b_0 : Int) (h : fx_H) : Option (fx_H) :=
  if (h this_0 1) < 250 then
    (fx_wr Λ h (fx_tg Λ this_0 0) (h this_0 1) (fx_b b_0)).bind fun h2 =>
    some (fx_up h2 this_0 1 (fx_w ((h2 this_0 1) + 1)))
  else
    some h
abbrev rm_X3_append : Room := { frames := 0, cells := 0, slots := 0, locals := 0 }
set_option maxRecDepth 100000 in
set_option maxHeartbeats 4000000 in
theorem m_X3_append (Fu : Nat) (Λ : fx_L) (this_0 : Int) (b_0 : Int) (h : fx_H) (ho : fx_H) (hf : f_X3_append Fu Λ this_0 b_0 h = some ho) : fx_Met yX3_append cX3_append 2 none rm_X3_append Λ [(5, this_0), (0, b_0)] h none ho := by
  unfold f_X3_append at hf
  refine fx_enter (ls := [some (5, this_0), some (0, b_0)]) (by decide) (Nat.le_of_ble_eq_true rfl) rfl (fun M G F K => ?_)
  refine fx_aload_n (pc := 0) (t := 3) F 0 rfl rfl dX3_append_0 ?_
  refine fx_gI (pc := 1) F 3 1 1 rfl kC_X3 rfl wF_X3_15 dX3_append_1 ?_
  refine fx_sipush (pc := 4) F ⟨by decide, by decide⟩ (by decide) dX3_append_4 ?_
  refine fx_nlt (pc := 7) F 30 (by decide) dX3_append_7 (fun c1 => ?_) (fun c1 => ?_)
  · have hf := (if_pos c1).symm.trans hf
    refine fx_aload_n (pc := 10) (t := 3) F 0 rfl rfl dX3_append_10 ?_
    refine fx_gR (pc := 11) F 3 0 0 7 rfl kC_X3 (by decide) rfl wF_X3_9 dX3_append_11 ?_
    refine fx_aload_n (pc := 14) (t := 3) F 0 rfl rfl dX3_append_14 ?_
    refine fx_gI (pc := 15) F 3 1 1 rfl kC_X3 rfl wF_X3_15 dX3_append_15 ?_
    refine fx_iload_n (pc := 18) F 1 rfl rfl dX3_append_18 ?_
    obtain ⟨h2, e3, hf⟩ := fx_bnd hf
    refine fx_rastB (pc := 19) F e3 dX3_append_19 ?_
    refine fx_aload_n (pc := 20) (t := 3) F 0 rfl rfl dX3_append_20 ?_
    refine fx_dup (pc := 21) F (show (5 : Nat) ≠ 1 by decide) dX3_append_21 ?_
    refine fx_gI (pc := 22) F 3 1 1 rfl kC_X3 rfl wF_X3_15 dX3_append_22 ?_
    refine fx_iconst (pc := 25) F ⟨by decide, by decide⟩ dX3_append_25 ?_
    refine fx_iadd (pc := 26) F dX3_append_26 ?_
    refine fx_pI (pc := 27) F 3 1 1 rfl kC_X3 rfl rfl (by decide +kernel) wF_X3_15 dX3_append_27 ?_
    cases hf
    exact fx_vreturn (pc := 30) F K dX3_append_30
  · have hf := (if_neg c1).symm.trans hf
    cases hf
    exact fx_vreturn (pc := 30) F K dX3_append_30
def s_X5_type_1 (Fu : Nat) (Λ : fx_L) (this_13 : Int) (v_14 : Int) : Int × fx_H → Option ((Int × fx_H) ⊕ (Int × fx_H)) := fun (i_11, h12) =>
  if 0 ≤ i_11 then
    (f_X3_append Fu Λ (fx_tg Λ this_13 4) (fx_b (fx_w (fx_lushr v_14 (fx_w (8 * i_11))))) h12).bind fun h17 =>
    some (.inl ((fx_w (i_11 + (-1))), h17))
  else
    some (.inr (i_11, h12))
def f_X5_type (Fu : Nat) (Λ : fx_L) (this_0 : Int) (v_0 : Int) (n_0 : Int) (h : fx_H) : Option (Int × fx_H) :=
  (f_X5_within Fu Λ n_0 1 8 h).bind fun v1 =>
  if v1 = 0 then
    (f_X5_refuseBad Fu Λ this_0 (-2) h).bind fun (v4, h5) =>
    some (v4, h5)
  else
    if 250 < (fx_w ((h (fx_tg Λ this_0 4) 1) + n_0)) then
      (f_X5_refuseFull Fu Λ this_0 h).bind fun (v8, h9) =>
      some (v8, h9)
    else
      Option.bind (fx_loop (s_X5_type_1 Fu Λ this_0 v_0) Fu ((fx_w (n_0 - 1)), h)) fun (i_25, h26) =>
      some ((h26 (fx_tg Λ this_0 4) 1), h26)
abbrev rm_X5_type : Room := { frames := 1, cells := 0, slots := 0, locals := 22 }
set_option maxRecDepth 100000 in
set_option maxHeartbeats 4000000 in
theorem m_X5_type (Fu : Nat) (Λ : fx_L) (this_0 : Int) (v_0 : Int) (n_0 : Int) (h : fx_H) (r : Int) (ho : fx_H) (hf : f_X5_type Fu Λ this_0 v_0 n_0 h = some (r, ho)) : fx_Met yX5_type cX5_type 5 (some .int) rm_X5_type Λ [(7, this_0), (1, v_0), (0, n_0)] h (some (0, r)) ho := by
  unfold f_X5_type at hf
  refine fx_enter (ls := [some (7, this_0), some (1, v_0), none, some (0, n_0), none]) (by decide) (Nat.le_of_ble_eq_true rfl) rfl (fun M G F K => ?_)
  refine fx_iload_n (pc := 0) F 3 rfl rfl dX5_type_0 ?_
  refine fx_iconst (pc := 1) F ⟨by decide, by decide⟩ dX5_type_1 ?_
  refine fx_bipush (pc := 2) F ⟨by decide, by decide⟩ (by decide) dX5_type_2 ?_
  obtain ⟨v1, e2, hf⟩ := fx_bnd hf
  refine fx_cS (pc := 4) F [(0, n_0), (0, 1), (0, 8)] [] (m_X5_within Fu Λ n_0 1 8 h _ e2) kD_X5_within wSt_X5_within wM_X5_82 ⟨rfl, rfl⟩ ⟨by decide, by decide⟩ (Nat.le_of_ble_eq_true rfl) rfl dX5_type_4 ?_
  refine fx_nzeq (pc := 7) F 17 (by decide) dX5_type_7 (fun c3 => ?_) (fun c3 => ?_)
  · have hf := (if_pos c3).symm.trans hf
    refine fx_aload_n (pc := 10) (t := 5) F 0 rfl rfl dX5_type_10 ?_
    refine fx_bipush (pc := 11) F ⟨by decide, by decide⟩ (by decide) dX5_type_11 ?_
    obtain ⟨⟨v4, h5⟩, e6, hf⟩ := fx_bnd hf
    refine fx_cV (pc := 13) F 5 kC_X5 [(0, (-2))] this_0 [] (m_X5_refuseBad Fu Λ this_0 (-2) h _ _ e6) kD_X5_refuseBad kI_X5_refuseBad rfl wM_X5_63 ⟨rfl, rfl⟩ ⟨by decide, by decide⟩ (Nat.le_of_ble_eq_true rfl) rfl dX5_type_13 ?_
    cases hf
    exact fx_ireturn (pc := 16) F K dX5_type_16
  · have hf := (if_neg c3).symm.trans hf
    refine fx_aload_n (pc := 17) (t := 5) F 0 rfl rfl dX5_type_17 ?_
    refine fx_gR (pc := 18) F 5 4 4 3 rfl kC_X5 (by decide) rfl wF_X5_30 dX5_type_18 ?_
    refine fx_gI (pc := 21) F 3 1 1 rfl kC_X3 rfl wF_X5_132 dX5_type_21 ?_
    refine fx_iload_n (pc := 24) F 3 rfl rfl dX5_type_24 ?_
    refine fx_iadd (pc := 25) F dX5_type_25 ?_
    refine fx_sipush (pc := 26) F ⟨by decide, by decide⟩ (by decide) dX5_type_26 ?_
    refine fx_ngt (pc := 29) F 37 (by decide) dX5_type_29 (fun c7 => ?_) (fun c7 => ?_)
    · have hf := (if_pos c7).symm.trans hf
      refine fx_aload_n (pc := 32) (t := 5) F 0 rfl rfl dX5_type_32 ?_
      obtain ⟨⟨v8, h9⟩, e10, hf⟩ := fx_bnd hf
      refine fx_cV (pc := 33) F 5 kC_X5 [] this_0 [] (m_X5_refuseFull Fu Λ this_0 h _ _ e10) kD_X5_refuseFull kI_X5_refuseFull rfl wM_X5_71 ⟨rfl, rfl⟩ ⟨by decide, by decide⟩ (Nat.le_of_ble_eq_true rfl) rfl dX5_type_33 ?_
      cases hf
      exact fx_ireturn (pc := 36) F K dX5_type_36
    · have hf := (if_neg c7).symm.trans hf
      refine fx_iload_n (pc := 37) F 3 rfl rfl dX5_type_37 ?_
      refine fx_iconst (pc := 38) F ⟨by decide, by decide⟩ dX5_type_38 ?_
      refine fx_isub (pc := 39) F dX5_type_39 ?_
      refine fx_istore (pc := 40) (ls' := [some (7, this_0), some (1, v_0), none, some (0, n_0), some (0, (fx_w (n_0 - 1)))]) F (by decide) rfl rfl dX5_type_40 ?_
      obtain ⟨⟨i_25, h26⟩, e27, hf⟩ := fx_bnd hf
      have hE28 : fx_J M G Λ 5 69 [some (7, this_0), some (1, v_0), none, some (0, n_0), some (0, i_25)] [] h26 := by
        refine fx_aload_n (pc := 69) (t := 5) F 0 rfl rfl dX5_type_69 ?_
        refine fx_gR (pc := 70) F 5 4 4 3 rfl kC_X5 (by decide) rfl wF_X5_30 dX5_type_70 ?_
        refine fx_gI (pc := 73) F 3 1 1 rfl kC_X3 rfl wF_X5_132 dX5_type_73 ?_
        cases hf
        exact fx_ireturn (pc := 76) F K dX5_type_76
      refine fx_loop_J (Hd := (fun z : Int × fx_H => fx_J M G Λ 5 42 [some (7, this_0), some (1, v_0), none, some (0, n_0), some (0, z.1)] [] z.2)) (Ex := (fun z : Int × fx_H => fx_J M G Λ 5 69 [some (7, this_0), some (1, v_0), none, some (0, n_0), some (0, z.1)] [] z.2)) ?_ Fu _ _ e27 hE28
      rintro ⟨i_19, h20⟩ o9 eq21 ih ex
      unfold s_X5_type_1 at eq21
      show fx_J M G Λ 5 42 [some (7, this_0), some (1, v_0), none, some (0, n_0), some (0, i_19)] [] h20
      refine fx_iload (pc := 42) F rfl dX5_type_42 ?_
      refine fx_nzge (pc := 44) F 69 (by decide) dX5_type_44 (fun c22 => ?_) (fun c22 => ?_)
      · have eq21 := (if_pos c22).symm.trans eq21
        refine fx_aload_n (pc := 47) (t := 5) F 0 rfl rfl dX5_type_47 ?_
        refine fx_gR (pc := 48) F 5 4 4 3 rfl kC_X5 (by decide) rfl wF_X5_30 dX5_type_48 ?_
        refine fx_lload_n (pc := 51) F 1 rfl rfl dX5_type_51 ?_
        refine fx_bipush (pc := 52) F ⟨by decide, by decide⟩ (by decide) dX5_type_52 ?_
        refine fx_iload (pc := 54) F rfl dX5_type_54 ?_
        refine fx_imul (pc := 56) F dX5_type_56 ?_
        refine fx_rlushr (pc := 57) F dX5_type_57 ?_
        refine fx_rl2i (pc := 58) F dX5_type_58 ?_
        refine fx_ri2b (pc := 59) F dX5_type_59 ?_
        obtain ⟨h23, e24, eq21⟩ := fx_bnd eq21
        refine fx_cVv (pc := 60) F 3 kC_X3 [(0, (fx_b (fx_w (fx_lushr v_0 (fx_w (8 * i_19))))))] (fx_tg Λ this_0 4) [] (m_X3_append Fu Λ (fx_tg Λ this_0 4) (fx_b (fx_w (fx_lushr v_0 (fx_w (8 * i_19))))) h20 _ e24) kD_X3_append kI_X3_append rfl wM_X5_135 ⟨rfl, rfl⟩ ⟨by decide, by decide⟩ (Nat.le_of_ble_eq_true rfl) rfl dX5_type_60 ?_
        refine fx_iinc (pc := 63) (ls' := [some (7, this_0), some (1, v_0), none, some (0, n_0), some (0, (fx_w (i_19 + (-1))))]) F (by decide) rfl rfl rfl dX5_type_63 ?_
        refine fx_goto (pc := 66) F 42 (by decide) dX5_type_66 ?_
        cases eq21
        exact ih _ rfl
      · have eq21 := (if_neg c22).symm.trans eq21
        cases eq21
        exact ex _ rfl
def f_X5_clear (Fu : Nat) (Λ : fx_L) (this_0 : Int) (h : fx_H) : Option (Int × fx_H) :=
  some ((h (fx_tg Λ this_0 4) 1), (fx_up h (fx_tg Λ this_0 4) 1 0))
abbrev rm_X5_clear : Room := { frames := 0, cells := 0, slots := 0, locals := 0 }
set_option maxRecDepth 100000 in
set_option maxHeartbeats 4000000 in
theorem m_X5_clear (Fu : Nat) (Λ : fx_L) (this_0 : Int) (h : fx_H) (r : Int) (ho : fx_H) (hf : f_X5_clear Fu Λ this_0 h = some (r, ho)) : fx_Met yX5_clear cX5_clear 2 (some .int) rm_X5_clear Λ [(7, this_0)] h (some (0, r)) ho := by
  unfold f_X5_clear at hf
  refine fx_enter (ls := [some (7, this_0), none]) (by decide) (Nat.le_of_ble_eq_true rfl) rfl (fun M G F K => ?_)
  refine fx_aload_n (pc := 0) (t := 5) F 0 rfl rfl dX5_clear_0 ?_
  refine fx_gR (pc := 1) F 5 4 4 3 rfl kC_X5 (by decide) rfl wF_X5_30 dX5_clear_1 ?_
  refine fx_gI (pc := 4) F 3 1 1 rfl kC_X3 rfl wF_X5_132 dX5_clear_4 ?_
  refine fx_istore_n (pc := 7) (ls' := [some (7, this_0), some (0, (h (fx_tg Λ this_0 4) 1))]) F 1 rfl (by decide) rfl rfl dX5_clear_7 ?_
  refine fx_aload_n (pc := 8) (t := 5) F 0 rfl rfl dX5_clear_8 ?_
  refine fx_gR (pc := 9) F 5 4 4 3 rfl kC_X5 (by decide) rfl wF_X5_30 dX5_clear_9 ?_
  refine fx_iconst (pc := 12) F ⟨by decide, by decide⟩ dX5_clear_12 ?_
  refine fx_pI (pc := 13) F 3 1 1 rfl kC_X3 rfl rfl (by decide +kernel) wF_X5_132 dX5_clear_13 ?_
  refine fx_iload_n (pc := 16) F 1 rfl rfl dX5_clear_16 ?_
  cases hf
  exact fx_ireturn (pc := 17) F K dX5_clear_17
def f_X4_begin (Fu : Nat) (Λ : fx_L) (this_0 : Int) (h : fx_H) : Option (fx_H) :=
  (f_X4_settle Fu Λ this_0 3 4 (fx_up (fx_up h this_0 0 0) this_0 1 4)).bind fun h1 =>
  some h1
abbrev rm_X4_begin : Room := { frames := 2, cells := 0, slots := 0, locals := 46 }
set_option maxRecDepth 100000 in
set_option maxHeartbeats 4000000 in
theorem m_X4_begin (Fu : Nat) (Λ : fx_L) (this_0 : Int) (h : fx_H) (ho : fx_H) (hf : f_X4_begin Fu Λ this_0 h = some ho) : fx_Met yX4_begin cX4_begin 1 none rm_X4_begin Λ [(6, this_0)] h none ho := by
  unfold f_X4_begin at hf
  refine fx_enter (ls := [some (6, this_0)]) (by decide) (Nat.le_of_ble_eq_true rfl) rfl (fun M G F K => ?_)
  refine fx_aload_n (pc := 0) (t := 4) F 0 rfl rfl dX4_begin_0 ?_
  refine fx_iconst (pc := 1) F ⟨by decide, by decide⟩ dX4_begin_1 ?_
  refine fx_pI (pc := 2) F 4 0 0 rfl kC_X4 rfl rfl (by decide +kernel) wF_X4_41 dX4_begin_2 ?_
  refine fx_aload_n (pc := 5) (t := 4) F 0 rfl rfl dX4_begin_5 ?_
  refine fx_iconst (pc := 6) F ⟨by decide, by decide⟩ dX4_begin_6 ?_
  refine fx_pI (pc := 7) F 4 1 1 rfl kC_X4 rfl rfl (by decide +kernel) wF_X4_45 dX4_begin_7 ?_
  refine fx_aload_n (pc := 10) (t := 4) F 0 rfl rfl dX4_begin_10 ?_
  refine fx_iconst (pc := 11) F ⟨by decide, by decide⟩ dX4_begin_11 ?_
  refine fx_iconst (pc := 12) F ⟨by decide, by decide⟩ dX4_begin_12 ?_
  obtain ⟨h1, e2, hf⟩ := fx_bnd hf
  refine fx_cVv (pc := 13) F 4 kC_X4 [(0, 3), (0, 4)] this_0 [] (m_X4_settle Fu Λ this_0 3 4 (fx_up (fx_up h this_0 0 0) this_0 1 4) _ e2) kD_X4_settle kI_X4_settle rfl wM_X4_48 ⟨rfl, rfl⟩ ⟨by decide, by decide⟩ (Nat.le_of_ble_eq_true rfl) rfl dX4_begin_13 ?_
  cases hf
  exact fx_vreturn (pc := 16) F K dX4_begin_16
def f_X3_isLetter (Fu : Nat) (Λ : fx_L) (b_0 : Int) (h : fx_H) : Option (Int) :=
  Option.bind (
    if ((97 ≤ b_0) ∧ (b_0 ≤ 122)) then
      some (1 : Int)
    else
      some (0 : Int)
  ) fun v1 =>
  (fx_zb v1).bind fun z9 =>
  some z9
abbrev rm_X3_isLetter : Room := { frames := 0, cells := 0, slots := 0, locals := 0 }
set_option maxRecDepth 100000 in
set_option maxHeartbeats 4000000 in
theorem m_X3_isLetter (Fu : Nat) (Λ : fx_L) (b_0 : Int) (h : fx_H) (r : Int) (hf : f_X3_isLetter Fu Λ b_0 h = some r) : fx_Met yX3_isLetter cX3_isLetter 1 (some .boolean) rm_X3_isLetter Λ [(0, b_0)] h (some (0, r)) h := by
  unfold f_X3_isLetter at hf
  refine fx_enter (ls := [some (0, b_0)]) (by decide) (Nat.le_of_ble_eq_true rfl) rfl (fun M G F K => ?_)
  obtain ⟨v1, e2, hf⟩ := fx_bnd hf
  have hJ3 : fx_J M G Λ 1 17 [some (0, b_0)] [(0, v1)] h := by
    obtain ⟨z9, e10, hf⟩ := fx_bnd hf
    obtain ⟨e10, hzz9⟩ := fx_zb_use e10
    refine fx_top (X := fx_X) e10 ?_
    cases hf
    exact fx_zreturn (pc := 17) F hzz9 K dX3_isLetter_17
  refine fx_iload_n (pc := 0) F 0 rfl rfl dX3_isLetter_0 ?_
  refine fx_bipush (pc := 1) F ⟨by decide, by decide⟩ (by decide) dX3_isLetter_1 ?_
  have hT4 : (((97 ≤ b_0) ∧ (b_0 ≤ 122))) → fx_J M G Λ 1 12 [some (0, b_0)] [] h := fun c8 => by
    have e2 := (if_pos c8).symm.trans e2
    refine fx_iconst (pc := 12) F ⟨by decide, by decide⟩ dX3_isLetter_12 ?_
    cases e2
    refine fx_goto (pc := 13) F 17 (by decide) dX3_isLetter_13 ?_
    exact hJ3
  have hF5 : ¬ (((97 ≤ b_0) ∧ (b_0 ≤ 122))) → fx_J M G Λ 1 16 [some (0, b_0)] [] h := fun c8 => by
    have e2 := (if_neg c8).symm.trans e2
    refine fx_iconst (pc := 16) F ⟨by decide, by decide⟩ dX3_isLetter_16 ?_
    cases e2
    exact hJ3
  refine fx_nge (pc := 3) F 16 (by decide) dX3_isLetter_3 (fun c6 => ?_) (fun c6 => ?_)
  · refine fx_iload_n (pc := 6) F 0 rfl rfl dX3_isLetter_6 ?_
    refine fx_bipush (pc := 7) F ⟨by decide, by decide⟩ (by decide) dX3_isLetter_7 ?_
    refine fx_nle (pc := 9) F 16 (by decide) dX3_isLetter_9 (fun c7 => ?_) (fun c7 => ?_)
    · exact hT4 ⟨c6, c7⟩
    · exact hF5 (fun q => c7 q.2)
  · exact hF5 (fun q => c6 q.1)
def f_X3_isFigure (Fu : Nat) (Λ : fx_L) (b_0 : Int) (h : fx_H) : Option (Int) :=
  Option.bind (
    if ((48 ≤ b_0) ∧ (b_0 ≤ 57)) then
      some (1 : Int)
    else
      some (0 : Int)
  ) fun v1 =>
  (fx_zb v1).bind fun z9 =>
  some z9
abbrev rm_X3_isFigure : Room := { frames := 0, cells := 0, slots := 0, locals := 0 }
set_option maxRecDepth 100000 in
set_option maxHeartbeats 4000000 in
theorem m_X3_isFigure (Fu : Nat) (Λ : fx_L) (b_0 : Int) (h : fx_H) (r : Int) (hf : f_X3_isFigure Fu Λ b_0 h = some r) : fx_Met yX3_isFigure cX3_isFigure 1 (some .boolean) rm_X3_isFigure Λ [(0, b_0)] h (some (0, r)) h := by
  unfold f_X3_isFigure at hf
  refine fx_enter (ls := [some (0, b_0)]) (by decide) (Nat.le_of_ble_eq_true rfl) rfl (fun M G F K => ?_)
  obtain ⟨v1, e2, hf⟩ := fx_bnd hf
  have hJ3 : fx_J M G Λ 1 17 [some (0, b_0)] [(0, v1)] h := by
    obtain ⟨z9, e10, hf⟩ := fx_bnd hf
    obtain ⟨e10, hzz9⟩ := fx_zb_use e10
    refine fx_top (X := fx_X) e10 ?_
    cases hf
    exact fx_zreturn (pc := 17) F hzz9 K dX3_isFigure_17
  refine fx_iload_n (pc := 0) F 0 rfl rfl dX3_isFigure_0 ?_
  refine fx_bipush (pc := 1) F ⟨by decide, by decide⟩ (by decide) dX3_isFigure_1 ?_
  have hT4 : (((48 ≤ b_0) ∧ (b_0 ≤ 57))) → fx_J M G Λ 1 12 [some (0, b_0)] [] h := fun c8 => by
    have e2 := (if_pos c8).symm.trans e2
    refine fx_iconst (pc := 12) F ⟨by decide, by decide⟩ dX3_isFigure_12 ?_
    cases e2
    refine fx_goto (pc := 13) F 17 (by decide) dX3_isFigure_13 ?_
    exact hJ3
  have hF5 : ¬ (((48 ≤ b_0) ∧ (b_0 ≤ 57))) → fx_J M G Λ 1 16 [some (0, b_0)] [] h := fun c8 => by
    have e2 := (if_neg c8).symm.trans e2
    refine fx_iconst (pc := 16) F ⟨by decide, by decide⟩ dX3_isFigure_16 ?_
    cases e2
    exact hJ3
  refine fx_nge (pc := 3) F 16 (by decide) dX3_isFigure_3 (fun c6 => ?_) (fun c6 => ?_)
  · refine fx_iload_n (pc := 6) F 0 rfl rfl dX3_isFigure_6 ?_
    refine fx_bipush (pc := 7) F ⟨by decide, by decide⟩ (by decide) dX3_isFigure_7 ?_
    refine fx_nle (pc := 9) F 16 (by decide) dX3_isFigure_9 (fun c7 => ?_) (fun c7 => ?_)
    · exact hT4 ⟨c6, c7⟩
    · exact hF5 (fun q => c7 q.2)
  · exact hF5 (fun q => c6 q.1)
def s_X3_nextToken_1 (Fu : Nat) (Λ : fx_L) (this_2 : Int) : fx_H → Option ((fx_H) ⊕ (fx_H)) := fun h1 =>
  Option.bind (
    if (h1 this_2 2) < (h1 this_2 1) then
      (fx_rd Λ h1 (fx_tg Λ this_2 0) (h1 this_2 2)).bind fun v9 =>
      if v9 = 32 then
        some true
      else
        some false
    else
      some false
  ) fun b4 =>
  if b4 = true then
    some (.inl (fx_up h1 this_2 2 (fx_w ((h1 this_2 2) + 1))))
  else
    some (.inr h1)
def s_X3_nextToken_2 (Fu : Nat) (Λ : fx_L) (this_34 : Int) : fx_H → Option ((fx_H) ⊕ (fx_H)) := fun h33 =>
  Option.bind (
    if (h33 this_34 2) < (h33 this_34 1) then
      (fx_rd Λ h33 (fx_tg Λ this_34 0) (h33 this_34 2)).bind fun v41 =>
      (f_X3_isLetter Fu Λ v41 h33).bind fun v43 =>
      if ¬ v43 = 0 then
        some true
      else
        some false
    else
      some false
  ) fun b36 =>
  if b36 = true then
    some (.inl (fx_up h33 this_34 2 (fx_w ((h33 this_34 2) + 1))))
  else
    some (.inr h33)
def s_X3_nextToken_3 (Fu : Nat) (Λ : fx_L) (this_67 : Int) : fx_H → Option ((fx_H) ⊕ (fx_H)) := fun h66 =>
  Option.bind (
    if (h66 this_67 2) < (h66 this_67 1) then
      (fx_rd Λ h66 (fx_tg Λ this_67 0) (h66 this_67 2)).bind fun v74 =>
      (f_X3_isFigure Fu Λ v74 h66).bind fun v76 =>
      if ¬ v76 = 0 then
        some true
      else
        some false
    else
      some false
  ) fun b69 =>
  if b69 = true then
    some (.inl (fx_up h66 this_67 2 (fx_w ((h66 this_67 2) + 1))))
  else
    some (.inr h66)
def f_X3_nextToken (Fu : Nat) (Λ : fx_L) (this_0 : Int) (h : fx_H) : Option (fx_H) :=
  Option.bind (fx_loop (s_X3_nextToken_1 Fu Λ this_0) Fu h) fun h24 =>
  if ((fx_up h24 this_0 4 (h24 this_0 2)) this_0 1) ≤ ((fx_up h24 this_0 4 (h24 this_0 2)) this_0 2) then
    some (fx_up (fx_up h24 this_0 4 (h24 this_0 2)) this_0 3 0)
  else
    (fx_rd Λ (fx_up h24 this_0 4 (h24 this_0 2)) (fx_tg Λ this_0 0) ((fx_up h24 this_0 4 (h24 this_0 2)) this_0 2)).bind fun v28 =>
    (f_X3_isLetter Fu Λ v28 (fx_up (fx_up h24 this_0 4 (h24 this_0 2)) this_0 2 (fx_w (((fx_up h24 this_0 4 (h24 this_0 2)) this_0 2) + 1)))).bind fun v30 =>
    if ¬ v30 = 0 then
      Option.bind (fx_loop (s_X3_nextToken_2 Fu Λ this_0) Fu (fx_up (fx_up (fx_up h24 this_0 4 (h24 this_0 2)) this_0 2 (fx_w (((fx_up h24 this_0 4 (h24 this_0 2)) this_0 2) + 1))) this_0 3 1)) fun h60 =>
      some h60
    else
      (f_X3_isFigure Fu Λ v28 (fx_up (fx_up h24 this_0 4 (h24 this_0 2)) this_0 2 (fx_w (((fx_up h24 this_0 4 (h24 this_0 2)) this_0 2) + 1)))).bind fun v63 =>
      if ¬ v63 = 0 then
        Option.bind (fx_loop (s_X3_nextToken_3 Fu Λ this_0) Fu (fx_up (fx_up h24 this_0 4 (h24 this_0 2)) this_0 2 (fx_w (((fx_up h24 this_0 4 (h24 this_0 2)) this_0 2) + 1)))) fun h93 =>
        Option.bind (
          if (h93 this_0 2) = (fx_w ((h93 this_0 4) + 1)) then
            some (2 : Int)
          else
            some (4 : Int)
        ) fun v96 =>
        some (fx_up h93 this_0 3 v96)
      else
        Option.bind (
          if v28 = 59 then
            some (3 : Int)
          else
            some (4 : Int)
        ) fun v100 =>
        some (fx_up (fx_up (fx_up h24 this_0 4 (h24 this_0 2)) this_0 2 (fx_w (((fx_up h24 this_0 4 (h24 this_0 2)) this_0 2) + 1))) this_0 3 v100)
abbrev rm_X3_nextToken : Room := { frames := 1, cells := 0, slots := 0, locals := 20 }
set_option maxRecDepth 100000 in
set_option maxHeartbeats 4000000 in
theorem m_X3_nextToken (Fu : Nat) (Λ : fx_L) (this_0 : Int) (h : fx_H) (ho : fx_H) (hf : f_X3_nextToken Fu Λ this_0 h = some ho) : fx_Met yX3_nextToken cX3_nextToken 2 none rm_X3_nextToken Λ [(5, this_0)] h none ho := by
  unfold f_X3_nextToken at hf
  refine fx_enter (ls := [some (5, this_0), none]) (by decide) (Nat.le_of_ble_eq_true rfl) rfl (fun M G F K => ?_)
  obtain ⟨h24, e25, hf⟩ := fx_bnd hf
  have hE26 : fx_J M G Λ 2 38 [some (5, this_0), none] [] h24 := by
    refine fx_aload_n (pc := 38) (t := 3) F 0 rfl rfl dX3_nextToken_38 ?_
    refine fx_aload_n (pc := 39) (t := 3) F 0 rfl rfl dX3_nextToken_39 ?_
    refine fx_gI (pc := 40) F 3 2 2 rfl kC_X3 rfl wF_X3_24 dX3_nextToken_40 ?_
    refine fx_pI (pc := 43) F 3 4 4 rfl kC_X3 rfl rfl (by decide +kernel) wF_X3_142 dX3_nextToken_43 ?_
    refine fx_aload_n (pc := 46) (t := 3) F 0 rfl rfl dX3_nextToken_46 ?_
    refine fx_gI (pc := 47) F 3 2 2 rfl kC_X3 rfl wF_X3_24 dX3_nextToken_47 ?_
    refine fx_aload_n (pc := 50) (t := 3) F 0 rfl rfl dX3_nextToken_50 ?_
    refine fx_gI (pc := 51) F 3 1 1 rfl kC_X3 rfl wF_X3_15 dX3_nextToken_51 ?_
    refine fx_nge (pc := 54) F 63 (by decide) dX3_nextToken_54 (fun c27 => ?_) (fun c27 => ?_)
    · have hf := (if_pos c27).symm.trans hf
      refine fx_aload_n (pc := 57) (t := 3) F 0 rfl rfl dX3_nextToken_57 ?_
      refine fx_iconst (pc := 58) F ⟨by decide, by decide⟩ dX3_nextToken_58 ?_
      refine fx_pI (pc := 59) F 3 3 3 rfl kC_X3 rfl rfl (by decide +kernel) wF_X3_37 dX3_nextToken_59 ?_
      cases hf
      exact fx_vreturn (pc := 62) F K dX3_nextToken_62
    · have hf := (if_neg c27).symm.trans hf
      refine fx_aload_n (pc := 63) (t := 3) F 0 rfl rfl dX3_nextToken_63 ?_
      refine fx_gR (pc := 64) F 3 0 0 7 rfl kC_X3 (by decide) rfl wF_X3_9 dX3_nextToken_64 ?_
      refine fx_aload_n (pc := 67) (t := 3) F 0 rfl rfl dX3_nextToken_67 ?_
      refine fx_gI (pc := 68) F 3 2 2 rfl kC_X3 rfl wF_X3_24 dX3_nextToken_68 ?_
      obtain ⟨v28, e29, hf⟩ := fx_bnd hf
      refine fx_raldB (pc := 71) F e29 dX3_nextToken_71 ?_
      refine fx_istore_n (pc := 72) (ls' := [some (5, this_0), some (0, v28)]) F 1 rfl (by decide) rfl rfl dX3_nextToken_72 ?_
      refine fx_aload_n (pc := 73) (t := 3) F 0 rfl rfl dX3_nextToken_73 ?_
      refine fx_dup (pc := 74) F (show (5 : Nat) ≠ 1 by decide) dX3_nextToken_74 ?_
      refine fx_gI (pc := 75) F 3 2 2 rfl kC_X3 rfl wF_X3_24 dX3_nextToken_75 ?_
      refine fx_iconst (pc := 78) F ⟨by decide, by decide⟩ dX3_nextToken_78 ?_
      refine fx_iadd (pc := 79) F dX3_nextToken_79 ?_
      refine fx_pI (pc := 80) F 3 2 2 rfl kC_X3 rfl rfl (by decide +kernel) wF_X3_24 dX3_nextToken_80 ?_
      refine fx_iload_n (pc := 83) F 1 rfl rfl dX3_nextToken_83 ?_
      obtain ⟨v30, e31, hf⟩ := fx_bnd hf
      refine fx_cS (pc := 84) F [(0, v28)] [] (m_X3_isLetter Fu Λ v28 (fx_up (fx_up h24 this_0 4 (h24 this_0 2)) this_0 2 (fx_w (((fx_up h24 this_0 4 (h24 this_0 2)) this_0 2) + 1))) _ e31) kD_X3_isLetter wSt_X3_isLetter wM_X3_149 ⟨rfl, rfl⟩ ⟨by decide, by decide⟩ (Nat.le_of_ble_eq_true rfl) rfl dX3_nextToken_84 ?_
      refine fx_nzne (pc := 87) F 134 (by decide) dX3_nextToken_87 (fun c32 => ?_) (fun c32 => ?_)
      · have hf := (if_pos c32).symm.trans hf
        refine fx_aload_n (pc := 90) (t := 3) F 0 rfl rfl dX3_nextToken_90 ?_
        refine fx_iconst (pc := 91) F ⟨by decide, by decide⟩ dX3_nextToken_91 ?_
        refine fx_pI (pc := 92) F 3 3 3 rfl kC_X3 rfl rfl (by decide +kernel) wF_X3_37 dX3_nextToken_92 ?_
        obtain ⟨h60, e61, hf⟩ := fx_bnd hf
        have hE62 : fx_J M G Λ 2 220 [some (5, this_0), some (0, v28)] [] h60 := by
          cases hf
          exact fx_vreturn (pc := 220) F K dX3_nextToken_220
        refine fx_loop_J (Hd := (fun z : fx_H => fx_J M G Λ 2 95 [some (5, this_0), some (0, v28)] [] z)) (Ex := (fun z : fx_H => fx_J M G Λ 2 220 [some (5, this_0), some (0, v28)] [] z)) ?_ Fu _ _ e61 hE62
        rintro h47 o9 eq48 ih ex
        unfold s_X3_nextToken_2 at eq48
        show fx_J M G Λ 2 95 [some (5, this_0), some (0, v28)] [] h47
        obtain ⟨b49, e50, eq48⟩ := fx_bnd eq48
        have hT51 : b49 = true → fx_J M G Λ 2 121 [some (5, this_0), some (0, v28)] [] h47 := fun c59 => by
          have eq48 := (if_pos c59).symm.trans eq48
          refine fx_aload_n (pc := 121) (t := 3) F 0 rfl rfl dX3_nextToken_121 ?_
          refine fx_dup (pc := 122) F (show (5 : Nat) ≠ 1 by decide) dX3_nextToken_122 ?_
          refine fx_gI (pc := 123) F 3 2 2 rfl kC_X3 rfl wF_X3_24 dX3_nextToken_123 ?_
          refine fx_iconst (pc := 126) F ⟨by decide, by decide⟩ dX3_nextToken_126 ?_
          refine fx_iadd (pc := 127) F dX3_nextToken_127 ?_
          refine fx_pI (pc := 128) F 3 2 2 rfl kC_X3 rfl rfl (by decide +kernel) wF_X3_24 dX3_nextToken_128 ?_
          refine fx_goto (pc := 131) F 95 (by decide) dX3_nextToken_131 ?_
          cases eq48
          exact ih _ rfl
        have hF52 : ¬ b49 = true → fx_J M G Λ 2 220 [some (5, this_0), some (0, v28)] [] h47 := fun c59 => by
          have eq48 := (if_neg c59).symm.trans eq48
          cases eq48
          exact ex _ rfl
        refine fx_aload_n (pc := 95) (t := 3) F 0 rfl rfl dX3_nextToken_95 ?_
        refine fx_gI (pc := 96) F 3 2 2 rfl kC_X3 rfl wF_X3_24 dX3_nextToken_96 ?_
        refine fx_aload_n (pc := 99) (t := 3) F 0 rfl rfl dX3_nextToken_99 ?_
        refine fx_gI (pc := 100) F 3 1 1 rfl kC_X3 rfl wF_X3_15 dX3_nextToken_100 ?_
        refine fx_nlt (pc := 103) F 220 (by decide) dX3_nextToken_103 (fun c53 => ?_) (fun c53 => ?_)
        · have e50 := (if_pos c53).symm.trans e50
          refine fx_aload_n (pc := 106) (t := 3) F 0 rfl rfl dX3_nextToken_106 ?_
          refine fx_gR (pc := 107) F 3 0 0 7 rfl kC_X3 (by decide) rfl wF_X3_9 dX3_nextToken_107 ?_
          refine fx_aload_n (pc := 110) (t := 3) F 0 rfl rfl dX3_nextToken_110 ?_
          refine fx_gI (pc := 111) F 3 2 2 rfl kC_X3 rfl wF_X3_24 dX3_nextToken_111 ?_
          obtain ⟨v54, e55, e50⟩ := fx_bnd e50
          refine fx_raldB (pc := 114) F e55 dX3_nextToken_114 ?_
          obtain ⟨v56, e57, e50⟩ := fx_bnd e50
          refine fx_cS (pc := 115) F [(0, v54)] [] (m_X3_isLetter Fu Λ v54 h47 _ e57) kD_X3_isLetter wSt_X3_isLetter wM_X3_149 ⟨rfl, rfl⟩ ⟨by decide, by decide⟩ (Nat.le_of_ble_eq_true rfl) rfl dX3_nextToken_115 ?_
          refine fx_nzne (pc := 118) F 220 (by decide) dX3_nextToken_118 (fun c58 => ?_) (fun c58 => ?_)
          · have e50 := (if_pos c58).symm.trans e50
            cases e50
            exact hT51 (by decide)
          · have e50 := (if_neg c58).symm.trans e50
            cases e50
            exact hF52 (by decide)
        · have e50 := (if_neg c53).symm.trans e50
          cases e50
          exact hF52 (by decide)
      · have hf := (if_neg c32).symm.trans hf
        refine fx_iload_n (pc := 134) F 1 rfl rfl dX3_nextToken_134 ?_
        obtain ⟨v63, e64, hf⟩ := fx_bnd hf
        refine fx_cS (pc := 135) F [(0, v28)] [] (m_X3_isFigure Fu Λ v28 (fx_up (fx_up h24 this_0 4 (h24 this_0 2)) this_0 2 (fx_w (((fx_up h24 this_0 4 (h24 this_0 2)) this_0 2) + 1))) _ e64) kD_X3_isFigure wSt_X3_isFigure wM_X3_153 ⟨rfl, rfl⟩ ⟨by decide, by decide⟩ (Nat.le_of_ble_eq_true rfl) rfl dX3_nextToken_135 ?_
        refine fx_nzne (pc := 138) F 205 (by decide) dX3_nextToken_138 (fun c65 => ?_) (fun c65 => ?_)
        · have hf := (if_pos c65).symm.trans hf
          obtain ⟨h93, e94, hf⟩ := fx_bnd hf
          have hE95 : fx_J M G Λ 2 180 [some (5, this_0), some (0, v28)] [] h93 := by
            refine fx_aload_n (pc := 180) (t := 3) F 0 rfl rfl dX3_nextToken_180 ?_
            obtain ⟨v96, e97, hf⟩ := fx_bnd hf
            have hJ98 : fx_J M G Λ 2 199 [some (5, this_0), some (0, v28)] [(0, v96), (5, this_0)] h93 := by
              refine fx_pI (pc := 199) F 3 3 3 rfl kC_X3 rfl rfl (by decide +kernel) wF_X3_37 dX3_nextToken_199 ?_
              refine fx_goto (pc := 202) F 220 (by decide) dX3_nextToken_202 ?_
              cases hf
              exact fx_vreturn (pc := 220) F K dX3_nextToken_220
            refine fx_aload_n (pc := 181) (t := 3) F 0 rfl rfl dX3_nextToken_181 ?_
            refine fx_gI (pc := 182) F 3 2 2 rfl kC_X3 rfl wF_X3_24 dX3_nextToken_182 ?_
            refine fx_aload_n (pc := 185) (t := 3) F 0 rfl rfl dX3_nextToken_185 ?_
            refine fx_gI (pc := 186) F 3 4 4 rfl kC_X3 rfl wF_X3_142 dX3_nextToken_186 ?_
            refine fx_iconst (pc := 189) F ⟨by decide, by decide⟩ dX3_nextToken_189 ?_
            refine fx_iadd (pc := 190) F dX3_nextToken_190 ?_
            refine fx_neq (pc := 191) F 198 (by decide) dX3_nextToken_191 (fun c99 => ?_) (fun c99 => ?_)
            · have e97 := (if_pos c99).symm.trans e97
              refine fx_iconst (pc := 194) F ⟨by decide, by decide⟩ dX3_nextToken_194 ?_
              cases e97
              refine fx_goto (pc := 195) F 199 (by decide) dX3_nextToken_195 ?_
              exact hJ98
            · have e97 := (if_neg c99).symm.trans e97
              refine fx_iconst (pc := 198) F ⟨by decide, by decide⟩ dX3_nextToken_198 ?_
              cases e97
              exact hJ98
          refine fx_loop_J (Hd := (fun z : fx_H => fx_J M G Λ 2 141 [some (5, this_0), some (0, v28)] [] z)) (Ex := (fun z : fx_H => fx_J M G Λ 2 180 [some (5, this_0), some (0, v28)] [] z)) ?_ Fu _ _ e94 hE95
          rintro h80 o9 eq81 ih ex
          unfold s_X3_nextToken_3 at eq81
          show fx_J M G Λ 2 141 [some (5, this_0), some (0, v28)] [] h80
          obtain ⟨b82, e83, eq81⟩ := fx_bnd eq81
          have hT84 : b82 = true → fx_J M G Λ 2 167 [some (5, this_0), some (0, v28)] [] h80 := fun c92 => by
            have eq81 := (if_pos c92).symm.trans eq81
            refine fx_aload_n (pc := 167) (t := 3) F 0 rfl rfl dX3_nextToken_167 ?_
            refine fx_dup (pc := 168) F (show (5 : Nat) ≠ 1 by decide) dX3_nextToken_168 ?_
            refine fx_gI (pc := 169) F 3 2 2 rfl kC_X3 rfl wF_X3_24 dX3_nextToken_169 ?_
            refine fx_iconst (pc := 172) F ⟨by decide, by decide⟩ dX3_nextToken_172 ?_
            refine fx_iadd (pc := 173) F dX3_nextToken_173 ?_
            refine fx_pI (pc := 174) F 3 2 2 rfl kC_X3 rfl rfl (by decide +kernel) wF_X3_24 dX3_nextToken_174 ?_
            refine fx_goto (pc := 177) F 141 (by decide) dX3_nextToken_177 ?_
            cases eq81
            exact ih _ rfl
          have hF85 : ¬ b82 = true → fx_J M G Λ 2 180 [some (5, this_0), some (0, v28)] [] h80 := fun c92 => by
            have eq81 := (if_neg c92).symm.trans eq81
            cases eq81
            exact ex _ rfl
          refine fx_aload_n (pc := 141) (t := 3) F 0 rfl rfl dX3_nextToken_141 ?_
          refine fx_gI (pc := 142) F 3 2 2 rfl kC_X3 rfl wF_X3_24 dX3_nextToken_142 ?_
          refine fx_aload_n (pc := 145) (t := 3) F 0 rfl rfl dX3_nextToken_145 ?_
          refine fx_gI (pc := 146) F 3 1 1 rfl kC_X3 rfl wF_X3_15 dX3_nextToken_146 ?_
          refine fx_nlt (pc := 149) F 180 (by decide) dX3_nextToken_149 (fun c86 => ?_) (fun c86 => ?_)
          · have e83 := (if_pos c86).symm.trans e83
            refine fx_aload_n (pc := 152) (t := 3) F 0 rfl rfl dX3_nextToken_152 ?_
            refine fx_gR (pc := 153) F 3 0 0 7 rfl kC_X3 (by decide) rfl wF_X3_9 dX3_nextToken_153 ?_
            refine fx_aload_n (pc := 156) (t := 3) F 0 rfl rfl dX3_nextToken_156 ?_
            refine fx_gI (pc := 157) F 3 2 2 rfl kC_X3 rfl wF_X3_24 dX3_nextToken_157 ?_
            obtain ⟨v87, e88, e83⟩ := fx_bnd e83
            refine fx_raldB (pc := 160) F e88 dX3_nextToken_160 ?_
            obtain ⟨v89, e90, e83⟩ := fx_bnd e83
            refine fx_cS (pc := 161) F [(0, v87)] [] (m_X3_isFigure Fu Λ v87 h80 _ e90) kD_X3_isFigure wSt_X3_isFigure wM_X3_153 ⟨rfl, rfl⟩ ⟨by decide, by decide⟩ (Nat.le_of_ble_eq_true rfl) rfl dX3_nextToken_161 ?_
            refine fx_nzne (pc := 164) F 180 (by decide) dX3_nextToken_164 (fun c91 => ?_) (fun c91 => ?_)
            · have e83 := (if_pos c91).symm.trans e83
              cases e83
              exact hT84 (by decide)
            · have e83 := (if_neg c91).symm.trans e83
              cases e83
              exact hF85 (by decide)
          · have e83 := (if_neg c86).symm.trans e83
            cases e83
            exact hF85 (by decide)
        · have hf := (if_neg c65).symm.trans hf
          refine fx_aload_n (pc := 205) (t := 3) F 0 rfl rfl dX3_nextToken_205 ?_
          obtain ⟨v100, e101, hf⟩ := fx_bnd hf
          have hJ102 : fx_J M G Λ 2 217 [some (5, this_0), some (0, v28)] [(0, v100), (5, this_0)] (fx_up (fx_up h24 this_0 4 (h24 this_0 2)) this_0 2 (fx_w (((fx_up h24 this_0 4 (h24 this_0 2)) this_0 2) + 1))) := by
            refine fx_pI (pc := 217) F 3 3 3 rfl kC_X3 rfl rfl (by decide +kernel) wF_X3_37 dX3_nextToken_217 ?_
            cases hf
            exact fx_vreturn (pc := 220) F K dX3_nextToken_220
          refine fx_iload_n (pc := 206) F 1 rfl rfl dX3_nextToken_206 ?_
          refine fx_bipush (pc := 207) F ⟨by decide, by decide⟩ (by decide) dX3_nextToken_207 ?_
          refine fx_neq (pc := 209) F 216 (by decide) dX3_nextToken_209 (fun c103 => ?_) (fun c103 => ?_)
          · have e101 := (if_pos c103).symm.trans e101
            refine fx_iconst (pc := 212) F ⟨by decide, by decide⟩ dX3_nextToken_212 ?_
            cases e101
            refine fx_goto (pc := 213) F 217 (by decide) dX3_nextToken_213 ?_
            exact hJ102
          · have e101 := (if_neg c103).symm.trans e101
            refine fx_iconst (pc := 216) F ⟨by decide, by decide⟩ dX3_nextToken_216 ?_
            cases e101
            exact hJ102
  refine fx_loop_J (Hd := (fun z : fx_H => fx_J M G Λ 2 0 [some (5, this_0), none] [] z)) (Ex := (fun z : fx_H => fx_J M G Λ 2 38 [some (5, this_0), none] [] z)) ?_ Fu _ _ e25 hE26
  rintro h13 o9 eq14 ih ex
  unfold s_X3_nextToken_1 at eq14
  show fx_J M G Λ 2 0 [some (5, this_0), none] [] h13
  obtain ⟨b15, e16, eq14⟩ := fx_bnd eq14
  have hT17 : b15 = true → fx_J M G Λ 2 25 [some (5, this_0), none] [] h13 := fun c23 => by
    have eq14 := (if_pos c23).symm.trans eq14
    refine fx_aload_n (pc := 25) (t := 3) F 0 rfl rfl dX3_nextToken_25 ?_
    refine fx_dup (pc := 26) F (show (5 : Nat) ≠ 1 by decide) dX3_nextToken_26 ?_
    refine fx_gI (pc := 27) F 3 2 2 rfl kC_X3 rfl wF_X3_24 dX3_nextToken_27 ?_
    refine fx_iconst (pc := 30) F ⟨by decide, by decide⟩ dX3_nextToken_30 ?_
    refine fx_iadd (pc := 31) F dX3_nextToken_31 ?_
    refine fx_pI (pc := 32) F 3 2 2 rfl kC_X3 rfl rfl (by decide +kernel) wF_X3_24 dX3_nextToken_32 ?_
    refine fx_goto (pc := 35) F 0 (by decide) dX3_nextToken_35 ?_
    cases eq14
    exact ih _ rfl
  have hF18 : ¬ b15 = true → fx_J M G Λ 2 38 [some (5, this_0), none] [] h13 := fun c23 => by
    have eq14 := (if_neg c23).symm.trans eq14
    cases eq14
    exact ex _ rfl
  refine fx_aload_n (pc := 0) (t := 3) F 0 rfl rfl dX3_nextToken_0 ?_
  refine fx_gI (pc := 1) F 3 2 2 rfl kC_X3 rfl wF_X3_24 dX3_nextToken_1 ?_
  refine fx_aload_n (pc := 4) (t := 3) F 0 rfl rfl dX3_nextToken_4 ?_
  refine fx_gI (pc := 5) F 3 1 1 rfl kC_X3 rfl wF_X3_15 dX3_nextToken_5 ?_
  refine fx_nlt (pc := 8) F 38 (by decide) dX3_nextToken_8 (fun c19 => ?_) (fun c19 => ?_)
  · have e16 := (if_pos c19).symm.trans e16
    refine fx_aload_n (pc := 11) (t := 3) F 0 rfl rfl dX3_nextToken_11 ?_
    refine fx_gR (pc := 12) F 3 0 0 7 rfl kC_X3 (by decide) rfl wF_X3_9 dX3_nextToken_12 ?_
    refine fx_aload_n (pc := 15) (t := 3) F 0 rfl rfl dX3_nextToken_15 ?_
    refine fx_gI (pc := 16) F 3 2 2 rfl kC_X3 rfl wF_X3_24 dX3_nextToken_16 ?_
    obtain ⟨v20, e21, e16⟩ := fx_bnd e16
    refine fx_raldB (pc := 19) F e21 dX3_nextToken_19 ?_
    refine fx_bipush (pc := 20) F ⟨by decide, by decide⟩ (by decide) dX3_nextToken_20 ?_
    refine fx_neq (pc := 22) F 38 (by decide) dX3_nextToken_22 (fun c22 => ?_) (fun c22 => ?_)
    · have e16 := (if_pos c22).symm.trans e16
      cases e16
      exact hT17 (by decide)
    · have e16 := (if_neg c22).symm.trans e16
      cases e16
      exact hF18 (by decide)
  · have e16 := (if_neg c19).symm.trans e16
    cases e16
    exact hF18 (by decide)
