def s_X6_paysIn_1 (Fu : Nat) (Λ : fx_L) (this_3 : Int) (p_4 : Int) (many_5 : Int) (h : fx_H) : Int × Int → Option ((Int × Int) ⊕ (Int × Int)) := fun (sum_1, h_2) =>
  if h_2 < many_5 then
    (f_X6_paysOf Fu Λ this_3 p_4 h_2 h).bind fun v8 =>
    some (.inl ((fx_w (sum_1 + v8)), (fx_w (h_2 + 1))))
  else
    some (.inr (sum_1, h_2))
def f_X6_paysIn (Fu : Nat) (Λ : fx_L) (this_0 : Int) (p_0 : Int) (many_0 : Int) (h : fx_H) : Option (Int) :=
  Option.bind (fx_loop (s_X6_paysIn_1 Fu Λ this_0 p_0 many_0 h) Fu (0, 0)) fun (sum_16, h_17) =>
  some sum_16
abbrev rm_X6_paysIn : Room := { frames := 3, cells := 0, slots := 0, locals := 77 }
set_option maxRecDepth 100000 in
set_option maxHeartbeats 4000000 in
theorem m_X6_paysIn (Fu : Nat) (Λ : fx_L) (this_0 : Int) (p_0 : Int) (many_0 : Int) (h : fx_H) (r : Int) (hf : f_X6_paysIn Fu Λ this_0 p_0 many_0 h = some r) : fx_Met yX6_paysIn cX6_paysIn 5 (some .int) rm_X6_paysIn Λ [(8, this_0), (0, p_0), (0, many_0)] h (some (0, r)) h := by
  unfold f_X6_paysIn at hf
  refine fx_enter (ls := [some (8, this_0), some (0, p_0), some (0, many_0), none, none]) (by decide) (Nat.le_of_ble_eq_true rfl) rfl (fun M G F K => ?_)
  refine fx_iconst (pc := 0) F ⟨by decide, by decide⟩ dX6_paysIn_0 ?_
  refine fx_istore_n (pc := 1) (ls' := [some (8, this_0), some (0, p_0), some (0, many_0), some (0, 0), none]) F 3 rfl (by decide) rfl rfl dX6_paysIn_1 ?_
  refine fx_iconst (pc := 2) F ⟨by decide, by decide⟩ dX6_paysIn_2 ?_
  refine fx_istore (pc := 3) (ls' := [some (8, this_0), some (0, p_0), some (0, many_0), some (0, 0), some (0, 0)]) F (by decide) rfl rfl dX6_paysIn_3 ?_
  obtain ⟨⟨sum_16, h_17⟩, e18, hf⟩ := fx_bnd hf
  have hE19 : fx_J M G Λ 5 27 [some (8, this_0), some (0, p_0), some (0, many_0), some (0, sum_16), some (0, h_17)] [] h := by
    refine fx_iload_n (pc := 27) F 3 rfl rfl dX6_paysIn_27 ?_
    cases hf
    exact fx_ireturn (pc := 28) F K dX6_paysIn_28
  refine fx_loop_J (Hd := (fun z : Int × Int => fx_J M G Λ 5 5 [some (8, this_0), some (0, p_0), some (0, many_0), some (0, z.1), some (0, z.2)] [] h)) (Ex := (fun z : Int × Int => fx_J M G Λ 5 27 [some (8, this_0), some (0, p_0), some (0, many_0), some (0, z.1), some (0, z.2)] [] h)) ?_ Fu _ _ e18 hE19
  rintro ⟨sum_10, h_11⟩ o9 eq12 ih ex
  unfold s_X6_paysIn_1 at eq12
  show fx_J M G Λ 5 5 [some (8, this_0), some (0, p_0), some (0, many_0), some (0, sum_10), some (0, h_11)] [] h
  refine fx_iload (pc := 5) F rfl dX6_paysIn_5 ?_
  refine fx_iload_n (pc := 7) F 2 rfl rfl dX6_paysIn_7 ?_
  refine fx_nlt (pc := 8) F 27 (by decide) dX6_paysIn_8 (fun c13 => ?_) (fun c13 => ?_)
  · have eq12 := (if_pos c13).symm.trans eq12
    refine fx_iload_n (pc := 11) F 3 rfl rfl dX6_paysIn_11 ?_
    refine fx_aload_n (pc := 12) (t := 6) F 0 rfl rfl dX6_paysIn_12 ?_
    refine fx_iload_n (pc := 13) F 1 rfl rfl dX6_paysIn_13 ?_
    refine fx_iload (pc := 14) F rfl dX6_paysIn_14 ?_
    obtain ⟨v14, e15, eq12⟩ := fx_bnd eq12
    refine fx_cV (pc := 16) F 6 kC_X6 [(0, p_0), (0, h_11)] this_0 [(0, sum_10)] (m_X6_paysOf Fu Λ this_0 p_0 h_11 h _ e15) kD_X6_paysOf kI_X6_paysOf rfl wM_X6_134 ⟨rfl, rfl⟩ ⟨by decide, by decide⟩ (Nat.le_of_ble_eq_true rfl) rfl dX6_paysIn_16 ?_
    refine fx_iadd (pc := 19) F dX6_paysIn_19 ?_
    refine fx_istore_n (pc := 20) (ls' := [some (8, this_0), some (0, p_0), some (0, many_0), some (0, (fx_w (sum_10 + v14))), some (0, h_11)]) F 3 rfl (by decide) rfl rfl dX6_paysIn_20 ?_
    refine fx_iinc (pc := 21) (ls' := [some (8, this_0), some (0, p_0), some (0, many_0), some (0, (fx_w (sum_10 + v14))), some (0, (fx_w (h_11 + 1)))]) F (by decide) rfl rfl rfl dX6_paysIn_21 ?_
    refine fx_goto (pc := 24) F 5 (by decide) dX6_paysIn_24 ?_
    cases eq12
    exact ih _ rfl
  · have eq12 := (if_neg c13).symm.trans eq12
    cases eq12
    exact ex _ rfl
def s_X6_allIn_1 (Fu : Nat) (Λ : fx_L) (this_3 : Int) (many_4 : Int) (h : fx_H) : Int × Int → Option ((Int × Int) ⊕ (Int × Int)) := fun (sum_1, p_2) =>
  (f_X6_people Fu Λ this_3 h).bind fun v6 =>
  if p_2 < v6 then
    (f_X6_paysIn Fu Λ this_3 p_2 many_4 h).bind fun v9 =>
    some (.inl ((fx_w (sum_1 + v9)), (fx_w (p_2 + 1))))
  else
    some (.inr (sum_1, p_2))
def f_X6_allIn (Fu : Nat) (Λ : fx_L) (this_0 : Int) (many_0 : Int) (h : fx_H) : Option (Int) :=
  Option.bind (fx_loop (s_X6_allIn_1 Fu Λ this_0 many_0 h) Fu (0, 0)) fun (sum_19, p_20) =>
  some sum_19
abbrev rm_X6_allIn : Room := { frames := 4, cells := 0, slots := 0, locals := 101 }
set_option maxRecDepth 100000 in
set_option maxHeartbeats 4000000 in
theorem m_X6_allIn (Fu : Nat) (Λ : fx_L) (this_0 : Int) (many_0 : Int) (h : fx_H) (r : Int) (hf : f_X6_allIn Fu Λ this_0 many_0 h = some r) : fx_Met yX6_allIn cX6_allIn 4 (some .int) rm_X6_allIn Λ [(8, this_0), (0, many_0)] h (some (0, r)) h := by
  unfold f_X6_allIn at hf
  refine fx_enter (ls := [some (8, this_0), some (0, many_0), none, none]) (by decide) (Nat.le_of_ble_eq_true rfl) rfl (fun M G F K => ?_)
  refine fx_iconst (pc := 0) F ⟨by decide, by decide⟩ dX6_allIn_0 ?_
  refine fx_istore_n (pc := 1) (ls' := [some (8, this_0), some (0, many_0), some (0, 0), none]) F 2 rfl (by decide) rfl rfl dX6_allIn_1 ?_
  refine fx_iconst (pc := 2) F ⟨by decide, by decide⟩ dX6_allIn_2 ?_
  refine fx_istore_n (pc := 3) (ls' := [some (8, this_0), some (0, many_0), some (0, 0), some (0, 0)]) F 3 rfl (by decide) rfl rfl dX6_allIn_3 ?_
  obtain ⟨⟨sum_19, p_20⟩, e21, hf⟩ := fx_bnd hf
  have hE22 : fx_J M G Λ 4 27 [some (8, this_0), some (0, many_0), some (0, sum_19), some (0, p_20)] [] h := by
    refine fx_iload_n (pc := 27) F 2 rfl rfl dX6_allIn_27 ?_
    cases hf
    exact fx_ireturn (pc := 28) F K dX6_allIn_28
  refine fx_loop_J (Hd := (fun z : Int × Int => fx_J M G Λ 4 4 [some (8, this_0), some (0, many_0), some (0, z.1), some (0, z.2)] [] h)) (Ex := (fun z : Int × Int => fx_J M G Λ 4 27 [some (8, this_0), some (0, many_0), some (0, z.1), some (0, z.2)] [] h)) ?_ Fu _ _ e21 hE22
  rintro ⟨sum_11, p_12⟩ o9 eq13 ih ex
  unfold s_X6_allIn_1 at eq13
  show fx_J M G Λ 4 4 [some (8, this_0), some (0, many_0), some (0, sum_11), some (0, p_12)] [] h
  refine fx_iload_n (pc := 4) F 3 rfl rfl dX6_allIn_4 ?_
  refine fx_aload_n (pc := 5) (t := 6) F 0 rfl rfl dX6_allIn_5 ?_
  obtain ⟨v14, e15, eq13⟩ := fx_bnd eq13
  refine fx_cV (pc := 6) F 6 kC_X6 [] this_0 [(0, p_12)] (m_X6_people Fu Λ this_0 h _ e15) kD_X6_people kI_X6_people rfl wM_X6_78 ⟨rfl, rfl⟩ ⟨by decide, by decide⟩ (Nat.le_of_ble_eq_true rfl) rfl dX6_allIn_6 ?_
  refine fx_nlt (pc := 9) F 27 (by decide) dX6_allIn_9 (fun c16 => ?_) (fun c16 => ?_)
  · have eq13 := (if_pos c16).symm.trans eq13
    refine fx_iload_n (pc := 12) F 2 rfl rfl dX6_allIn_12 ?_
    refine fx_aload_n (pc := 13) (t := 6) F 0 rfl rfl dX6_allIn_13 ?_
    refine fx_iload_n (pc := 14) F 3 rfl rfl dX6_allIn_14 ?_
    refine fx_iload_n (pc := 15) F 1 rfl rfl dX6_allIn_15 ?_
    obtain ⟨v17, e18, eq13⟩ := fx_bnd eq13
    refine fx_cV (pc := 16) F 6 kC_X6 [(0, p_12), (0, many_0)] this_0 [(0, sum_11)] (m_X6_paysIn Fu Λ this_0 p_12 many_0 h _ e18) kD_X6_paysIn kI_X6_paysIn rfl wM_X6_137 ⟨rfl, rfl⟩ ⟨by decide, by decide⟩ (Nat.le_of_ble_eq_true rfl) rfl dX6_allIn_16 ?_
    refine fx_iadd (pc := 19) F dX6_allIn_19 ?_
    refine fx_istore_n (pc := 20) (ls' := [some (8, this_0), some (0, many_0), some (0, (fx_w (sum_11 + v17))), some (0, p_12)]) F 2 rfl (by decide) rfl rfl dX6_allIn_20 ?_
    refine fx_iinc (pc := 21) (ls' := [some (8, this_0), some (0, many_0), some (0, (fx_w (sum_11 + v17))), some (0, (fx_w (p_12 + 1)))]) F (by decide) rfl rfl rfl dX6_allIn_21 ?_
    refine fx_goto (pc := 24) F 4 (by decide) dX6_allIn_24 ?_
    cases eq13
    exact ih _ rfl
  · have eq13 := (if_neg c16).symm.trans eq13
    cases eq13
    exact ex _ rfl
def f_X6_pays (Fu : Nat) (Λ : fx_L) (this_0 : Int) (person_0 : Int) (hour_0 : Int) (h : fx_H) : Option (Int × fx_H) :=
  Option.bind (
    (f_X6_isOne Fu Λ this_0 person_0 h).bind fun v5 =>
    if v5 = 0 then
      some true
    else
      (f_X6_isHour Fu Λ this_0 hour_0 h).bind fun v8 =>
      if v8 = 0 then
        some true
      else
        some false
  ) fun b1 =>
  if b1 = true then
    (f_X6_bad Fu Λ this_0 (-2) h).bind fun (v12, h13) =>
    some (v12, h13)
  else
    (f_X6_layNow Fu Λ this_0 h).bind fun h15 =>
    (f_X6_takeDone Fu Λ this_0 h15).bind fun h17 =>
    (f_X6_paysOf Fu Λ this_0 person_0 hour_0 h17).bind fun v19 =>
    some (v19, h17)
abbrev rm_X6_pays : Room := { frames := 3, cells := 0, slots := 0, locals := 77 }
set_option maxRecDepth 100000 in
set_option maxHeartbeats 4000000 in
theorem m_X6_pays (Fu : Nat) (Λ : fx_L) (this_0 : Int) (person_0 : Int) (hour_0 : Int) (h : fx_H) (r : Int) (ho : fx_H) (hf : f_X6_pays Fu Λ this_0 person_0 hour_0 h = some (r, ho)) : fx_Met yX6_pays cX6_pays 3 (some .int) rm_X6_pays Λ [(8, this_0), (0, person_0), (0, hour_0)] h (some (0, r)) ho := by
  unfold f_X6_pays at hf
  refine fx_enter (ls := [some (8, this_0), some (0, person_0), some (0, hour_0)]) (by decide) (Nat.le_of_ble_eq_true rfl) rfl (fun M G F K => ?_)
  obtain ⟨b1, e2, hf⟩ := fx_bnd hf
  have hT3 : b1 = true → fx_J M G Λ 3 16 [some (8, this_0), some (0, person_0), some (0, hour_0)] [] h := fun c11 => by
    have hf := (if_pos c11).symm.trans hf
    refine fx_aload_n (pc := 16) (t := 6) F 0 rfl rfl dX6_pays_16 ?_
    refine fx_bipush (pc := 17) F ⟨by decide, by decide⟩ (by decide) dX6_pays_17 ?_
    obtain ⟨⟨v12, h13⟩, e14, hf⟩ := fx_bnd hf
    refine fx_cV (pc := 19) F 6 kC_X6 [(0, (-2))] this_0 [] (m_X6_bad Fu Λ this_0 (-2) h _ _ e14) kD_X6_bad kI_X6_bad rfl wM_X6_88 ⟨rfl, rfl⟩ ⟨by decide, by decide⟩ (Nat.le_of_ble_eq_true rfl) rfl dX6_pays_19 ?_
    cases hf
    exact fx_ireturn (pc := 22) F K dX6_pays_22
  have hF4 : ¬ b1 = true → fx_J M G Λ 3 23 [some (8, this_0), some (0, person_0), some (0, hour_0)] [] h := fun c11 => by
    have hf := (if_neg c11).symm.trans hf
    refine fx_aload_n (pc := 23) (t := 6) F 0 rfl rfl dX6_pays_23 ?_
    obtain ⟨h15, e16, hf⟩ := fx_bnd hf
    refine fx_cVv (pc := 24) F 6 kC_X6 [] this_0 [] (m_X6_layNow Fu Λ this_0 h _ e16) kD_X6_layNow kI_X6_layNow rfl wM_X6_119 ⟨rfl, rfl⟩ ⟨by decide, by decide⟩ (Nat.le_of_ble_eq_true rfl) rfl dX6_pays_24 ?_
    refine fx_aload_n (pc := 27) (t := 6) F 0 rfl rfl dX6_pays_27 ?_
    obtain ⟨h17, e18, hf⟩ := fx_bnd hf
    refine fx_cVv (pc := 28) F 6 kC_X6 [] this_0 [] (m_X6_takeDone Fu Λ this_0 h15 _ e18) kD_X6_takeDone kI_X6_takeDone rfl wM_X6_140 ⟨rfl, rfl⟩ ⟨by decide, by decide⟩ (Nat.le_of_ble_eq_true rfl) rfl dX6_pays_28 ?_
    refine fx_aload_n (pc := 31) (t := 6) F 0 rfl rfl dX6_pays_31 ?_
    refine fx_iload_n (pc := 32) F 1 rfl rfl dX6_pays_32 ?_
    refine fx_iload_n (pc := 33) F 2 rfl rfl dX6_pays_33 ?_
    obtain ⟨v19, e20, hf⟩ := fx_bnd hf
    refine fx_cV (pc := 34) F 6 kC_X6 [(0, person_0), (0, hour_0)] this_0 [] (m_X6_paysOf Fu Λ this_0 person_0 hour_0 h17 _ e20) kD_X6_paysOf kI_X6_paysOf rfl wM_X6_134 ⟨rfl, rfl⟩ ⟨by decide, by decide⟩ (Nat.le_of_ble_eq_true rfl) rfl dX6_pays_34 ?_
    cases hf
    exact fx_ireturn (pc := 37) F K dX6_pays_37
  refine fx_aload_n (pc := 0) (t := 6) F 0 rfl rfl dX6_pays_0 ?_
  refine fx_iload_n (pc := 1) F 1 rfl rfl dX6_pays_1 ?_
  obtain ⟨v5, e6, e2⟩ := fx_bnd e2
  refine fx_cV (pc := 2) F 6 kC_X6 [(0, person_0)] this_0 [] (m_X6_isOne Fu Λ this_0 person_0 h _ e6) kD_X6_isOne kI_X6_isOne rfl wM_X6_102 ⟨rfl, rfl⟩ ⟨by decide, by decide⟩ (Nat.le_of_ble_eq_true rfl) rfl dX6_pays_2 ?_
  refine fx_jzeq (pc := 5) F 16 (by decide) dX6_pays_5 (fun c7 => ?_) (fun c7 => ?_)
  · have e2 := (if_pos c7).symm.trans e2
    cases e2
    exact hT3 (by decide)
  · have e2 := (if_neg c7).symm.trans e2
    refine fx_aload_n (pc := 8) (t := 6) F 0 rfl rfl dX6_pays_8 ?_
    refine fx_iload_n (pc := 9) F 2 rfl rfl dX6_pays_9 ?_
    obtain ⟨v8, e9, e2⟩ := fx_bnd e2
    refine fx_cV (pc := 10) F 6 kC_X6 [(0, hour_0)] this_0 [] (m_X6_isHour Fu Λ this_0 hour_0 h _ e9) kD_X6_isHour kI_X6_isHour rfl wM_X6_97 ⟨rfl, rfl⟩ ⟨by decide, by decide⟩ (Nat.le_of_ble_eq_true rfl) rfl dX6_pays_10 ?_
    refine fx_nzeq (pc := 13) F 23 (by decide) dX6_pays_13 (fun c10 => ?_) (fun c10 => ?_)
    · have e2 := (if_pos c10).symm.trans e2
      cases e2
      exact hT3 (by decide)
    · have e2 := (if_neg c10).symm.trans e2
      cases e2
      exact hF4 (by decide)
def f_X6_all (Fu : Nat) (Λ : fx_L) (this_0 : Int) (h : fx_H) : Option (Int × fx_H) :=
  (f_X6_layNow Fu Λ this_0 h).bind fun h1 =>
  (f_X6_takeDone Fu Λ this_0 h1).bind fun h3 =>
  (f_X6_hours Fu Λ this_0 h3).bind fun v5 =>
  (f_X6_allIn Fu Λ this_0 v5 h3).bind fun v7 =>
  some (v7, h3)
abbrev rm_X6_all : Room := { frames := 5, cells := 0, slots := 0, locals := 124 }
set_option maxRecDepth 100000 in
set_option maxHeartbeats 4000000 in
theorem m_X6_all (Fu : Nat) (Λ : fx_L) (this_0 : Int) (h : fx_H) (r : Int) (ho : fx_H) (hf : f_X6_all Fu Λ this_0 h = some (r, ho)) : fx_Met yX6_all cX6_all 1 (some .int) rm_X6_all Λ [(8, this_0)] h (some (0, r)) ho := by
  unfold f_X6_all at hf
  refine fx_enter (ls := [some (8, this_0)]) (by decide) (Nat.le_of_ble_eq_true rfl) rfl (fun M G F K => ?_)
  refine fx_aload_n (pc := 0) (t := 6) F 0 rfl rfl dX6_all_0 ?_
  obtain ⟨h1, e2, hf⟩ := fx_bnd hf
  refine fx_cVv (pc := 1) F 6 kC_X6 [] this_0 [] (m_X6_layNow Fu Λ this_0 h _ e2) kD_X6_layNow kI_X6_layNow rfl wM_X6_119 ⟨rfl, rfl⟩ ⟨by decide, by decide⟩ (Nat.le_of_ble_eq_true rfl) rfl dX6_all_1 ?_
  refine fx_aload_n (pc := 4) (t := 6) F 0 rfl rfl dX6_all_4 ?_
  obtain ⟨h3, e4, hf⟩ := fx_bnd hf
  refine fx_cVv (pc := 5) F 6 kC_X6 [] this_0 [] (m_X6_takeDone Fu Λ this_0 h1 _ e4) kD_X6_takeDone kI_X6_takeDone rfl wM_X6_140 ⟨rfl, rfl⟩ ⟨by decide, by decide⟩ (Nat.le_of_ble_eq_true rfl) rfl dX6_all_5 ?_
  refine fx_aload_n (pc := 8) (t := 6) F 0 rfl rfl dX6_all_8 ?_
  refine fx_aload_n (pc := 9) (t := 6) F 0 rfl rfl dX6_all_9 ?_
  obtain ⟨v5, e6, hf⟩ := fx_bnd hf
  refine fx_cV (pc := 10) F 6 kC_X6 [] this_0 [(8, this_0)] (m_X6_hours Fu Λ this_0 h3 _ e6) kD_X6_hours kI_X6_hours rfl wM_X6_81 ⟨rfl, rfl⟩ ⟨by decide, by decide⟩ (Nat.le_of_ble_eq_true rfl) rfl dX6_all_10 ?_
  obtain ⟨v7, e8, hf⟩ := fx_bnd hf
  refine fx_cV (pc := 13) F 6 kC_X6 [(0, v5)] this_0 [] (m_X6_allIn Fu Λ this_0 v5 h3 _ e8) kD_X6_allIn kI_X6_allIn rfl wM_X6_143 ⟨rfl, rfl⟩ ⟨by decide, by decide⟩ (Nat.le_of_ble_eq_true rfl) rfl dX6_all_13 ?_
  cases hf
  exact fx_ireturn (pc := 16) F K dX6_all_16
def s_X6_takeNeeds_1 (Fu : Nat) (Λ : fx_L) (this_4 : Int) (p_5 : Int) : Int × Int × fx_H → Option ((Int × Int × fx_H) ⊕ (Int × Int × fx_H)) := fun (sum_1, t_2, h3) =>
  if t_2 < 9 then
    (fx_rd Λ h3 (fx_tg Λ this_4 0) (fx_w ((fx_w (44 + (fx_w (9 * p_5)))) + t_2))).bind fun v8 =>
    (fx_wr Λ h3 (fx_tg Λ this_4 11) t_2 v8).bind fun h10 =>
    (fx_rd Λ h10 (fx_tg Λ this_4 11) t_2).bind fun v12 =>
    some (.inl ((fx_w (sum_1 + v12)), (fx_w (t_2 + 1)), h10))
  else
    some (.inr (sum_1, t_2, h3))
def f_X6_takeNeeds (Fu : Nat) (Λ : fx_L) (this_0 : Int) (p_0 : Int) (many_0 : Int) (h : fx_H) : Option (fx_H) :=
  Option.bind (fx_loop (s_X6_takeNeeds_1 Fu Λ this_0 p_0) Fu (0, 0, h)) fun (sum_25, t_26, h27) =>
  (fx_wr Λ h27 (fx_tg Λ this_0 11) 9 (fx_w (many_0 - sum_25))).bind fun h30 =>
  some h30
abbrev rm_X6_takeNeeds : Room := { frames := 0, cells := 0, slots := 0, locals := 0 }
set_option maxRecDepth 100000 in
set_option maxHeartbeats 4000000 in
theorem m_X6_takeNeeds (Fu : Nat) (Λ : fx_L) (this_0 : Int) (p_0 : Int) (many_0 : Int) (h : fx_H) (ho : fx_H) (hf : f_X6_takeNeeds Fu Λ this_0 p_0 many_0 h = some ho) : fx_Met yX6_takeNeeds cX6_takeNeeds 5 none rm_X6_takeNeeds Λ [(8, this_0), (0, p_0), (0, many_0)] h none ho := by
  unfold f_X6_takeNeeds at hf
  refine fx_enter (ls := [some (8, this_0), some (0, p_0), some (0, many_0), none, none]) (by decide) (Nat.le_of_ble_eq_true rfl) rfl (fun M G F K => ?_)
  refine fx_iconst (pc := 0) F ⟨by decide, by decide⟩ dX6_takeNeeds_0 ?_
  refine fx_istore_n (pc := 1) (ls' := [some (8, this_0), some (0, p_0), some (0, many_0), some (0, 0), none]) F 3 rfl (by decide) rfl rfl dX6_takeNeeds_1 ?_
  refine fx_iconst (pc := 2) F ⟨by decide, by decide⟩ dX6_takeNeeds_2 ?_
  refine fx_istore (pc := 3) (ls' := [some (8, this_0), some (0, p_0), some (0, many_0), some (0, 0), some (0, 0)]) F (by decide) rfl rfl dX6_takeNeeds_3 ?_
  obtain ⟨⟨sum_25, t_26, h27⟩, e28, hf⟩ := fx_bnd hf
  have hE29 : fx_J M G Λ 5 50 [some (8, this_0), some (0, p_0), some (0, many_0), some (0, sum_25), some (0, t_26)] [] h27 := by
    refine fx_aload_n (pc := 50) (t := 6) F 0 rfl rfl dX6_takeNeeds_50 ?_
    refine fx_gR (pc := 51) F 6 11 11 8 rfl kC_X6 (by decide) rfl wF_X6_42 dX6_takeNeeds_51 ?_
    refine fx_bipush (pc := 54) F ⟨by decide, by decide⟩ (by decide) dX6_takeNeeds_54 ?_
    refine fx_iload_n (pc := 56) F 2 rfl rfl dX6_takeNeeds_56 ?_
    refine fx_iload_n (pc := 57) F 3 rfl rfl dX6_takeNeeds_57 ?_
    refine fx_isub (pc := 58) F dX6_takeNeeds_58 ?_
    obtain ⟨h30, e31, hf⟩ := fx_bnd hf
    refine fx_rastI (pc := 59) F e31 dX6_takeNeeds_59 ?_
    cases hf
    exact fx_vreturn (pc := 60) F K dX6_takeNeeds_60
  refine fx_loop_J (Hd := (fun z : Int × Int × fx_H => fx_J M G Λ 5 5 [some (8, this_0), some (0, p_0), some (0, many_0), some (0, z.1), some (0, z.2.1)] [] z.2.2)) (Ex := (fun z : Int × Int × fx_H => fx_J M G Λ 5 50 [some (8, this_0), some (0, p_0), some (0, many_0), some (0, z.1), some (0, z.2.1)] [] z.2.2)) ?_ Fu _ _ e28 hE29
  rintro ⟨sum_14, t_15, h16⟩ o9 eq17 ih ex
  unfold s_X6_takeNeeds_1 at eq17
  show fx_J M G Λ 5 5 [some (8, this_0), some (0, p_0), some (0, many_0), some (0, sum_14), some (0, t_15)] [] h16
  refine fx_iload (pc := 5) F rfl dX6_takeNeeds_5 ?_
  refine fx_bipush (pc := 7) F ⟨by decide, by decide⟩ (by decide) dX6_takeNeeds_7 ?_
  refine fx_nlt (pc := 9) F 50 (by decide) dX6_takeNeeds_9 (fun c18 => ?_) (fun c18 => ?_)
  · have eq17 := (if_pos c18).symm.trans eq17
    refine fx_aload_n (pc := 12) (t := 6) F 0 rfl rfl dX6_takeNeeds_12 ?_
    refine fx_gR (pc := 13) F 6 11 11 8 rfl kC_X6 (by decide) rfl wF_X6_42 dX6_takeNeeds_13 ?_
    refine fx_iload (pc := 16) F rfl dX6_takeNeeds_16 ?_
    refine fx_aload_n (pc := 18) (t := 6) F 0 rfl rfl dX6_takeNeeds_18 ?_
    refine fx_gR (pc := 19) F 6 0 0 8 rfl kC_X6 (by decide) rfl wF_X6_7 dX6_takeNeeds_19 ?_
    refine fx_bipush (pc := 22) F ⟨by decide, by decide⟩ (by decide) dX6_takeNeeds_22 ?_
    refine fx_bipush (pc := 24) F ⟨by decide, by decide⟩ (by decide) dX6_takeNeeds_24 ?_
    refine fx_iload_n (pc := 26) F 1 rfl rfl dX6_takeNeeds_26 ?_
    refine fx_imul (pc := 27) F dX6_takeNeeds_27 ?_
    refine fx_iadd (pc := 28) F dX6_takeNeeds_28 ?_
    refine fx_iload (pc := 29) F rfl dX6_takeNeeds_29 ?_
    refine fx_iadd (pc := 31) F dX6_takeNeeds_31 ?_
    obtain ⟨v19, e20, eq17⟩ := fx_bnd eq17
    refine fx_raldI (pc := 32) F e20 dX6_takeNeeds_32 ?_
    obtain ⟨h21, e22, eq17⟩ := fx_bnd eq17
    refine fx_rastI (pc := 33) F e22 dX6_takeNeeds_33 ?_
    refine fx_iload_n (pc := 34) F 3 rfl rfl dX6_takeNeeds_34 ?_
    refine fx_aload_n (pc := 35) (t := 6) F 0 rfl rfl dX6_takeNeeds_35 ?_
    refine fx_gR (pc := 36) F 6 11 11 8 rfl kC_X6 (by decide) rfl wF_X6_42 dX6_takeNeeds_36 ?_
    refine fx_iload (pc := 39) F rfl dX6_takeNeeds_39 ?_
    obtain ⟨v23, e24, eq17⟩ := fx_bnd eq17
    refine fx_raldI (pc := 41) F e24 dX6_takeNeeds_41 ?_
    refine fx_iadd (pc := 42) F dX6_takeNeeds_42 ?_
    refine fx_istore_n (pc := 43) (ls' := [some (8, this_0), some (0, p_0), some (0, many_0), some (0, (fx_w (sum_14 + v23))), some (0, t_15)]) F 3 rfl (by decide) rfl rfl dX6_takeNeeds_43 ?_
    refine fx_iinc (pc := 44) (ls' := [some (8, this_0), some (0, p_0), some (0, many_0), some (0, (fx_w (sum_14 + v23))), some (0, (fx_w (t_15 + 1)))]) F (by decide) rfl rfl rfl dX6_takeNeeds_44 ?_
    refine fx_goto (pc := 47) F 5 (by decide) dX6_takeNeeds_47 ?_
    cases eq17
    exact ih _ rfl
  · have eq17 := (if_neg c18).symm.trans eq17
    cases eq17
    exact ex _ rfl
def s_X6_keepRow_1 (Fu : Nat) (Λ : fx_L) (this_5 : Int) (many_6 : Int) (at_7 : Int) : Int × fx_H → Option ((Int × fx_H) ⊕ (Int × fx_H)) := fun (h_3, h4) =>
  if h_3 < many_6 then
    Option.bind (
      (fx_rd Λ h4 (fx_tg Λ this_5 12) h_3).bind fun v13 =>
      if v13 = 9 then
        some (-1 : Int)
      else
        (fx_rd Λ h4 (fx_tg Λ this_5 12) h_3).bind fun v16 =>
        some v16
    ) fun v10 =>
    (fx_wr Λ h4 (fx_tg Λ this_5 9) (fx_w (at_7 + h_3)) v10).bind fun h18 =>
    some (.inl ((fx_w (h_3 + 1)), h18))
  else
    some (.inr (h_3, h4))
def f_X6_keepRow (Fu : Nat) (Λ : fx_L) (this_0 : Int) (p_0 : Int) (many_0 : Int) (h : fx_H) : Option (fx_H) :=
  (fx_rd Λ h (fx_tg Λ this_0 10) p_0).bind fun v1 =>
  Option.bind (fx_loop (s_X6_keepRow_1 Fu Λ this_0 many_0 (fx_w (5 * (fx_w ((fx_w (120 * p_0)) + v1))))) Fu (0, h)) fun (h_34, h35) =>
  (fx_rd Λ h35 (fx_tg Λ this_0 10) p_0).bind fun v38 =>
  (fx_wr Λ h35 (fx_tg Λ this_0 10) p_0 (fx_w (v38 + 1))).bind fun h40 =>
  some h40
abbrev rm_X6_keepRow : Room := { frames := 0, cells := 0, slots := 0, locals := 0 }
set_option maxRecDepth 100000 in
set_option maxHeartbeats 4000000 in
theorem m_X6_keepRow (Fu : Nat) (Λ : fx_L) (this_0 : Int) (p_0 : Int) (many_0 : Int) (h : fx_H) (ho : fx_H) (hf : f_X6_keepRow Fu Λ this_0 p_0 many_0 h = some ho) : fx_Met yX6_keepRow cX6_keepRow 5 none rm_X6_keepRow Λ [(8, this_0), (0, p_0), (0, many_0)] h none ho := by
  unfold f_X6_keepRow at hf
  refine fx_enter (ls := [some (8, this_0), some (0, p_0), some (0, many_0), none, none]) (by decide) (Nat.le_of_ble_eq_true rfl) rfl (fun M G F K => ?_)
  refine fx_iconst (pc := 0) F ⟨by decide, by decide⟩ dX6_keepRow_0 ?_
  refine fx_bipush (pc := 1) F ⟨by decide, by decide⟩ (by decide) dX6_keepRow_1 ?_
  refine fx_iload_n (pc := 3) F 1 rfl rfl dX6_keepRow_3 ?_
  refine fx_imul (pc := 4) F dX6_keepRow_4 ?_
  refine fx_aload_n (pc := 5) (t := 6) F 0 rfl rfl dX6_keepRow_5 ?_
  refine fx_gR (pc := 6) F 6 10 10 8 rfl kC_X6 (by decide) rfl wF_X6_39 dX6_keepRow_6 ?_
  refine fx_iload_n (pc := 9) F 1 rfl rfl dX6_keepRow_9 ?_
  obtain ⟨v1, e2, hf⟩ := fx_bnd hf
  refine fx_raldI (pc := 10) F e2 dX6_keepRow_10 ?_
  refine fx_iadd (pc := 11) F dX6_keepRow_11 ?_
  refine fx_imul (pc := 12) F dX6_keepRow_12 ?_
  refine fx_istore_n (pc := 13) (ls' := [some (8, this_0), some (0, p_0), some (0, many_0), some (0, (fx_w (5 * (fx_w ((fx_w (120 * p_0)) + v1))))), none]) F 3 rfl (by decide) rfl rfl dX6_keepRow_13 ?_
  refine fx_iconst (pc := 14) F ⟨by decide, by decide⟩ dX6_keepRow_14 ?_
  refine fx_istore (pc := 15) (ls' := [some (8, this_0), some (0, p_0), some (0, many_0), some (0, (fx_w (5 * (fx_w ((fx_w (120 * p_0)) + v1))))), some (0, 0)]) F (by decide) rfl rfl dX6_keepRow_15 ?_
  obtain ⟨⟨h_34, h35⟩, e36, hf⟩ := fx_bnd hf
  have hE37 : fx_J M G Λ 5 61 [some (8, this_0), some (0, p_0), some (0, many_0), some (0, (fx_w (5 * (fx_w ((fx_w (120 * p_0)) + v1))))), some (0, h_34)] [] h35 := by
    refine fx_aload_n (pc := 61) (t := 6) F 0 rfl rfl dX6_keepRow_61 ?_
    refine fx_gR (pc := 62) F 6 10 10 8 rfl kC_X6 (by decide) rfl wF_X6_39 dX6_keepRow_62 ?_
    refine fx_iload_n (pc := 65) F 1 rfl rfl dX6_keepRow_65 ?_
    refine fx_dup2 (pc := 66) F (show (0 : Nat) ≠ 1 by decide) (show (10 : Nat) ≠ 1 by decide) dX6_keepRow_66 ?_
    obtain ⟨v38, e39, hf⟩ := fx_bnd hf
    refine fx_raldI (pc := 67) F e39 dX6_keepRow_67 ?_
    refine fx_iconst (pc := 68) F ⟨by decide, by decide⟩ dX6_keepRow_68 ?_
    refine fx_iadd (pc := 69) F dX6_keepRow_69 ?_
    obtain ⟨h40, e41, hf⟩ := fx_bnd hf
    refine fx_rastI (pc := 70) F e41 dX6_keepRow_70 ?_
    cases hf
    exact fx_vreturn (pc := 71) F K dX6_keepRow_71
  refine fx_loop_J (Hd := (fun z : Int × fx_H => fx_J M G Λ 5 17 [some (8, this_0), some (0, p_0), some (0, many_0), some (0, (fx_w (5 * (fx_w ((fx_w (120 * p_0)) + v1))))), some (0, z.1)] [] z.2)) (Ex := (fun z : Int × fx_H => fx_J M G Λ 5 61 [some (8, this_0), some (0, p_0), some (0, many_0), some (0, (fx_w (5 * (fx_w ((fx_w (120 * p_0)) + v1))))), some (0, z.1)] [] z.2)) ?_ Fu _ _ e36 hE37
  rintro ⟨h_20, h21⟩ o9 eq22 ih ex
  unfold s_X6_keepRow_1 at eq22
  show fx_J M G Λ 5 17 [some (8, this_0), some (0, p_0), some (0, many_0), some (0, (fx_w (5 * (fx_w ((fx_w (120 * p_0)) + v1))))), some (0, h_20)] [] h21
  refine fx_iload (pc := 17) F rfl dX6_keepRow_17 ?_
  refine fx_iload_n (pc := 19) F 2 rfl rfl dX6_keepRow_19 ?_
  refine fx_nlt (pc := 20) F 61 (by decide) dX6_keepRow_20 (fun c23 => ?_) (fun c23 => ?_)
  · have eq22 := (if_pos c23).symm.trans eq22
    refine fx_aload_n (pc := 23) (t := 6) F 0 rfl rfl dX6_keepRow_23 ?_
    refine fx_gR (pc := 24) F 6 9 9 8 rfl kC_X6 (by decide) rfl wF_X6_36 dX6_keepRow_24 ?_
    refine fx_iload_n (pc := 27) F 3 rfl rfl dX6_keepRow_27 ?_
    refine fx_iload (pc := 28) F rfl dX6_keepRow_28 ?_
    refine fx_iadd (pc := 30) F dX6_keepRow_30 ?_
    obtain ⟨v24, e25, eq22⟩ := fx_bnd eq22
    have hJ26 : fx_J M G Λ 5 54 [some (8, this_0), some (0, p_0), some (0, many_0), some (0, (fx_w (5 * (fx_w ((fx_w (120 * p_0)) + v1))))), some (0, h_20)] [(0, v24), (0, (fx_w ((fx_w (5 * (fx_w ((fx_w (120 * p_0)) + v1)))) + h_20))), (10, (fx_tg Λ this_0 9))] h21 := by
      obtain ⟨h32, e33, eq22⟩ := fx_bnd eq22
      refine fx_rastI (pc := 54) F e33 dX6_keepRow_54 ?_
      refine fx_iinc (pc := 55) (ls' := [some (8, this_0), some (0, p_0), some (0, many_0), some (0, (fx_w (5 * (fx_w ((fx_w (120 * p_0)) + v1))))), some (0, (fx_w (h_20 + 1)))]) F (by decide) rfl rfl rfl dX6_keepRow_55 ?_
      refine fx_goto (pc := 58) F 17 (by decide) dX6_keepRow_58 ?_
      cases eq22
      exact ih _ rfl
    refine fx_aload_n (pc := 31) (t := 6) F 0 rfl rfl dX6_keepRow_31 ?_
    refine fx_gR (pc := 32) F 6 12 12 8 rfl kC_X6 (by decide) rfl wF_X6_45 dX6_keepRow_32 ?_
    refine fx_iload (pc := 35) F rfl dX6_keepRow_35 ?_
    obtain ⟨v27, e28, e25⟩ := fx_bnd e25
    refine fx_raldI (pc := 37) F e28 dX6_keepRow_37 ?_
    refine fx_bipush (pc := 38) F ⟨by decide, by decide⟩ (by decide) dX6_keepRow_38 ?_
    refine fx_neq (pc := 40) F 47 (by decide) dX6_keepRow_40 (fun c29 => ?_) (fun c29 => ?_)
    · have e25 := (if_pos c29).symm.trans e25
      refine fx_iconst (pc := 43) F ⟨by decide, by decide⟩ dX6_keepRow_43 ?_
      cases e25
      refine fx_goto (pc := 44) F 54 (by decide) dX6_keepRow_44 ?_
      exact hJ26
    · have e25 := (if_neg c29).symm.trans e25
      refine fx_aload_n (pc := 47) (t := 6) F 0 rfl rfl dX6_keepRow_47 ?_
      refine fx_gR (pc := 48) F 6 12 12 8 rfl kC_X6 (by decide) rfl wF_X6_45 dX6_keepRow_48 ?_
      refine fx_iload (pc := 51) F rfl dX6_keepRow_51 ?_
      obtain ⟨v30, e31, e25⟩ := fx_bnd e25
      refine fx_raldI (pc := 53) F e31 dX6_keepRow_53 ?_
      cases e25
      exact hJ26
  · have eq22 := (if_neg c23).symm.trans eq22
    cases eq22
    exact ex _ rfl
def s_X6_findRows_2 (Fu : Nat) (Λ : fx_L) (this_30 : Int) (h_31 : Int) : fx_H → Option ((fx_H) ⊕ (fx_H)) := fun h29 =>
  (fx_rd Λ h29 (fx_tg Λ this_30 12) h_31).bind fun v33 =>
  (fx_wr Λ h29 (fx_tg Λ this_30 12) h_31 (fx_w (v33 + 1))).bind fun h35 =>
  Option.bind (
    (fx_rd Λ h35 (fx_tg Λ this_30 12) h_31).bind fun v41 =>
    if v41 ≤ 9 then
      (fx_rd Λ h35 (fx_tg Λ this_30 12) h_31).bind fun v44 =>
      (fx_rd Λ h35 (fx_tg Λ this_30 11) v44).bind fun v46 =>
      if v46 = 0 then
        some true
      else
        some false
    else
      some false
  ) fun b37 =>
  if b37 = true then
    some (.inl h35)
  else
    some (.inr h35)
def s_X6_findRows_1 (Fu : Nat) (Λ : fx_L) (this_12 : Int) (p_13 : Int) (many_14 : Int) : Int × fx_H → Option ((Int × fx_H) ⊕ (Int × fx_H)) := fun (h_10, h11) =>
  if 0 ≤ h_10 then
    Option.bind (
      (fx_rd Λ h11 (fx_tg Λ this_12 12) h_10).bind fun v20 =>
      if ¬ v20 = (-1) then
        (fx_rd Λ h11 (fx_tg Λ this_12 12) h_10).bind fun v23 =>
        (fx_rd Λ h11 (fx_tg Λ this_12 11) v23).bind fun v25 =>
        (fx_wr Λ h11 (fx_tg Λ this_12 11) v23 (fx_w (v25 + 1))).bind fun h27 =>
        some h27
      else
        some h11
    ) fun h17 =>
    Option.bind (fx_loop (s_X6_findRows_2 Fu Λ this_12 h_10) Fu h17) fun h69 =>
    (fx_rd Λ h69 (fx_tg Λ this_12 12) h_10).bind fun v72 =>
    if 9 < v72 then
      some (.inl ((fx_w (h_10 + (-1))), h69))
    else
      (fx_rd Λ h69 (fx_tg Λ this_12 12) h_10).bind fun v75 =>
      (fx_rd Λ h69 (fx_tg Λ this_12 11) v75).bind fun v77 =>
      (fx_wr Λ h69 (fx_tg Λ this_12 11) v75 (fx_w (v77 - 1))).bind fun h79 =>
      if h_10 = (fx_w (many_14 - 1)) then
        (f_X6_keepRow Fu Λ this_12 p_13 many_14 h79).bind fun h82 =>
        some (.inl (h_10, h82))
      else
        (fx_wr Λ h79 (fx_tg Λ this_12 12) (fx_w (h_10 + 1)) (-1)).bind fun h84 =>
        some (.inl ((fx_w (h_10 + 1)), h84))
  else
    some (.inr (h_10, h11))
def f_X6_findRows (Fu : Nat) (Λ : fx_L) (this_0 : Int) (p_0 : Int) (many_0 : Int) (h : fx_H) : Option (fx_H) :=
  (f_X6_takeNeeds Fu Λ this_0 p_0 many_0 h).bind fun h1 =>
  (fx_wr Λ h1 (fx_tg Λ this_0 10) p_0 0).bind fun h3 =>
  (fx_rd Λ h3 (fx_tg Λ this_0 11) 9).bind fun v5 =>
  if v5 < 0 then
    some h3
  else
    (fx_wr Λ h3 (fx_tg Λ this_0 12) 0 (-1)).bind fun h8 =>
    Option.bind (fx_loop (s_X6_findRows_1 Fu Λ this_0 p_0 many_0) Fu (0, h8)) fun (h_159, h160) =>
    some h160
abbrev rm_X6_findRows : Room := { frames := 1, cells := 0, slots := 0, locals := 24 }
set_option maxRecDepth 100000 in
set_option maxHeartbeats 4000000 in
theorem m_X6_findRows (Fu : Nat) (Λ : fx_L) (this_0 : Int) (p_0 : Int) (many_0 : Int) (h : fx_H) (ho : fx_H) (hf : f_X6_findRows Fu Λ this_0 p_0 many_0 h = some ho) : fx_Met yX6_findRows cX6_findRows 4 none rm_X6_findRows Λ [(8, this_0), (0, p_0), (0, many_0)] h none ho := by
  unfold f_X6_findRows at hf
  refine fx_enter (ls := [some (8, this_0), some (0, p_0), some (0, many_0), none]) (by decide) (Nat.le_of_ble_eq_true rfl) rfl (fun M G F K => ?_)
  refine fx_aload_n (pc := 0) (t := 6) F 0 rfl rfl dX6_findRows_0 ?_
  refine fx_iload_n (pc := 1) F 1 rfl rfl dX6_findRows_1 ?_
  refine fx_iload_n (pc := 2) F 2 rfl rfl dX6_findRows_2 ?_
  obtain ⟨h1, e2, hf⟩ := fx_bnd hf
  refine fx_cVv (pc := 3) F 6 kC_X6 [(0, p_0), (0, many_0)] this_0 [] (m_X6_takeNeeds Fu Λ this_0 p_0 many_0 h _ e2) kD_X6_takeNeeds kI_X6_takeNeeds rfl wM_X6_146 ⟨rfl, rfl⟩ ⟨by decide, by decide⟩ (Nat.le_of_ble_eq_true rfl) rfl dX6_findRows_3 ?_
  refine fx_aload_n (pc := 6) (t := 6) F 0 rfl rfl dX6_findRows_6 ?_
  refine fx_gR (pc := 7) F 6 10 10 8 rfl kC_X6 (by decide) rfl wF_X6_39 dX6_findRows_7 ?_
  refine fx_iload_n (pc := 10) F 1 rfl rfl dX6_findRows_10 ?_
  refine fx_iconst (pc := 11) F ⟨by decide, by decide⟩ dX6_findRows_11 ?_
  obtain ⟨h3, e4, hf⟩ := fx_bnd hf
  refine fx_rastI (pc := 12) F e4 dX6_findRows_12 ?_
  refine fx_aload_n (pc := 13) (t := 6) F 0 rfl rfl dX6_findRows_13 ?_
  refine fx_gR (pc := 14) F 6 11 11 8 rfl kC_X6 (by decide) rfl wF_X6_42 dX6_findRows_14 ?_
  refine fx_bipush (pc := 17) F ⟨by decide, by decide⟩ (by decide) dX6_findRows_17 ?_
  obtain ⟨v5, e6, hf⟩ := fx_bnd hf
  refine fx_raldI (pc := 19) F e6 dX6_findRows_19 ?_
  refine fx_nzlt (pc := 20) F 24 (by decide) dX6_findRows_20 (fun c7 => ?_) (fun c7 => ?_)
  · have hf := (if_pos c7).symm.trans hf
    cases hf
    exact fx_vreturn (pc := 23) F K dX6_findRows_23
  · have hf := (if_neg c7).symm.trans hf
    refine fx_iconst (pc := 24) F ⟨by decide, by decide⟩ dX6_findRows_24 ?_
    refine fx_istore_n (pc := 25) (ls' := [some (8, this_0), some (0, p_0), some (0, many_0), some (0, 0)]) F 3 rfl (by decide) rfl rfl dX6_findRows_25 ?_
    refine fx_aload_n (pc := 26) (t := 6) F 0 rfl rfl dX6_findRows_26 ?_
    refine fx_gR (pc := 27) F 6 12 12 8 rfl kC_X6 (by decide) rfl wF_X6_45 dX6_findRows_27 ?_
    refine fx_iconst (pc := 30) F ⟨by decide, by decide⟩ dX6_findRows_30 ?_
    refine fx_iconst (pc := 31) F ⟨by decide, by decide⟩ dX6_findRows_31 ?_
    obtain ⟨h8, e9, hf⟩ := fx_bnd hf
    refine fx_rastI (pc := 32) F e9 dX6_findRows_32 ?_
    obtain ⟨⟨h_159, h160⟩, e161, hf⟩ := fx_bnd hf
    have hE162 : fx_J M G Λ 4 158 [some (8, this_0), some (0, p_0), some (0, many_0), some (0, h_159)] [] h160 := by
      cases hf
      exact fx_vreturn (pc := 158) F K dX6_findRows_158
    refine fx_loop_J (Hd := (fun z : Int × fx_H => fx_J M G Λ 4 33 [some (8, this_0), some (0, p_0), some (0, many_0), some (0, z.1)] [] z.2)) (Ex := (fun z : Int × fx_H => fx_J M G Λ 4 158 [some (8, this_0), some (0, p_0), some (0, many_0), some (0, z.1)] [] z.2)) ?_ Fu _ _ e161 hE162
    rintro ⟨h_86, h87⟩ o9 eq88 ih ex
    unfold s_X6_findRows_1 at eq88
    show fx_J M G Λ 4 33 [some (8, this_0), some (0, p_0), some (0, many_0), some (0, h_86)] [] h87
    refine fx_iload_n (pc := 33) F 3 rfl rfl dX6_findRows_33 ?_
    refine fx_nzge (pc := 34) F 158 (by decide) dX6_findRows_34 (fun c89 => ?_) (fun c89 => ?_)
    · have eq88 := (if_pos c89).symm.trans eq88
      obtain ⟨h90, e91, eq88⟩ := fx_bnd eq88
      have hJ92 : fx_J M G Λ 4 62 [some (8, this_0), some (0, p_0), some (0, many_0), some (0, h_86)] [] h90 := by
        obtain ⟨h142, e143, eq88⟩ := fx_bnd eq88
        have hE144 : fx_J M G Λ 4 97 [some (8, this_0), some (0, p_0), some (0, many_0), some (0, h_86)] [] h142 := by
          refine fx_aload_n (pc := 97) (t := 6) F 0 rfl rfl dX6_findRows_97 ?_
          refine fx_gR (pc := 98) F 6 12 12 8 rfl kC_X6 (by decide) rfl wF_X6_45 dX6_findRows_98 ?_
          refine fx_iload_n (pc := 101) F 3 rfl rfl dX6_findRows_101 ?_
          obtain ⟨v145, e146, eq88⟩ := fx_bnd eq88
          refine fx_raldI (pc := 102) F e146 dX6_findRows_102 ?_
          refine fx_bipush (pc := 103) F ⟨by decide, by decide⟩ (by decide) dX6_findRows_103 ?_
          refine fx_ngt (pc := 105) F 114 (by decide) dX6_findRows_105 (fun c147 => ?_) (fun c147 => ?_)
          · have eq88 := (if_pos c147).symm.trans eq88
            refine fx_iinc (pc := 108) (ls' := [some (8, this_0), some (0, p_0), some (0, many_0), some (0, (fx_w (h_86 + (-1))))]) F (by decide) rfl rfl rfl dX6_findRows_108 ?_
            refine fx_goto (pc := 111) F 33 (by decide) dX6_findRows_111 ?_
            cases eq88
            exact ih _ rfl
          · have eq88 := (if_neg c147).symm.trans eq88
            refine fx_aload_n (pc := 114) (t := 6) F 0 rfl rfl dX6_findRows_114 ?_
            refine fx_gR (pc := 115) F 6 11 11 8 rfl kC_X6 (by decide) rfl wF_X6_42 dX6_findRows_115 ?_
            refine fx_aload_n (pc := 118) (t := 6) F 0 rfl rfl dX6_findRows_118 ?_
            refine fx_gR (pc := 119) F 6 12 12 8 rfl kC_X6 (by decide) rfl wF_X6_45 dX6_findRows_119 ?_
            refine fx_iload_n (pc := 122) F 3 rfl rfl dX6_findRows_122 ?_
            obtain ⟨v148, e149, eq88⟩ := fx_bnd eq88
            refine fx_raldI (pc := 123) F e149 dX6_findRows_123 ?_
            refine fx_dup2 (pc := 124) F (show (0 : Nat) ≠ 1 by decide) (show (10 : Nat) ≠ 1 by decide) dX6_findRows_124 ?_
            obtain ⟨v150, e151, eq88⟩ := fx_bnd eq88
            refine fx_raldI (pc := 125) F e151 dX6_findRows_125 ?_
            refine fx_iconst (pc := 126) F ⟨by decide, by decide⟩ dX6_findRows_126 ?_
            refine fx_isub (pc := 127) F dX6_findRows_127 ?_
            obtain ⟨h152, e153, eq88⟩ := fx_bnd eq88
            refine fx_rastI (pc := 128) F e153 dX6_findRows_128 ?_
            refine fx_iload_n (pc := 129) F 3 rfl rfl dX6_findRows_129 ?_
            refine fx_iload_n (pc := 130) F 2 rfl rfl dX6_findRows_130 ?_
            refine fx_iconst (pc := 131) F ⟨by decide, by decide⟩ dX6_findRows_131 ?_
            refine fx_isub (pc := 132) F dX6_findRows_132 ?_
            refine fx_neq (pc := 133) F 145 (by decide) dX6_findRows_133 (fun c154 => ?_) (fun c154 => ?_)
            · have eq88 := (if_pos c154).symm.trans eq88
              refine fx_aload_n (pc := 136) (t := 6) F 0 rfl rfl dX6_findRows_136 ?_
              refine fx_iload_n (pc := 137) F 1 rfl rfl dX6_findRows_137 ?_
              refine fx_iload_n (pc := 138) F 2 rfl rfl dX6_findRows_138 ?_
              obtain ⟨h155, e156, eq88⟩ := fx_bnd eq88
              refine fx_cVv (pc := 139) F 6 kC_X6 [(0, p_0), (0, many_0)] this_0 [] (m_X6_keepRow Fu Λ this_0 p_0 many_0 h152 _ e156) kD_X6_keepRow kI_X6_keepRow rfl wM_X6_149 ⟨rfl, rfl⟩ ⟨by decide, by decide⟩ (Nat.le_of_ble_eq_true rfl) rfl dX6_findRows_139 ?_
              refine fx_goto (pc := 142) F 33 (by decide) dX6_findRows_142 ?_
              cases eq88
              exact ih _ rfl
            · have eq88 := (if_neg c154).symm.trans eq88
              refine fx_iinc (pc := 145) (ls' := [some (8, this_0), some (0, p_0), some (0, many_0), some (0, (fx_w (h_86 + 1)))]) F (by decide) rfl rfl rfl dX6_findRows_145 ?_
              refine fx_aload_n (pc := 148) (t := 6) F 0 rfl rfl dX6_findRows_148 ?_
              refine fx_gR (pc := 149) F 6 12 12 8 rfl kC_X6 (by decide) rfl wF_X6_45 dX6_findRows_149 ?_
              refine fx_iload_n (pc := 152) F 3 rfl rfl dX6_findRows_152 ?_
              refine fx_iconst (pc := 153) F ⟨by decide, by decide⟩ dX6_findRows_153 ?_
              obtain ⟨h157, e158, eq88⟩ := fx_bnd eq88
              refine fx_rastI (pc := 154) F e158 dX6_findRows_154 ?_
              refine fx_goto (pc := 155) F 33 (by decide) dX6_findRows_155 ?_
              cases eq88
              exact ih _ rfl
        refine fx_loop_J (Hd := (fun z : fx_H => fx_J M G Λ 4 62 [some (8, this_0), some (0, p_0), some (0, many_0), some (0, h_86)] [] z)) (Ex := (fun z : fx_H => fx_J M G Λ 4 97 [some (8, this_0), some (0, p_0), some (0, many_0), some (0, h_86)] [] z)) ?_ Fu _ _ e143 hE144
        rintro h123 o9 eq124 ih ex
        unfold s_X6_findRows_2 at eq124
        show fx_J M G Λ 4 62 [some (8, this_0), some (0, p_0), some (0, many_0), some (0, h_86)] [] h123
        refine fx_aload_n (pc := 62) (t := 6) F 0 rfl rfl dX6_findRows_62 ?_
        refine fx_gR (pc := 63) F 6 12 12 8 rfl kC_X6 (by decide) rfl wF_X6_45 dX6_findRows_63 ?_
        refine fx_iload_n (pc := 66) F 3 rfl rfl dX6_findRows_66 ?_
        refine fx_dup2 (pc := 67) F (show (0 : Nat) ≠ 1 by decide) (show (10 : Nat) ≠ 1 by decide) dX6_findRows_67 ?_
        obtain ⟨v125, e126, eq124⟩ := fx_bnd eq124
        refine fx_raldI (pc := 68) F e126 dX6_findRows_68 ?_
        refine fx_iconst (pc := 69) F ⟨by decide, by decide⟩ dX6_findRows_69 ?_
        refine fx_iadd (pc := 70) F dX6_findRows_70 ?_
        obtain ⟨h127, e128, eq124⟩ := fx_bnd eq124
        refine fx_rastI (pc := 71) F e128 dX6_findRows_71 ?_
        obtain ⟨b129, e130, eq124⟩ := fx_bnd eq124
        have hT131 : b129 = true → fx_J M G Λ 4 62 [some (8, this_0), some (0, p_0), some (0, many_0), some (0, h_86)] [] h127 := fun c141 => by
          have eq124 := (if_pos c141).symm.trans eq124
          cases eq124
          exact ih _ rfl
        have hF132 : ¬ b129 = true → fx_J M G Λ 4 97 [some (8, this_0), some (0, p_0), some (0, many_0), some (0, h_86)] [] h127 := fun c141 => by
          have eq124 := (if_neg c141).symm.trans eq124
          cases eq124
          exact ex _ rfl
        refine fx_aload_n (pc := 72) (t := 6) F 0 rfl rfl dX6_findRows_72 ?_
        refine fx_gR (pc := 73) F 6 12 12 8 rfl kC_X6 (by decide) rfl wF_X6_45 dX6_findRows_73 ?_
        refine fx_iload_n (pc := 76) F 3 rfl rfl dX6_findRows_76 ?_
        obtain ⟨v133, e134, e130⟩ := fx_bnd e130
        refine fx_raldI (pc := 77) F e134 dX6_findRows_77 ?_
        refine fx_bipush (pc := 78) F ⟨by decide, by decide⟩ (by decide) dX6_findRows_78 ?_
        refine fx_nle (pc := 80) F 97 (by decide) dX6_findRows_80 (fun c135 => ?_) (fun c135 => ?_)
        · have e130 := (if_pos c135).symm.trans e130
          refine fx_aload_n (pc := 83) (t := 6) F 0 rfl rfl dX6_findRows_83 ?_
          refine fx_gR (pc := 84) F 6 11 11 8 rfl kC_X6 (by decide) rfl wF_X6_42 dX6_findRows_84 ?_
          refine fx_aload_n (pc := 87) (t := 6) F 0 rfl rfl dX6_findRows_87 ?_
          refine fx_gR (pc := 88) F 6 12 12 8 rfl kC_X6 (by decide) rfl wF_X6_45 dX6_findRows_88 ?_
          refine fx_iload_n (pc := 91) F 3 rfl rfl dX6_findRows_91 ?_
          obtain ⟨v136, e137, e130⟩ := fx_bnd e130
          refine fx_raldI (pc := 92) F e137 dX6_findRows_92 ?_
          obtain ⟨v138, e139, e130⟩ := fx_bnd e130
          refine fx_raldI (pc := 93) F e139 dX6_findRows_93 ?_
          refine fx_jzeq (pc := 94) F 62 (by decide) dX6_findRows_94 (fun c140 => ?_) (fun c140 => ?_)
          · have e130 := (if_pos c140).symm.trans e130
            cases e130
            exact hT131 (by decide)
          · have e130 := (if_neg c140).symm.trans e130
            cases e130
            exact hF132 (by decide)
        · have e130 := (if_neg c135).symm.trans e130
          cases e130
          exact hF132 (by decide)
      refine fx_aload_n (pc := 37) (t := 6) F 0 rfl rfl dX6_findRows_37 ?_
      refine fx_gR (pc := 38) F 6 12 12 8 rfl kC_X6 (by decide) rfl wF_X6_45 dX6_findRows_38 ?_
      refine fx_iload_n (pc := 41) F 3 rfl rfl dX6_findRows_41 ?_
      obtain ⟨v93, e94, e91⟩ := fx_bnd e91
      refine fx_raldI (pc := 42) F e94 dX6_findRows_42 ?_
      refine fx_iconst (pc := 43) F ⟨by decide, by decide⟩ dX6_findRows_43 ?_
      refine fx_nne (pc := 44) F 62 (by decide) dX6_findRows_44 (fun c95 => ?_) (fun c95 => ?_)
      · have e91 := (if_pos c95).symm.trans e91
        refine fx_aload_n (pc := 47) (t := 6) F 0 rfl rfl dX6_findRows_47 ?_
        refine fx_gR (pc := 48) F 6 11 11 8 rfl kC_X6 (by decide) rfl wF_X6_42 dX6_findRows_48 ?_
        refine fx_aload_n (pc := 51) (t := 6) F 0 rfl rfl dX6_findRows_51 ?_
        refine fx_gR (pc := 52) F 6 12 12 8 rfl kC_X6 (by decide) rfl wF_X6_45 dX6_findRows_52 ?_
        refine fx_iload_n (pc := 55) F 3 rfl rfl dX6_findRows_55 ?_
        obtain ⟨v96, e97, e91⟩ := fx_bnd e91
        refine fx_raldI (pc := 56) F e97 dX6_findRows_56 ?_
        refine fx_dup2 (pc := 57) F (show (0 : Nat) ≠ 1 by decide) (show (10 : Nat) ≠ 1 by decide) dX6_findRows_57 ?_
        obtain ⟨v98, e99, e91⟩ := fx_bnd e91
        refine fx_raldI (pc := 58) F e99 dX6_findRows_58 ?_
        refine fx_iconst (pc := 59) F ⟨by decide, by decide⟩ dX6_findRows_59 ?_
        refine fx_iadd (pc := 60) F dX6_findRows_60 ?_
        obtain ⟨h100, e101, e91⟩ := fx_bnd e91
        refine fx_rastI (pc := 61) F e101 dX6_findRows_61 ?_
        cases e91
        exact hJ92
      · have e91 := (if_neg c95).symm.trans e91
        cases e91
        exact hJ92
    · have eq88 := (if_neg c89).symm.trans eq88
      cases eq88
      exact ex _ rfl
def s_X6_findAllRows_1 (Fu : Nat) (Λ : fx_L) (this_3 : Int) (many_4 : Int) : Int × fx_H → Option ((Int × fx_H) ⊕ (Int × fx_H)) := fun (p_1, h2) =>
  (f_X6_people Fu Λ this_3 h2).bind fun v6 =>
  if p_1 < v6 then
    (f_X6_findRows Fu Λ this_3 p_1 many_4 h2).bind fun h9 =>
    some (.inl ((fx_w (p_1 + 1)), h9))
  else
    some (.inr (p_1, h2))
def f_X6_findAllRows (Fu : Nat) (Λ : fx_L) (this_0 : Int) (many_0 : Int) (h : fx_H) : Option (fx_H) :=
  Option.bind (fx_loop (s_X6_findAllRows_1 Fu Λ this_0 many_0) Fu (0, h)) fun (p_19, h20) =>
  some h20
abbrev rm_X6_findAllRows : Room := { frames := 2, cells := 0, slots := 0, locals := 47 }
set_option maxRecDepth 100000 in
set_option maxHeartbeats 4000000 in
theorem m_X6_findAllRows (Fu : Nat) (Λ : fx_L) (this_0 : Int) (many_0 : Int) (h : fx_H) (ho : fx_H) (hf : f_X6_findAllRows Fu Λ this_0 many_0 h = some ho) : fx_Met yX6_findAllRows cX6_findAllRows 3 none rm_X6_findAllRows Λ [(8, this_0), (0, many_0)] h none ho := by
  unfold f_X6_findAllRows at hf
  refine fx_enter (ls := [some (8, this_0), some (0, many_0), none]) (by decide) (Nat.le_of_ble_eq_true rfl) rfl (fun M G F K => ?_)
  refine fx_iconst (pc := 0) F ⟨by decide, by decide⟩ dX6_findAllRows_0 ?_
  refine fx_istore_n (pc := 1) (ls' := [some (8, this_0), some (0, many_0), some (0, 0)]) F 2 rfl (by decide) rfl rfl dX6_findAllRows_1 ?_
  obtain ⟨⟨p_19, h20⟩, e21, hf⟩ := fx_bnd hf
  have hE22 : fx_J M G Λ 3 22 [some (8, this_0), some (0, many_0), some (0, p_19)] [] h20 := by
    cases hf
    exact fx_vreturn (pc := 22) F K dX6_findAllRows_22
  refine fx_loop_J (Hd := (fun z : Int × fx_H => fx_J M G Λ 3 2 [some (8, this_0), some (0, many_0), some (0, z.1)] [] z.2)) (Ex := (fun z : Int × fx_H => fx_J M G Λ 3 22 [some (8, this_0), some (0, many_0), some (0, z.1)] [] z.2)) ?_ Fu _ _ e21 hE22
  rintro ⟨p_11, h12⟩ o9 eq13 ih ex
  unfold s_X6_findAllRows_1 at eq13
  show fx_J M G Λ 3 2 [some (8, this_0), some (0, many_0), some (0, p_11)] [] h12
  refine fx_iload_n (pc := 2) F 2 rfl rfl dX6_findAllRows_2 ?_
  refine fx_aload_n (pc := 3) (t := 6) F 0 rfl rfl dX6_findAllRows_3 ?_
  obtain ⟨v14, e15, eq13⟩ := fx_bnd eq13
  refine fx_cV (pc := 4) F 6 kC_X6 [] this_0 [(0, p_11)] (m_X6_people Fu Λ this_0 h12 _ e15) kD_X6_people kI_X6_people rfl wM_X6_78 ⟨rfl, rfl⟩ ⟨by decide, by decide⟩ (Nat.le_of_ble_eq_true rfl) rfl dX6_findAllRows_4 ?_
  refine fx_nlt (pc := 7) F 22 (by decide) dX6_findAllRows_7 (fun c16 => ?_) (fun c16 => ?_)
  · have eq13 := (if_pos c16).symm.trans eq13
    refine fx_aload_n (pc := 10) (t := 6) F 0 rfl rfl dX6_findAllRows_10 ?_
    refine fx_iload_n (pc := 11) F 2 rfl rfl dX6_findAllRows_11 ?_
    refine fx_iload_n (pc := 12) F 1 rfl rfl dX6_findAllRows_12 ?_
    obtain ⟨h17, e18, eq13⟩ := fx_bnd eq13
    refine fx_cVv (pc := 13) F 6 kC_X6 [(0, p_11), (0, many_0)] this_0 [] (m_X6_findRows Fu Λ this_0 p_11 many_0 h12 _ e18) kD_X6_findRows kI_X6_findRows rfl wM_X6_152 ⟨rfl, rfl⟩ ⟨by decide, by decide⟩ (Nat.le_of_ble_eq_true rfl) rfl dX6_findAllRows_13 ?_
    refine fx_iinc (pc := 16) (ls' := [some (8, this_0), some (0, many_0), some (0, (fx_w (p_11 + 1)))]) F (by decide) rfl rfl rfl dX6_findAllRows_16 ?_
    refine fx_goto (pc := 19) F 2 (by decide) dX6_findAllRows_19 ?_
    cases eq13
    exact ih _ rfl
  · have eq13 := (if_neg c16).symm.trans eq13
    cases eq13
    exact ex _ rfl
def s_X6_ways_1 (Fu : Nat) (Λ : fx_L) (this_3 : Int) (h : fx_H) : Int × Int → Option ((Int × Int) ⊕ (Int × Int)) := fun (v_1, p_2) =>
  (f_X6_people Fu Λ this_3 h).bind fun v5 =>
  if p_2 < v5 then
    (fx_rd Λ h (fx_tg Λ this_3 10) p_2).bind fun v8 =>
    some (.inl ((fx_wl (v_1 * v8)), (fx_w (p_2 + 1))))
  else
    some (.inr (v_1, p_2))
def f_X6_ways (Fu : Nat) (Λ : fx_L) (this_0 : Int) (h : fx_H) : Option (Int) :=
  Option.bind (fx_loop (s_X6_ways_1 Fu Λ this_0 h) Fu (1, 0)) fun (v_18, p_19) =>
  some v_18
abbrev rm_X6_ways : Room := { frames := 1, cells := 0, slots := 0, locals := 20 }
set_option maxRecDepth 100000 in
set_option maxHeartbeats 4000000 in
theorem m_X6_ways (Fu : Nat) (Λ : fx_L) (this_0 : Int) (h : fx_H) (r : Int) (hf : f_X6_ways Fu Λ this_0 h = some r) : fx_Met yX6_ways cX6_ways 4 (some .long) rm_X6_ways Λ [(8, this_0)] h (some (1, r)) h := by
  unfold f_X6_ways at hf
  refine fx_enter (ls := [some (8, this_0), none, none, none]) (by decide) (Nat.le_of_ble_eq_true rfl) rfl (fun M G F K => ?_)
  refine fx_lconst (pc := 0) (z := 1) F rfl ⟨by decide, by decide⟩ (by decide) dX6_ways_0 ?_
  refine fx_lstore_n (pc := 1) (ls' := [some (8, this_0), some (1, 1), none, none]) F 1 rfl (by decide) rfl rfl dX6_ways_1 ?_
  refine fx_iconst (pc := 2) F ⟨by decide, by decide⟩ dX6_ways_2 ?_
  refine fx_istore_n (pc := 3) (ls' := [some (8, this_0), some (1, 1), none, some (0, 0)]) F 3 rfl (by decide) rfl rfl dX6_ways_3 ?_
  obtain ⟨⟨v_18, p_19⟩, e20, hf⟩ := fx_bnd hf
  have hE21 : fx_J M G Λ 4 28 [some (8, this_0), some (1, v_18), none, some (0, p_19)] [] h := by
    refine fx_lload_n (pc := 28) F 1 rfl rfl dX6_ways_28 ?_
    cases hf
    exact fx_lreturn (pc := 29) F K dX6_ways_29
  refine fx_loop_J (Hd := (fun z : Int × Int => fx_J M G Λ 4 4 [some (8, this_0), some (1, z.1), none, some (0, z.2)] [] h)) (Ex := (fun z : Int × Int => fx_J M G Λ 4 28 [some (8, this_0), some (1, z.1), none, some (0, z.2)] [] h)) ?_ Fu _ _ e20 hE21
  rintro ⟨v_10, p_11⟩ o9 eq12 ih ex
  unfold s_X6_ways_1 at eq12
  show fx_J M G Λ 4 4 [some (8, this_0), some (1, v_10), none, some (0, p_11)] [] h
  refine fx_iload_n (pc := 4) F 3 rfl rfl dX6_ways_4 ?_
  refine fx_aload_n (pc := 5) (t := 6) F 0 rfl rfl dX6_ways_5 ?_
  obtain ⟨v13, e14, eq12⟩ := fx_bnd eq12
  refine fx_cV (pc := 6) F 6 kC_X6 [] this_0 [(0, p_11)] (m_X6_people Fu Λ this_0 h _ e14) kD_X6_people kI_X6_people rfl wM_X6_78 ⟨rfl, rfl⟩ ⟨by decide, by decide⟩ (Nat.le_of_ble_eq_true rfl) rfl dX6_ways_6 ?_
  refine fx_nlt (pc := 9) F 28 (by decide) dX6_ways_9 (fun c15 => ?_) (fun c15 => ?_)
  · have eq12 := (if_pos c15).symm.trans eq12
    refine fx_lload_n (pc := 12) F 1 rfl rfl dX6_ways_12 ?_
    refine fx_aload_n (pc := 13) (t := 6) F 0 rfl rfl dX6_ways_13 ?_
    refine fx_gR (pc := 14) F 6 10 10 8 rfl kC_X6 (by decide) rfl wF_X6_39 dX6_ways_14 ?_
    refine fx_iload_n (pc := 17) F 3 rfl rfl dX6_ways_17 ?_
    obtain ⟨v16, e17, eq12⟩ := fx_bnd eq12
    refine fx_raldI (pc := 18) F e17 dX6_ways_18 ?_
    refine fx_ri2l (pc := 19) F dX6_ways_19 ?_
    refine fx_lmul (pc := 20) F dX6_ways_20 ?_
    refine fx_lstore_n (pc := 21) (ls' := [some (8, this_0), some (1, (fx_wl (v_10 * v16))), none, some (0, p_11)]) F 1 rfl (by decide) rfl rfl dX6_ways_21 ?_
    refine fx_iinc (pc := 22) (ls' := [some (8, this_0), some (1, (fx_wl (v_10 * v16))), none, some (0, (fx_w (p_11 + 1)))]) F (by decide) rfl rfl rfl dX6_ways_22 ?_
    refine fx_goto (pc := 25) F 4 (by decide) dX6_ways_25 ?_
    cases eq12
    exact ih _ rfl
  · have eq12 := (if_neg c15).symm.trans eq12
    cases eq12
    exact ex _ rfl
def s_X6_takeRow_1 (Fu : Nat) (Λ : fx_L) (this_3 : Int) (p_4 : Int) (row_5 : Int) (many_6 : Int) : Int × fx_H → Option ((Int × fx_H) ⊕ (Int × fx_H)) := fun (h_1, h2) =>
  if h_1 < many_6 then
    (fx_rd Λ h2 (fx_tg Λ this_3 9) (fx_w ((fx_w (5 * (fx_w ((fx_w (120 * p_4)) + row_5)))) + h_1))).bind fun v9 =>
    (fx_wr Λ h2 (fx_tg Λ this_3 8) (fx_w ((fx_w (5 * p_4)) + h_1)) v9).bind fun h11 =>
    some (.inl ((fx_w (h_1 + 1)), h11))
  else
    some (.inr (h_1, h2))
def f_X6_takeRow (Fu : Nat) (Λ : fx_L) (this_0 : Int) (p_0 : Int) (row_0 : Int) (many_0 : Int) (h : fx_H) : Option (fx_H) :=
  Option.bind (fx_loop (s_X6_takeRow_1 Fu Λ this_0 p_0 row_0 many_0) Fu (0, h)) fun (h_21, h22) =>
  some h22
abbrev rm_X6_takeRow : Room := { frames := 0, cells := 0, slots := 0, locals := 0 }
set_option maxRecDepth 100000 in
set_option maxHeartbeats 4000000 in
theorem m_X6_takeRow (Fu : Nat) (Λ : fx_L) (this_0 : Int) (p_0 : Int) (row_0 : Int) (many_0 : Int) (h : fx_H) (ho : fx_H) (hf : f_X6_takeRow Fu Λ this_0 p_0 row_0 many_0 h = some ho) : fx_Met yX6_takeRow cX6_takeRow 5 none rm_X6_takeRow Λ [(8, this_0), (0, p_0), (0, row_0), (0, many_0)] h none ho := by
  unfold f_X6_takeRow at hf
  refine fx_enter (ls := [some (8, this_0), some (0, p_0), some (0, row_0), some (0, many_0), none]) (by decide) (Nat.le_of_ble_eq_true rfl) rfl (fun M G F K => ?_)
  refine fx_iconst (pc := 0) F ⟨by decide, by decide⟩ dX6_takeRow_0 ?_
  refine fx_istore (pc := 1) (ls' := [some (8, this_0), some (0, p_0), some (0, row_0), some (0, many_0), some (0, 0)]) F (by decide) rfl rfl dX6_takeRow_1 ?_
  obtain ⟨⟨h_21, h22⟩, e23, hf⟩ := fx_bnd hf
  have hE24 : fx_J M G Λ 5 42 [some (8, this_0), some (0, p_0), some (0, row_0), some (0, many_0), some (0, h_21)] [] h22 := by
    cases hf
    exact fx_vreturn (pc := 42) F K dX6_takeRow_42
  refine fx_loop_J (Hd := (fun z : Int × fx_H => fx_J M G Λ 5 3 [some (8, this_0), some (0, p_0), some (0, row_0), some (0, many_0), some (0, z.1)] [] z.2)) (Ex := (fun z : Int × fx_H => fx_J M G Λ 5 42 [some (8, this_0), some (0, p_0), some (0, row_0), some (0, many_0), some (0, z.1)] [] z.2)) ?_ Fu _ _ e23 hE24
  rintro ⟨h_13, h14⟩ o9 eq15 ih ex
  unfold s_X6_takeRow_1 at eq15
  show fx_J M G Λ 5 3 [some (8, this_0), some (0, p_0), some (0, row_0), some (0, many_0), some (0, h_13)] [] h14
  refine fx_iload (pc := 3) F rfl dX6_takeRow_3 ?_
  refine fx_iload_n (pc := 5) F 3 rfl rfl dX6_takeRow_5 ?_
  refine fx_nlt (pc := 6) F 42 (by decide) dX6_takeRow_6 (fun c16 => ?_) (fun c16 => ?_)
  · have eq15 := (if_pos c16).symm.trans eq15
    refine fx_aload_n (pc := 9) (t := 6) F 0 rfl rfl dX6_takeRow_9 ?_
    refine fx_gR (pc := 10) F 6 8 8 8 rfl kC_X6 (by decide) rfl wF_X6_33 dX6_takeRow_10 ?_
    refine fx_iconst (pc := 13) F ⟨by decide, by decide⟩ dX6_takeRow_13 ?_
    refine fx_iload_n (pc := 14) F 1 rfl rfl dX6_takeRow_14 ?_
    refine fx_imul (pc := 15) F dX6_takeRow_15 ?_
    refine fx_iload (pc := 16) F rfl dX6_takeRow_16 ?_
    refine fx_iadd (pc := 18) F dX6_takeRow_18 ?_
    refine fx_aload_n (pc := 19) (t := 6) F 0 rfl rfl dX6_takeRow_19 ?_
    refine fx_gR (pc := 20) F 6 9 9 8 rfl kC_X6 (by decide) rfl wF_X6_36 dX6_takeRow_20 ?_
    refine fx_iconst (pc := 23) F ⟨by decide, by decide⟩ dX6_takeRow_23 ?_
    refine fx_bipush (pc := 24) F ⟨by decide, by decide⟩ (by decide) dX6_takeRow_24 ?_
    refine fx_iload_n (pc := 26) F 1 rfl rfl dX6_takeRow_26 ?_
    refine fx_imul (pc := 27) F dX6_takeRow_27 ?_
    refine fx_iload_n (pc := 28) F 2 rfl rfl dX6_takeRow_28 ?_
    refine fx_iadd (pc := 29) F dX6_takeRow_29 ?_
    refine fx_imul (pc := 30) F dX6_takeRow_30 ?_
    refine fx_iload (pc := 31) F rfl dX6_takeRow_31 ?_
    refine fx_iadd (pc := 33) F dX6_takeRow_33 ?_
    obtain ⟨v17, e18, eq15⟩ := fx_bnd eq15
    refine fx_raldI (pc := 34) F e18 dX6_takeRow_34 ?_
    obtain ⟨h19, e20, eq15⟩ := fx_bnd eq15
    refine fx_rastI (pc := 35) F e20 dX6_takeRow_35 ?_
    refine fx_iinc (pc := 36) (ls' := [some (8, this_0), some (0, p_0), some (0, row_0), some (0, many_0), some (0, (fx_w (h_13 + 1)))]) F (by decide) rfl rfl rfl dX6_takeRow_36 ?_
    refine fx_goto (pc := 39) F 3 (by decide) dX6_takeRow_39 ?_
    cases eq15
    exact ih _ rfl
  · have eq15 := (if_neg c16).symm.trans eq15
    cases eq15
    exact ex _ rfl
def s_X6_findLeast_2 (Fu : Nat) (Λ : fx_L) (this_18 : Int) (many_19 : Int) : Int × Int × fx_H → Option ((Int × Int × fx_H) ⊕ (Int × Int × fx_H)) := fun (left0_15, p_16, h17) =>
  if 0 ≤ p_16 then
    (fx_rd Λ h17 (fx_tg Λ this_18 10) p_16).bind fun v22 =>
    (fx_rml left0_15 v22).bind fun v24 =>
    (f_X6_takeRow Fu Λ this_18 p_16 (fx_w v24) many_19 h17).bind fun h26 =>
    (fx_rd Λ h26 (fx_tg Λ this_18 10) p_16).bind fun v28 =>
    (fx_dvl left0_15 v28).bind fun v30 =>
    some (.inl (v30, (fx_w (p_16 + (-1))), h26))
  else
    some (.inr (left0_15, p_16, h17))
def s_X6_findLeast_3 (Fu : Nat) (Λ : fx_L) (this_57 : Int) : Int × fx_H → Option ((Int × fx_H) ⊕ (Int × fx_H)) := fun (k_55, h56) =>
  if k_55 < 25 then
    (fx_rd Λ h56 (fx_tg Λ this_57 8) k_55).bind fun v60 =>
    (fx_wr Λ h56 (fx_tg Λ this_57 13) k_55 v60).bind fun h62 =>
    some (.inl ((fx_w (k_55 + 1)), h62))
  else
    some (.inr (k_55, h56))
def s_X6_findLeast_1 (Fu : Nat) (Λ : fx_L) (this_8 : Int) (many_9 : Int) (ways_10 : Int) : Int × Int × fx_H → Option ((Int × Int × fx_H) ⊕ (Int × Int × fx_H)) := fun (least_5, way_6, h7) =>
  if way_6 < ways_10 then
    (f_X6_people Fu Λ this_8 h7).bind fun v13 =>
    Option.bind (fx_loop (s_X6_findLeast_2 Fu Λ this_8 many_9) Fu (way_6, (fx_w (v13 - 1)), h7)) fun (left0_47, p_48, h49) =>
    (f_X6_allIn Fu Λ this_8 many_9 h49).bind fun v52 =>
    if v52 < least_5 then
      Option.bind (fx_loop (s_X6_findLeast_3 Fu Λ this_8) Fu (0, h49)) fun (k_72, h73) =>
      some (.inl (v52, (fx_wl (way_6 + 1)), h73))
    else
      some (.inl (least_5, (fx_wl (way_6 + 1)), h49))
  else
    some (.inr (least_5, way_6, h7))
def f_X6_findLeast (Fu : Nat) (Λ : fx_L) (this_0 : Int) (many_0 : Int) (h : fx_H) : Option (Int × fx_H) :=
  (f_X6_takeNothing Fu Λ this_0 h).bind fun h1 =>
  (f_X6_ways Fu Λ this_0 h1).bind fun v3 =>
  Option.bind (fx_loop (s_X6_findLeast_1 Fu Λ this_0 many_0 v3) Fu (1000000, 0, h1)) fun (least_144, way_145, h146) =>
  some (least_144, h146)
abbrev rm_X6_findLeast : Room := { frames := 5, cells := 0, slots := 0, locals := 124 }
set_option maxRecDepth 100000 in
set_option maxHeartbeats 4000000 in
theorem m_X6_findLeast (Fu : Nat) (Λ : fx_L) (this_0 : Int) (many_0 : Int) (h : fx_H) (r : Int) (ho : fx_H) (hf : f_X6_findLeast Fu Λ this_0 many_0 h = some (r, ho)) : fx_Met yX6_findLeast cX6_findLeast 11 (some .int) rm_X6_findLeast Λ [(8, this_0), (0, many_0)] h (some (0, r)) ho := by
  unfold f_X6_findLeast at hf
  refine fx_enter (ls := [some (8, this_0), some (0, many_0), none, none, none, none, none, none, none, none, none]) (by decide) (Nat.le_of_ble_eq_true rfl) rfl (fun M G F K => ?_)
  refine fx_aload_n (pc := 0) (t := 6) F 0 rfl rfl dX6_findLeast_0 ?_
  obtain ⟨h1, e2, hf⟩ := fx_bnd hf
  refine fx_cVv (pc := 1) F 6 kC_X6 [] this_0 [] (m_X6_takeNothing Fu Λ this_0 h _ e2) kD_X6_takeNothing kI_X6_takeNothing rfl wM_X6_155 ⟨rfl, rfl⟩ ⟨by decide, by decide⟩ (Nat.le_of_ble_eq_true rfl) rfl dX6_findLeast_1 ?_
  refine fx_ldc (pc := 4) (z := 1000000) F (by decide) ⟨by decide, by decide⟩ wK_X6_158 dX6_findLeast_4 ?_
  refine fx_istore_n (pc := 6) (ls' := [some (8, this_0), some (0, many_0), some (0, 1000000), none, none, none, none, none, none, none, none]) F 2 rfl (by decide) rfl rfl dX6_findLeast_6 ?_
  refine fx_aload_n (pc := 7) (t := 6) F 0 rfl rfl dX6_findLeast_7 ?_
  obtain ⟨v3, e4, hf⟩ := fx_bnd hf
  refine fx_cV (pc := 8) F 6 kC_X6 [] this_0 [] (m_X6_ways Fu Λ this_0 h1 _ e4) kD_X6_ways kI_X6_ways rfl wM_X6_159 ⟨rfl, rfl⟩ ⟨by decide, by decide⟩ (Nat.le_of_ble_eq_true rfl) rfl dX6_findLeast_8 ?_
  refine fx_lstore_n (pc := 11) (ls' := [some (8, this_0), some (0, many_0), some (0, 1000000), some (1, v3), none, none, none, none, none, none, none]) F 3 rfl (by decide) rfl rfl dX6_findLeast_11 ?_
  refine fx_lconst (pc := 12) (z := 0) F rfl ⟨by decide, by decide⟩ (by decide) dX6_findLeast_12 ?_
  refine fx_lstore (pc := 13) (ls' := [some (8, this_0), some (0, many_0), some (0, 1000000), some (1, v3), none, some (1, 0), none, none, none, none, none]) F (by decide) rfl rfl dX6_findLeast_13 ?_
  obtain ⟨⟨least_144, way_145, h146⟩, e147, hf⟩ := fx_bnd hf
  have hE148 : fx_J M G Λ 11 132 [some (8, this_0), some (0, many_0), some (0, least_144), some (1, v3), none, some (1, way_145), none, none, none, none, none] [] h146 := by
    refine fx_iload_n (pc := 132) F 2 rfl rfl dX6_findLeast_132 ?_
    cases hf
    exact fx_ireturn (pc := 133) F K dX6_findLeast_133
  refine fx_loop_J (Hd := (fun z : Int × Int × fx_H => fx_J M G Λ 11 15 [some (8, this_0), some (0, many_0), some (0, z.1), some (1, v3), none, some (1, z.2.1), none, none, none, none, none] [] z.2.2)) (Ex := (fun z : Int × Int × fx_H => fx_J M G Λ 11 132 [some (8, this_0), some (0, many_0), some (0, z.1), some (1, v3), none, some (1, z.2.1), none, none, none, none, none] [] z.2.2)) ?_ Fu _ _ e147 hE148
  rintro ⟨least_76, way_77, h78⟩ o9 eq79 ih ex
  unfold s_X6_findLeast_1 at eq79
  show fx_J M G Λ 11 15 [some (8, this_0), some (0, many_0), some (0, least_76), some (1, v3), none, some (1, way_77), none, none, none, none, none] [] h78
  refine fx_lload (pc := 15) F rfl dX6_findLeast_15 ?_
  refine fx_lload_n (pc := 17) F 3 rfl rfl dX6_findLeast_17 ?_
  refine fx_nllt (pc := 18) F 132 (by decide) dX6_findLeast_18 dX6_findLeast_19 (fun c80 => ?_) (fun c80 => ?_)
  · have eq79 := (if_pos c80).symm.trans eq79
    refine fx_lload (pc := 22) F rfl dX6_findLeast_22 ?_
    refine fx_lstore (pc := 24) (ls' := [some (8, this_0), some (0, many_0), some (0, least_76), some (1, v3), none, some (1, way_77), none, some (1, way_77), none, none, none]) F (by decide) rfl rfl dX6_findLeast_24 ?_
    refine fx_aload_n (pc := 26) (t := 6) F 0 rfl rfl dX6_findLeast_26 ?_
    obtain ⟨v81, e82, eq79⟩ := fx_bnd eq79
    refine fx_cV (pc := 27) F 6 kC_X6 [] this_0 [] (m_X6_people Fu Λ this_0 h78 _ e82) kD_X6_people kI_X6_people rfl wM_X6_78 ⟨rfl, rfl⟩ ⟨by decide, by decide⟩ (Nat.le_of_ble_eq_true rfl) rfl dX6_findLeast_27 ?_
    refine fx_iconst (pc := 30) F ⟨by decide, by decide⟩ dX6_findLeast_30 ?_
    refine fx_isub (pc := 31) F dX6_findLeast_31 ?_
    refine fx_istore (pc := 32) (ls' := [some (8, this_0), some (0, many_0), some (0, least_76), some (1, v3), none, some (1, way_77), none, some (1, way_77), none, some (0, (fx_w (v81 - 1))), none]) F (by decide) rfl rfl dX6_findLeast_32 ?_
    obtain ⟨⟨left0_115, p_116, h117⟩, e118, eq79⟩ := fx_bnd eq79
    have hE119 : fx_J M G Λ 11 77 [some (8, this_0), some (0, many_0), some (0, least_76), some (1, v3), none, some (1, way_77), none, some (1, left0_115), none, some (0, p_116), none] [] h117 := by
      refine fx_aload_n (pc := 77) (t := 6) F 0 rfl rfl dX6_findLeast_77 ?_
      refine fx_iload_n (pc := 78) F 1 rfl rfl dX6_findLeast_78 ?_
      obtain ⟨v120, e121, eq79⟩ := fx_bnd eq79
      refine fx_cV (pc := 79) F 6 kC_X6 [(0, many_0)] this_0 [] (m_X6_allIn Fu Λ this_0 many_0 h117 _ e121) kD_X6_allIn kI_X6_allIn rfl wM_X6_143 ⟨rfl, rfl⟩ ⟨by decide, by decide⟩ (Nat.le_of_ble_eq_true rfl) rfl dX6_findLeast_79 ?_
      refine fx_istore (pc := 82) (ls' := [some (8, this_0), some (0, many_0), some (0, least_76), some (1, v3), none, some (1, way_77), none, some (1, left0_115), none, some (0, v120), none]) F (by decide) rfl rfl dX6_findLeast_82 ?_
      refine fx_iload (pc := 84) F rfl dX6_findLeast_84 ?_
      refine fx_iload_n (pc := 86) F 2 rfl rfl dX6_findLeast_86 ?_
      refine fx_nlt (pc := 87) F 123 (by decide) dX6_findLeast_87 (fun c122 => ?_) (fun c122 => ?_)
      · have eq79 := (if_pos c122).symm.trans eq79
        refine fx_iload (pc := 90) F rfl dX6_findLeast_90 ?_
        refine fx_istore_n (pc := 92) (ls' := [some (8, this_0), some (0, many_0), some (0, v120), some (1, v3), none, some (1, way_77), none, some (1, left0_115), none, some (0, v120), none]) F 2 rfl (by decide) rfl rfl dX6_findLeast_92 ?_
        refine fx_iconst (pc := 93) F ⟨by decide, by decide⟩ dX6_findLeast_93 ?_
        refine fx_istore (pc := 94) (ls' := [some (8, this_0), some (0, many_0), some (0, v120), some (1, v3), none, some (1, way_77), none, some (1, left0_115), none, some (0, v120), some (0, 0)]) F (by decide) rfl rfl dX6_findLeast_94 ?_
        obtain ⟨⟨k_140, h141⟩, e142, eq79⟩ := fx_bnd eq79
        have hE143 : fx_J M G Λ 11 123 [some (8, this_0), some (0, many_0), some (0, v120), some (1, v3), none, some (1, way_77), none, some (1, left0_115), none, some (0, v120), some (0, k_140)] [] h141 := by
          refine fx_lload (pc := 123) F rfl dX6_findLeast_123 ?_
          refine fx_lconst (pc := 125) (z := 1) F rfl ⟨by decide, by decide⟩ (by decide) dX6_findLeast_125 ?_
          refine fx_ladd (pc := 126) F dX6_findLeast_126 ?_
          refine fx_lstore (pc := 127) (ls' := [some (8, this_0), some (0, many_0), some (0, v120), some (1, v3), none, some (1, (fx_wl (way_77 + 1))), none, some (1, left0_115), none, some (0, v120), some (0, k_140)]) F (by decide) rfl rfl dX6_findLeast_127 ?_
          refine fx_goto (pc := 129) F 15 (by decide) dX6_findLeast_129 ?_
          cases eq79
          refine fx_drop (ls' := [some (8, this_0), some (0, many_0), some (0, v120), some (1, v3), none, some (1, (fx_wl (way_77 + 1))), none, none, none, none, none]) ⟨rfl, rfl, rfl, rfl, rfl, trivial⟩ ?_
          exact ih _ rfl
        refine fx_loop_J (Hd := (fun z : Int × fx_H => fx_J M G Λ 11 96 [some (8, this_0), some (0, many_0), some (0, v120), some (1, v3), none, some (1, way_77), none, some (1, left0_115), none, some (0, v120), some (0, z.1)] [] z.2)) (Ex := (fun z : Int × fx_H => fx_J M G Λ 11 123 [some (8, this_0), some (0, many_0), some (0, v120), some (1, v3), none, some (1, way_77), none, some (1, left0_115), none, some (0, v120), some (0, z.1)] [] z.2)) ?_ Fu _ _ e142 hE143
        rintro ⟨k_132, h133⟩ o9 eq134 ih ex
        unfold s_X6_findLeast_3 at eq134
        show fx_J M G Λ 11 96 [some (8, this_0), some (0, many_0), some (0, v120), some (1, v3), none, some (1, way_77), none, some (1, left0_115), none, some (0, v120), some (0, k_132)] [] h133
        refine fx_iload (pc := 96) F rfl dX6_findLeast_96 ?_
        refine fx_bipush (pc := 98) F ⟨by decide, by decide⟩ (by decide) dX6_findLeast_98 ?_
        refine fx_nlt (pc := 100) F 123 (by decide) dX6_findLeast_100 (fun c135 => ?_) (fun c135 => ?_)
        · have eq134 := (if_pos c135).symm.trans eq134
          refine fx_aload_n (pc := 103) (t := 6) F 0 rfl rfl dX6_findLeast_103 ?_
          refine fx_gR (pc := 104) F 6 13 13 8 rfl kC_X6 (by decide) rfl wF_X6_48 dX6_findLeast_104 ?_
          refine fx_iload (pc := 107) F rfl dX6_findLeast_107 ?_
          refine fx_aload_n (pc := 109) (t := 6) F 0 rfl rfl dX6_findLeast_109 ?_
          refine fx_gR (pc := 110) F 6 8 8 8 rfl kC_X6 (by decide) rfl wF_X6_33 dX6_findLeast_110 ?_
          refine fx_iload (pc := 113) F rfl dX6_findLeast_113 ?_
          obtain ⟨v136, e137, eq134⟩ := fx_bnd eq134
          refine fx_raldI (pc := 115) F e137 dX6_findLeast_115 ?_
          obtain ⟨h138, e139, eq134⟩ := fx_bnd eq134
          refine fx_rastI (pc := 116) F e139 dX6_findLeast_116 ?_
          refine fx_iinc (pc := 117) (ls' := [some (8, this_0), some (0, many_0), some (0, v120), some (1, v3), none, some (1, way_77), none, some (1, left0_115), none, some (0, v120), some (0, (fx_w (k_132 + 1)))]) F (by decide) rfl rfl rfl dX6_findLeast_117 ?_
          refine fx_goto (pc := 120) F 96 (by decide) dX6_findLeast_120 ?_
          cases eq134
          exact ih _ rfl
        · have eq134 := (if_neg c135).symm.trans eq134
          cases eq134
          exact ex _ rfl
      · have eq79 := (if_neg c122).symm.trans eq79
        refine fx_lload (pc := 123) F rfl dX6_findLeast_123 ?_
        refine fx_lconst (pc := 125) (z := 1) F rfl ⟨by decide, by decide⟩ (by decide) dX6_findLeast_125 ?_
        refine fx_ladd (pc := 126) F dX6_findLeast_126 ?_
        refine fx_lstore (pc := 127) (ls' := [some (8, this_0), some (0, many_0), some (0, least_76), some (1, v3), none, some (1, (fx_wl (way_77 + 1))), none, some (1, left0_115), none, some (0, v120), none]) F (by decide) rfl rfl dX6_findLeast_127 ?_
        refine fx_goto (pc := 129) F 15 (by decide) dX6_findLeast_129 ?_
        cases eq79
        refine fx_drop (ls' := [some (8, this_0), some (0, many_0), some (0, least_76), some (1, v3), none, some (1, (fx_wl (way_77 + 1))), none, none, none, none, none]) ⟨rfl, rfl, rfl, rfl, rfl, trivial⟩ ?_
        exact ih _ rfl
    refine fx_loop_J (Hd := (fun z : Int × Int × fx_H => fx_J M G Λ 11 34 [some (8, this_0), some (0, many_0), some (0, least_76), some (1, v3), none, some (1, way_77), none, some (1, z.1), none, some (0, z.2.1), none] [] z.2.2)) (Ex := (fun z : Int × Int × fx_H => fx_J M G Λ 11 77 [some (8, this_0), some (0, many_0), some (0, least_76), some (1, v3), none, some (1, way_77), none, some (1, z.1), none, some (0, z.2.1), none] [] z.2.2)) ?_ Fu _ _ e118 hE119
    rintro ⟨left0_100, p_101, h102⟩ o9 eq103 ih ex
    unfold s_X6_findLeast_2 at eq103
    show fx_J M G Λ 11 34 [some (8, this_0), some (0, many_0), some (0, least_76), some (1, v3), none, some (1, way_77), none, some (1, left0_100), none, some (0, p_101), none] [] h102
    refine fx_iload (pc := 34) F rfl dX6_findLeast_34 ?_
    refine fx_nzge (pc := 36) F 77 (by decide) dX6_findLeast_36 (fun c104 => ?_) (fun c104 => ?_)
    · have eq103 := (if_pos c104).symm.trans eq103
      refine fx_aload_n (pc := 39) (t := 6) F 0 rfl rfl dX6_findLeast_39 ?_
      refine fx_iload (pc := 40) F rfl dX6_findLeast_40 ?_
      refine fx_lload (pc := 42) F rfl dX6_findLeast_42 ?_
      refine fx_aload_n (pc := 44) (t := 6) F 0 rfl rfl dX6_findLeast_44 ?_
      refine fx_gR (pc := 45) F 6 10 10 8 rfl kC_X6 (by decide) rfl wF_X6_39 dX6_findLeast_45 ?_
      refine fx_iload (pc := 48) F rfl dX6_findLeast_48 ?_
      obtain ⟨v105, e106, eq103⟩ := fx_bnd eq103
      refine fx_raldI (pc := 50) F e106 dX6_findLeast_50 ?_
      refine fx_ri2l (pc := 51) F dX6_findLeast_51 ?_
      obtain ⟨v107, e108, eq103⟩ := fx_bnd eq103
      refine fx_rlrem (pc := 52) F e108 dX6_findLeast_52 ?_
      refine fx_rl2i (pc := 53) F dX6_findLeast_53 ?_
      refine fx_iload_n (pc := 54) F 1 rfl rfl dX6_findLeast_54 ?_
      obtain ⟨h109, e110, eq103⟩ := fx_bnd eq103
      refine fx_cVv (pc := 55) F 6 kC_X6 [(0, p_101), (0, (fx_w v107)), (0, many_0)] this_0 [] (m_X6_takeRow Fu Λ this_0 p_101 (fx_w v107) many_0 h102 _ e110) kD_X6_takeRow kI_X6_takeRow rfl wM_X6_163 ⟨rfl, rfl⟩ ⟨by decide, by decide⟩ (Nat.le_of_ble_eq_true rfl) rfl dX6_findLeast_55 ?_
      refine fx_lload (pc := 58) F rfl dX6_findLeast_58 ?_
      refine fx_aload_n (pc := 60) (t := 6) F 0 rfl rfl dX6_findLeast_60 ?_
      refine fx_gR (pc := 61) F 6 10 10 8 rfl kC_X6 (by decide) rfl wF_X6_39 dX6_findLeast_61 ?_
      refine fx_iload (pc := 64) F rfl dX6_findLeast_64 ?_
      obtain ⟨v111, e112, eq103⟩ := fx_bnd eq103
      refine fx_raldI (pc := 66) F e112 dX6_findLeast_66 ?_
      refine fx_ri2l (pc := 67) F dX6_findLeast_67 ?_
      obtain ⟨v113, e114, eq103⟩ := fx_bnd eq103
      refine fx_rldiv (pc := 68) F e114 dX6_findLeast_68 ?_
      refine fx_lstore (pc := 69) (ls' := [some (8, this_0), some (0, many_0), some (0, least_76), some (1, v3), none, some (1, way_77), none, some (1, v113), none, some (0, p_101), none]) F (by decide) rfl rfl dX6_findLeast_69 ?_
      refine fx_iinc (pc := 71) (ls' := [some (8, this_0), some (0, many_0), some (0, least_76), some (1, v3), none, some (1, way_77), none, some (1, v113), none, some (0, (fx_w (p_101 + (-1)))), none]) F (by decide) rfl rfl rfl dX6_findLeast_71 ?_
      refine fx_goto (pc := 74) F 34 (by decide) dX6_findLeast_74 ?_
      cases eq103
      exact ih _ rfl
    · have eq103 := (if_neg c104).symm.trans eq103
      cases eq103
      exact ex _ rfl
  · have eq79 := (if_neg c80).symm.trans eq79
    cases eq79
    exact ex _ rfl
def f_X6_least (Fu : Nat) (Λ : fx_L) (this_0 : Int) (person_0 : Int) (hour_0 : Int) (h : fx_H) : Option (Int × fx_H) :=
  Option.bind (
    if person_0 = (-1) then
      Option.bind (
        if hour_0 = 0 then
          some (1 : Int)
        else
          some (0 : Int)
      ) fun v5 =>
      some v5
    else
      Option.bind (
        Option.bind (
          (f_X6_isOne Fu Λ this_0 person_0 h).bind fun v16 =>
          if ¬ v16 = 0 then
            (f_X6_isHour Fu Λ this_0 hour_0 h).bind fun v19 =>
            if ¬ v19 = 0 then
              some true
            else
              some false
          else
            some false
        ) fun b12 =>
        if b12 = true then
          some (1 : Int)
        else
          some (0 : Int)
      ) fun v9 =>
      some v9
  ) fun v1 =>
  if v1 = 0 then
    (f_X6_bad Fu Λ this_0 (-2) h).bind fun (v24, h25) =>
    some (v24, h25)
  else
    (f_X6_layNow Fu Λ this_0 h).bind fun h27 =>
    (f_X6_hours Fu Λ this_0 h27).bind fun v29 =>
    (f_X6_findAllRows Fu Λ this_0 v29 h27).bind fun h31 =>
    (f_X6_ways Fu Λ this_0 h31).bind fun v33 =>
    if 50000 < v33 then
      (f_X6_no Fu Λ this_0 h31).bind fun (v36, h37) =>
      some (v36, h37)
    else
      (f_X6_hours Fu Λ this_0 h31).bind fun v39 =>
      (f_X6_findLeast Fu Λ this_0 v39 h31).bind fun (v41, h42) =>
      Option.bind (
        if person_0 = (-1) then
          some (-1 : Int)
        else
          (fx_rd Λ h42 (fx_tg Λ this_0 13) (fx_w ((fx_w (5 * person_0)) + hour_0))).bind fun v48 =>
          some v48
      ) fun v44 =>
      Option.bind (
        if person_0 = (-1) then
          some v41
        else
          Option.bind (
            if v44 = (-1) then
              some (9 : Int)
            else
              some v44
          ) fun v54 =>
          some v54
      ) fun v50 =>
      some (v50, h42)
abbrev rm_X6_least : Room := { frames := 6, cells := 0, slots := 0, locals := 154 }
set_option maxRecDepth 100000 in
set_option maxHeartbeats 4000000 in
theorem m_X6_least (Fu : Nat) (Λ : fx_L) (this_0 : Int) (person_0 : Int) (hour_0 : Int) (h : fx_H) (r : Int) (ho : fx_H) (hf : f_X6_least Fu Λ this_0 person_0 hour_0 h = some (r, ho)) : fx_Met yX6_least cX6_least 6 (some .int) rm_X6_least Λ [(8, this_0), (0, person_0), (0, hour_0)] h (some (0, r)) ho := by
  unfold f_X6_least at hf
  refine fx_enter (ls := [some (8, this_0), some (0, person_0), some (0, hour_0), none, none, none]) (by decide) (Nat.le_of_ble_eq_true rfl) rfl (fun M G F K => ?_)
  obtain ⟨v1, e2, hf⟩ := fx_bnd hf
  have hJ3 : fx_J M G Λ 6 38 [some (8, this_0), some (0, person_0), some (0, hour_0), none, none, none] [(0, v1)] h := by
    refine fx_istore_n (pc := 38) (ls' := [some (8, this_0), some (0, person_0), some (0, hour_0), some (0, v1), none, none]) F 3 rfl (by decide) rfl rfl dX6_least_38 ?_
    refine fx_iload_n (pc := 39) F 3 rfl rfl dX6_least_39 ?_
    refine fx_nzeq (pc := 40) F 50 (by decide) dX6_least_40 (fun c23 => ?_) (fun c23 => ?_)
    · have hf := (if_pos c23).symm.trans hf
      refine fx_aload_n (pc := 43) (t := 6) F 0 rfl rfl dX6_least_43 ?_
      refine fx_bipush (pc := 44) F ⟨by decide, by decide⟩ (by decide) dX6_least_44 ?_
      obtain ⟨⟨v24, h25⟩, e26, hf⟩ := fx_bnd hf
      refine fx_cV (pc := 46) F 6 kC_X6 [(0, (-2))] this_0 [] (m_X6_bad Fu Λ this_0 (-2) h _ _ e26) kD_X6_bad kI_X6_bad rfl wM_X6_88 ⟨rfl, rfl⟩ ⟨by decide, by decide⟩ (Nat.le_of_ble_eq_true rfl) rfl dX6_least_46 ?_
      cases hf
      exact fx_ireturn (pc := 49) F K dX6_least_49
    · have hf := (if_neg c23).symm.trans hf
      refine fx_aload_n (pc := 50) (t := 6) F 0 rfl rfl dX6_least_50 ?_
      obtain ⟨h27, e28, hf⟩ := fx_bnd hf
      refine fx_cVv (pc := 51) F 6 kC_X6 [] this_0 [] (m_X6_layNow Fu Λ this_0 h _ e28) kD_X6_layNow kI_X6_layNow rfl wM_X6_119 ⟨rfl, rfl⟩ ⟨by decide, by decide⟩ (Nat.le_of_ble_eq_true rfl) rfl dX6_least_51 ?_
      refine fx_aload_n (pc := 54) (t := 6) F 0 rfl rfl dX6_least_54 ?_
      refine fx_aload_n (pc := 55) (t := 6) F 0 rfl rfl dX6_least_55 ?_
      obtain ⟨v29, e30, hf⟩ := fx_bnd hf
      refine fx_cV (pc := 56) F 6 kC_X6 [] this_0 [(8, this_0)] (m_X6_hours Fu Λ this_0 h27 _ e30) kD_X6_hours kI_X6_hours rfl wM_X6_81 ⟨rfl, rfl⟩ ⟨by decide, by decide⟩ (Nat.le_of_ble_eq_true rfl) rfl dX6_least_56 ?_
      obtain ⟨h31, e32, hf⟩ := fx_bnd hf
      refine fx_cVv (pc := 59) F 6 kC_X6 [(0, v29)] this_0 [] (m_X6_findAllRows Fu Λ this_0 v29 h27 _ e32) kD_X6_findAllRows kI_X6_findAllRows rfl wM_X6_167 ⟨rfl, rfl⟩ ⟨by decide, by decide⟩ (Nat.le_of_ble_eq_true rfl) rfl dX6_least_59 ?_
      refine fx_aload_n (pc := 62) (t := 6) F 0 rfl rfl dX6_least_62 ?_
      obtain ⟨v33, e34, hf⟩ := fx_bnd hf
      refine fx_cV (pc := 63) F 6 kC_X6 [] this_0 [] (m_X6_ways Fu Λ this_0 h31 _ e34) kD_X6_ways kI_X6_ways rfl wM_X6_159 ⟨rfl, rfl⟩ ⟨by decide, by decide⟩ (Nat.le_of_ble_eq_true rfl) rfl dX6_least_63 ?_
      refine fx_ldc2 (pc := 66) (z := 50000) F (by decide) ⟨by decide, by decide⟩ wK_X6_171 dX6_least_66 ?_
      refine fx_nlgt (pc := 69) F 78 (by decide) dX6_least_69 dX6_least_70 (fun c35 => ?_) (fun c35 => ?_)
      · have hf := (if_pos c35).symm.trans hf
        refine fx_aload_n (pc := 73) (t := 6) F 0 rfl rfl dX6_least_73 ?_
        obtain ⟨⟨v36, h37⟩, e38, hf⟩ := fx_bnd hf
        refine fx_cV (pc := 74) F 6 kC_X6 [] this_0 [] (m_X6_no Fu Λ this_0 h31 _ _ e38) kD_X6_no kI_X6_no rfl wM_X6_105 ⟨rfl, rfl⟩ ⟨by decide, by decide⟩ (Nat.le_of_ble_eq_true rfl) rfl dX6_least_74 ?_
        cases hf
        exact fx_ireturn (pc := 77) F K dX6_least_77
      · have hf := (if_neg c35).symm.trans hf
        refine fx_aload_n (pc := 78) (t := 6) F 0 rfl rfl dX6_least_78 ?_
        refine fx_aload_n (pc := 79) (t := 6) F 0 rfl rfl dX6_least_79 ?_
        obtain ⟨v39, e40, hf⟩ := fx_bnd hf
        refine fx_cV (pc := 80) F 6 kC_X6 [] this_0 [(8, this_0)] (m_X6_hours Fu Λ this_0 h31 _ e40) kD_X6_hours kI_X6_hours rfl wM_X6_81 ⟨rfl, rfl⟩ ⟨by decide, by decide⟩ (Nat.le_of_ble_eq_true rfl) rfl dX6_least_80 ?_
        obtain ⟨⟨v41, h42⟩, e43, hf⟩ := fx_bnd hf
        refine fx_cV (pc := 83) F 6 kC_X6 [(0, v39)] this_0 [] (m_X6_findLeast Fu Λ this_0 v39 h31 _ _ e43) kD_X6_findLeast kI_X6_findLeast rfl wM_X6_173 ⟨rfl, rfl⟩ ⟨by decide, by decide⟩ (Nat.le_of_ble_eq_true rfl) rfl dX6_least_83 ?_
        refine fx_istore (pc := 86) (ls' := [some (8, this_0), some (0, person_0), some (0, hour_0), some (0, v1), some (0, v41), none]) F (by decide) rfl rfl dX6_least_86 ?_
        obtain ⟨v44, e45, hf⟩ := fx_bnd hf
        have hJ46 : fx_J M G Λ 6 107 [some (8, this_0), some (0, person_0), some (0, hour_0), some (0, v1), some (0, v41), none] [(0, v44)] h42 := by
          refine fx_istore (pc := 107) (ls' := [some (8, this_0), some (0, person_0), some (0, hour_0), some (0, v1), some (0, v41), some (0, v44)]) F (by decide) rfl rfl dX6_least_107 ?_
          obtain ⟨v50, e51, hf⟩ := fx_bnd hf
          have hJ52 : fx_J M G Λ 6 132 [some (8, this_0), some (0, person_0), some (0, hour_0), some (0, v1), some (0, v41), some (0, v44)] [(0, v50)] h42 := by
            cases hf
            exact fx_ireturn (pc := 132) F K dX6_least_132
          refine fx_iload_n (pc := 109) F 1 rfl rfl dX6_least_109 ?_
          refine fx_iconst (pc := 110) F ⟨by decide, by decide⟩ dX6_least_110 ?_
          refine fx_neq (pc := 111) F 119 (by decide) dX6_least_111 (fun c53 => ?_) (fun c53 => ?_)
          · have e51 := (if_pos c53).symm.trans e51
            refine fx_iload (pc := 114) F rfl dX6_least_114 ?_
            cases e51
            refine fx_goto (pc := 116) F 132 (by decide) dX6_least_116 ?_
            exact hJ52
          · have e51 := (if_neg c53).symm.trans e51
            obtain ⟨v54, e55, e51⟩ := fx_bnd e51
            have hJ56 : fx_J M G Λ 6 132 [some (8, this_0), some (0, person_0), some (0, hour_0), some (0, v1), some (0, v41), some (0, v44)] [(0, v54)] h42 := by
              cases e51
              exact hJ52
            refine fx_iload (pc := 119) F rfl dX6_least_119 ?_
            refine fx_iconst (pc := 121) F ⟨by decide, by decide⟩ dX6_least_121 ?_
            refine fx_neq (pc := 122) F 130 (by decide) dX6_least_122 (fun c57 => ?_) (fun c57 => ?_)
            · have e55 := (if_pos c57).symm.trans e55
              refine fx_bipush (pc := 125) F ⟨by decide, by decide⟩ (by decide) dX6_least_125 ?_
              cases e55
              refine fx_goto (pc := 127) F 132 (by decide) dX6_least_127 ?_
              exact hJ56
            · have e55 := (if_neg c57).symm.trans e55
              refine fx_iload (pc := 130) F rfl dX6_least_130 ?_
              cases e55
              exact hJ56
        refine fx_iload_n (pc := 88) F 1 rfl rfl dX6_least_88 ?_
        refine fx_iconst (pc := 89) F ⟨by decide, by decide⟩ dX6_least_89 ?_
        refine fx_neq (pc := 90) F 97 (by decide) dX6_least_90 (fun c47 => ?_) (fun c47 => ?_)
        · have e45 := (if_pos c47).symm.trans e45
          refine fx_iconst (pc := 93) F ⟨by decide, by decide⟩ dX6_least_93 ?_
          cases e45
          refine fx_goto (pc := 94) F 107 (by decide) dX6_least_94 ?_
          exact hJ46
        · have e45 := (if_neg c47).symm.trans e45
          refine fx_aload_n (pc := 97) (t := 6) F 0 rfl rfl dX6_least_97 ?_
          refine fx_gR (pc := 98) F 6 13 13 8 rfl kC_X6 (by decide) rfl wF_X6_48 dX6_least_98 ?_
          refine fx_iconst (pc := 101) F ⟨by decide, by decide⟩ dX6_least_101 ?_
          refine fx_iload_n (pc := 102) F 1 rfl rfl dX6_least_102 ?_
          refine fx_imul (pc := 103) F dX6_least_103 ?_
          refine fx_iload_n (pc := 104) F 2 rfl rfl dX6_least_104 ?_
          refine fx_iadd (pc := 105) F dX6_least_105 ?_
          obtain ⟨v48, e49, e45⟩ := fx_bnd e45
          refine fx_raldI (pc := 106) F e49 dX6_least_106 ?_
          cases e45
          exact hJ46
  refine fx_iload_n (pc := 0) F 1 rfl rfl dX6_least_0 ?_
  refine fx_iconst (pc := 1) F ⟨by decide, by decide⟩ dX6_least_1 ?_
  refine fx_neq (pc := 2) F 17 (by decide) dX6_least_2 (fun c4 => ?_) (fun c4 => ?_)
  · have e2 := (if_pos c4).symm.trans e2
    obtain ⟨v5, e6, e2⟩ := fx_bnd e2
    have hJ7 : fx_J M G Λ 6 38 [some (8, this_0), some (0, person_0), some (0, hour_0), none, none, none] [(0, v5)] h := by
      cases e2
      exact hJ3
    refine fx_iload_n (pc := 5) F 2 rfl rfl dX6_least_5 ?_
    refine fx_nzeq (pc := 6) F 13 (by decide) dX6_least_6 (fun c8 => ?_) (fun c8 => ?_)
    · have e6 := (if_pos c8).symm.trans e6
      refine fx_iconst (pc := 9) F ⟨by decide, by decide⟩ dX6_least_9 ?_
      cases e6
      refine fx_goto (pc := 10) F 38 (by decide) dX6_least_10 ?_
      exact hJ7
    · have e6 := (if_neg c8).symm.trans e6
      refine fx_iconst (pc := 13) F ⟨by decide, by decide⟩ dX6_least_13 ?_
      cases e6
      refine fx_goto (pc := 14) F 38 (by decide) dX6_least_14 ?_
      exact hJ7
  · have e2 := (if_neg c4).symm.trans e2
    obtain ⟨v9, e10, e2⟩ := fx_bnd e2
    have hJ11 : fx_J M G Λ 6 38 [some (8, this_0), some (0, person_0), some (0, hour_0), none, none, none] [(0, v9)] h := by
      cases e2
      exact hJ3
    obtain ⟨b12, e13, e10⟩ := fx_bnd e10
    have hT14 : b12 = true → fx_J M G Λ 6 33 [some (8, this_0), some (0, person_0), some (0, hour_0), none, none, none] [] h := fun c22 => by
      have e10 := (if_pos c22).symm.trans e10
      refine fx_iconst (pc := 33) F ⟨by decide, by decide⟩ dX6_least_33 ?_
      cases e10
      refine fx_goto (pc := 34) F 38 (by decide) dX6_least_34 ?_
      exact hJ11
    have hF15 : ¬ b12 = true → fx_J M G Λ 6 37 [some (8, this_0), some (0, person_0), some (0, hour_0), none, none, none] [] h := fun c22 => by
      have e10 := (if_neg c22).symm.trans e10
      refine fx_iconst (pc := 37) F ⟨by decide, by decide⟩ dX6_least_37 ?_
      cases e10
      exact hJ11
    refine fx_aload_n (pc := 17) (t := 6) F 0 rfl rfl dX6_least_17 ?_
    refine fx_iload_n (pc := 18) F 1 rfl rfl dX6_least_18 ?_
    obtain ⟨v16, e17, e13⟩ := fx_bnd e13
    refine fx_cV (pc := 19) F 6 kC_X6 [(0, person_0)] this_0 [] (m_X6_isOne Fu Λ this_0 person_0 h _ e17) kD_X6_isOne kI_X6_isOne rfl wM_X6_102 ⟨rfl, rfl⟩ ⟨by decide, by decide⟩ (Nat.le_of_ble_eq_true rfl) rfl dX6_least_19 ?_
    refine fx_nzne (pc := 22) F 37 (by decide) dX6_least_22 (fun c18 => ?_) (fun c18 => ?_)
    · have e13 := (if_pos c18).symm.trans e13
      refine fx_aload_n (pc := 25) (t := 6) F 0 rfl rfl dX6_least_25 ?_
      refine fx_iload_n (pc := 26) F 2 rfl rfl dX6_least_26 ?_
      obtain ⟨v19, e20, e13⟩ := fx_bnd e13
      refine fx_cV (pc := 27) F 6 kC_X6 [(0, hour_0)] this_0 [] (m_X6_isHour Fu Λ this_0 hour_0 h _ e20) kD_X6_isHour kI_X6_isHour rfl wM_X6_97 ⟨rfl, rfl⟩ ⟨by decide, by decide⟩ (Nat.le_of_ble_eq_true rfl) rfl dX6_least_27 ?_
      refine fx_nzne (pc := 30) F 37 (by decide) dX6_least_30 (fun c21 => ?_) (fun c21 => ?_)
      · have e13 := (if_pos c21).symm.trans e13
        cases e13
        exact hT14 (by decide)
      · have e13 := (if_neg c21).symm.trans e13
        cases e13
        exact hF15 (by decide)
    · have e13 := (if_neg c18).symm.trans e13
      cases e13
      exact hF15 (by decide)
def s_X6_fewest_1 (Fu : Nat) (Λ : fx_L) (this_5 : Int) : Int × fx_H → Option ((Int × fx_H) ⊕ ((Int × fx_H) ⊕ (Int × fx_H))) := fun (many_3, h4) =>
  if many_3 ≤ 5 then
    (f_X6_findAllRows Fu Λ this_5 many_3 h4).bind fun h8 =>
    (f_X6_ways Fu Λ this_5 h8).bind fun v10 =>
    if 50000 < v10 then
      (f_X6_no Fu Λ this_5 h8).bind fun (v13, h14) =>
      some (.inr (.inr (v13, h14)))
    else
      (f_X6_findLeast Fu Λ this_5 many_3 h8).bind fun (v16, h17) =>
      if v16 = 0 then
        some (.inr (.inr (many_3, h17)))
      else
        some (.inl ((fx_w (many_3 + 1)), h17))
  else
    some (.inr (.inl (many_3, h4)))
def f_X6_fewest (Fu : Nat) (Λ : fx_L) (this_0 : Int) (h : fx_H) : Option (Int × fx_H) :=
  (f_X6_layNow Fu Λ this_0 h).bind fun h1 =>
  Option.bind (fx_loop (s_X6_fewest_1 Fu Λ this_0) Fu (1, h1)) fun x9 =>
  match x9 with
  | .inl (many_36, h37) =>
    some ((-1), h37)
  | .inr r9 => some r9
abbrev rm_X6_fewest : Room := { frames := 6, cells := 0, slots := 0, locals := 154 }
set_option maxRecDepth 100000 in
set_option maxHeartbeats 4000000 in
theorem m_X6_fewest (Fu : Nat) (Λ : fx_L) (this_0 : Int) (h : fx_H) (r : Int) (ho : fx_H) (hf : f_X6_fewest Fu Λ this_0 h = some (r, ho)) : fx_Met yX6_fewest cX6_fewest 2 (some .int) rm_X6_fewest Λ [(8, this_0)] h (some (0, r)) ho := by
  unfold f_X6_fewest at hf
  refine fx_enter (ls := [some (8, this_0), none]) (by decide) (Nat.le_of_ble_eq_true rfl) rfl (fun M G F K => ?_)
  refine fx_aload_n (pc := 0) (t := 6) F 0 rfl rfl dX6_fewest_0 ?_
  obtain ⟨h1, e2, hf⟩ := fx_bnd hf
  refine fx_cVv (pc := 1) F 6 kC_X6 [] this_0 [] (m_X6_layNow Fu Λ this_0 h _ e2) kD_X6_layNow kI_X6_layNow rfl wM_X6_119 ⟨rfl, rfl⟩ ⟨by decide, by decide⟩ (Nat.le_of_ble_eq_true rfl) rfl dX6_fewest_1 ?_
  refine fx_iconst (pc := 4) F ⟨by decide, by decide⟩ dX6_fewest_4 ?_
  refine fx_istore_n (pc := 5) (ls' := [some (8, this_0), some (0, 1)]) F 1 rfl (by decide) rfl rfl dX6_fewest_5 ?_
  obtain ⟨x9, e38, hf⟩ := fx_bnd hf
  have hE39 : (fun y : (Int × fx_H) ⊕ (Int × fx_H) => match y with | .inl z => fx_J M G Λ 2 48 [some (8, this_0), some (0, z.1)] [] z.2 | .inr r9 => some r9 = some (r, ho)) x9 := by
    cases x9 with
    | inr r9 => exact hf
    | inl y9 =>
      obtain ⟨many_36, h37⟩ := y9
      show fx_J M G Λ 2 48 [some (8, this_0), some (0, many_36)] [] h37
      refine fx_iconst (pc := 48) F ⟨by decide, by decide⟩ dX6_fewest_48 ?_
      cases hf
      exact fx_ireturn (pc := 49) F K dX6_fewest_49
  refine fx_loop_J (Hd := (fun z : Int × fx_H => fx_J M G Λ 2 6 [some (8, this_0), some (0, z.1)] [] z.2)) (Ex := (fun y : (Int × fx_H) ⊕ (Int × fx_H) => match y with | .inl z => fx_J M G Λ 2 48 [some (8, this_0), some (0, z.1)] [] z.2 | .inr r9 => some r9 = some (r, ho))) ?_ Fu _ _ e38 hE39
  rintro ⟨many_20, h21⟩ o9 eq22 ih ex
  unfold s_X6_fewest_1 at eq22
  show fx_J M G Λ 2 6 [some (8, this_0), some (0, many_20)] [] h21
  refine fx_iload_n (pc := 6) F 1 rfl rfl dX6_fewest_6 ?_
  refine fx_iconst (pc := 7) F ⟨by decide, by decide⟩ dX6_fewest_7 ?_
  refine fx_nle (pc := 8) F 48 (by decide) dX6_fewest_8 (fun c23 => ?_) (fun c23 => ?_)
  · have eq22 := (if_pos c23).symm.trans eq22
    refine fx_aload_n (pc := 11) (t := 6) F 0 rfl rfl dX6_fewest_11 ?_
    refine fx_iload_n (pc := 12) F 1 rfl rfl dX6_fewest_12 ?_
    obtain ⟨h24, e25, eq22⟩ := fx_bnd eq22
    refine fx_cVv (pc := 13) F 6 kC_X6 [(0, many_20)] this_0 [] (m_X6_findAllRows Fu Λ this_0 many_20 h21 _ e25) kD_X6_findAllRows kI_X6_findAllRows rfl wM_X6_167 ⟨rfl, rfl⟩ ⟨by decide, by decide⟩ (Nat.le_of_ble_eq_true rfl) rfl dX6_fewest_13 ?_
    refine fx_aload_n (pc := 16) (t := 6) F 0 rfl rfl dX6_fewest_16 ?_
    obtain ⟨v26, e27, eq22⟩ := fx_bnd eq22
    refine fx_cV (pc := 17) F 6 kC_X6 [] this_0 [] (m_X6_ways Fu Λ this_0 h24 _ e27) kD_X6_ways kI_X6_ways rfl wM_X6_159 ⟨rfl, rfl⟩ ⟨by decide, by decide⟩ (Nat.le_of_ble_eq_true rfl) rfl dX6_fewest_17 ?_
    refine fx_ldc2 (pc := 20) (z := 50000) F (by decide) ⟨by decide, by decide⟩ wK_X6_171 dX6_fewest_20 ?_
    refine fx_nlgt (pc := 23) F 32 (by decide) dX6_fewest_23 dX6_fewest_24 (fun c28 => ?_) (fun c28 => ?_)
    · have eq22 := (if_pos c28).symm.trans eq22
      refine fx_aload_n (pc := 27) (t := 6) F 0 rfl rfl dX6_fewest_27 ?_
      obtain ⟨⟨v29, h30⟩, e31, eq22⟩ := fx_bnd eq22
      refine fx_cV (pc := 28) F 6 kC_X6 [] this_0 [] (m_X6_no Fu Λ this_0 h24 _ _ e31) kD_X6_no kI_X6_no rfl wM_X6_105 ⟨rfl, rfl⟩ ⟨by decide, by decide⟩ (Nat.le_of_ble_eq_true rfl) rfl dX6_fewest_28 ?_
      cases eq22
      have q9 := ex _ rfl
      cases q9
      exact fx_ireturn (pc := 31) F K dX6_fewest_31
    · have eq22 := (if_neg c28).symm.trans eq22
      refine fx_aload_n (pc := 32) (t := 6) F 0 rfl rfl dX6_fewest_32 ?_
      refine fx_iload_n (pc := 33) F 1 rfl rfl dX6_fewest_33 ?_
      obtain ⟨⟨v32, h33⟩, e34, eq22⟩ := fx_bnd eq22
      refine fx_cV (pc := 34) F 6 kC_X6 [(0, many_20)] this_0 [] (m_X6_findLeast Fu Λ this_0 many_20 h24 _ _ e34) kD_X6_findLeast kI_X6_findLeast rfl wM_X6_173 ⟨rfl, rfl⟩ ⟨by decide, by decide⟩ (Nat.le_of_ble_eq_true rfl) rfl dX6_fewest_34 ?_
      refine fx_nzeq (pc := 37) F 42 (by decide) dX6_fewest_37 (fun c35 => ?_) (fun c35 => ?_)
      · have eq22 := (if_pos c35).symm.trans eq22
        refine fx_iload_n (pc := 40) F 1 rfl rfl dX6_fewest_40 ?_
        cases eq22
        have q9 := ex _ rfl
        cases q9
        exact fx_ireturn (pc := 41) F K dX6_fewest_41
      · have eq22 := (if_neg c35).symm.trans eq22
        refine fx_iinc (pc := 42) (ls' := [some (8, this_0), some (0, (fx_w (many_20 + 1)))]) F (by decide) rfl rfl rfl dX6_fewest_42 ?_
        refine fx_goto (pc := 45) F 6 (by decide) dX6_fewest_45 ?_
        cases eq22
        exact ih _ rfl
  · have eq22 := (if_neg c23).symm.trans eq22
    cases eq22
    exact ex _ rfl
def s_X6_takeBest_1 (Fu : Nat) (Λ : fx_L) (this_5 : Int) (p_6 : Int) : Int × Int × Int × fx_H → Option ((Int × Int × Int × fx_H) ⊕ (Int × Int × Int × fx_H)) := fun (bestRow_1, least_2, r_3, h4) =>
  (fx_rd Λ h4 (fx_tg Λ this_5 10) p_6).bind fun v8 =>
  if r_3 < v8 then
    (f_X6_hours Fu Λ this_5 h4).bind fun v11 =>
    (f_X6_takeRow Fu Λ this_5 p_6 r_3 v11 h4).bind fun h13 =>
    (f_X6_hours Fu Λ this_5 h13).bind fun v15 =>
    (f_X6_paysIn Fu Λ this_5 p_6 v15 h13).bind fun v17 =>
    Option.bind (
      if v17 < least_2 then
        some r_3
      else
        some bestRow_1
    ) fun v19 =>
    Option.bind (
      if v17 < least_2 then
        some v17
      else
        some least_2
    ) fun v23 =>
    some (.inl (v19, v23, (fx_w (r_3 + 1)), h13))
  else
    some (.inr (bestRow_1, least_2, r_3, h4))
def f_X6_takeBest (Fu : Nat) (Λ : fx_L) (this_0 : Int) (p_0 : Int) (h : fx_H) : Option (Int × fx_H) :=
  Option.bind (fx_loop (s_X6_takeBest_1 Fu Λ this_0 p_0) Fu (0, 1000000, 0, h)) fun (bestRow_51, least_52, r_53, h54) =>
  (f_X6_hours Fu Λ this_0 h54).bind fun v57 =>
  (f_X6_takeRow Fu Λ this_0 p_0 bestRow_51 v57 h54).bind fun h59 =>
  some (least_52, h59)
abbrev rm_X6_takeBest : Room := { frames := 4, cells := 0, slots := 0, locals := 101 }
set_option maxRecDepth 100000 in
set_option maxHeartbeats 4000000 in
theorem m_X6_takeBest (Fu : Nat) (Λ : fx_L) (this_0 : Int) (p_0 : Int) (h : fx_H) (r : Int) (ho : fx_H) (hf : f_X6_takeBest Fu Λ this_0 p_0 h = some (r, ho)) : fx_Met yX6_takeBest cX6_takeBest 6 (some .int) rm_X6_takeBest Λ [(8, this_0), (0, p_0)] h (some (0, r)) ho := by
  unfold f_X6_takeBest at hf
  refine fx_enter (ls := [some (8, this_0), some (0, p_0), none, none, none, none]) (by decide) (Nat.le_of_ble_eq_true rfl) rfl (fun M G F K => ?_)
  refine fx_iconst (pc := 0) F ⟨by decide, by decide⟩ dX6_takeBest_0 ?_
  refine fx_istore_n (pc := 1) (ls' := [some (8, this_0), some (0, p_0), some (0, 0), none, none, none]) F 2 rfl (by decide) rfl rfl dX6_takeBest_1 ?_
  refine fx_ldc (pc := 2) (z := 1000000) F (by decide) ⟨by decide, by decide⟩ wK_X6_158 dX6_takeBest_2 ?_
  refine fx_istore_n (pc := 4) (ls' := [some (8, this_0), some (0, p_0), some (0, 0), some (0, 1000000), none, none]) F 3 rfl (by decide) rfl rfl dX6_takeBest_4 ?_
  refine fx_iconst (pc := 5) F ⟨by decide, by decide⟩ dX6_takeBest_5 ?_
  refine fx_istore (pc := 6) (ls' := [some (8, this_0), some (0, p_0), some (0, 0), some (0, 1000000), some (0, 0), none]) F (by decide) rfl rfl dX6_takeBest_6 ?_
  obtain ⟨⟨bestRow_51, least_52, r_53, h54⟩, e55, hf⟩ := fx_bnd hf
  have hE56 : fx_J M G Λ 6 73 [some (8, this_0), some (0, p_0), some (0, bestRow_51), some (0, least_52), some (0, r_53), none] [] h54 := by
    refine fx_aload_n (pc := 73) (t := 6) F 0 rfl rfl dX6_takeBest_73 ?_
    refine fx_iload_n (pc := 74) F 1 rfl rfl dX6_takeBest_74 ?_
    refine fx_iload_n (pc := 75) F 2 rfl rfl dX6_takeBest_75 ?_
    refine fx_aload_n (pc := 76) (t := 6) F 0 rfl rfl dX6_takeBest_76 ?_
    obtain ⟨v57, e58, hf⟩ := fx_bnd hf
    refine fx_cV (pc := 77) F 6 kC_X6 [] this_0 [(0, bestRow_51), (0, p_0), (8, this_0)] (m_X6_hours Fu Λ this_0 h54 _ e58) kD_X6_hours kI_X6_hours rfl wM_X6_81 ⟨rfl, rfl⟩ ⟨by decide, by decide⟩ (Nat.le_of_ble_eq_true rfl) rfl dX6_takeBest_77 ?_
    obtain ⟨h59, e60, hf⟩ := fx_bnd hf
    refine fx_cVv (pc := 80) F 6 kC_X6 [(0, p_0), (0, bestRow_51), (0, v57)] this_0 [] (m_X6_takeRow Fu Λ this_0 p_0 bestRow_51 v57 h54 _ e60) kD_X6_takeRow kI_X6_takeRow rfl wM_X6_163 ⟨rfl, rfl⟩ ⟨by decide, by decide⟩ (Nat.le_of_ble_eq_true rfl) rfl dX6_takeBest_80 ?_
    refine fx_iload_n (pc := 83) F 3 rfl rfl dX6_takeBest_83 ?_
    cases hf
    exact fx_ireturn (pc := 84) F K dX6_takeBest_84
  refine fx_loop_J (Hd := (fun z : Int × Int × Int × fx_H => fx_J M G Λ 6 8 [some (8, this_0), some (0, p_0), some (0, z.1), some (0, z.2.1), some (0, z.2.2.1), none] [] z.2.2.2)) (Ex := (fun z : Int × Int × Int × fx_H => fx_J M G Λ 6 73 [some (8, this_0), some (0, p_0), some (0, z.1), some (0, z.2.1), some (0, z.2.2.1), none] [] z.2.2.2)) ?_ Fu _ _ e55 hE56
  rintro ⟨bestRow_27, least_28, r_29, h30⟩ o9 eq31 ih ex
  unfold s_X6_takeBest_1 at eq31
  show fx_J M G Λ 6 8 [some (8, this_0), some (0, p_0), some (0, bestRow_27), some (0, least_28), some (0, r_29), none] [] h30
  refine fx_iload (pc := 8) F rfl dX6_takeBest_8 ?_
  refine fx_aload_n (pc := 10) (t := 6) F 0 rfl rfl dX6_takeBest_10 ?_
  refine fx_gR (pc := 11) F 6 10 10 8 rfl kC_X6 (by decide) rfl wF_X6_39 dX6_takeBest_11 ?_
  refine fx_iload_n (pc := 14) F 1 rfl rfl dX6_takeBest_14 ?_
  obtain ⟨v32, e33, eq31⟩ := fx_bnd eq31
  refine fx_raldI (pc := 15) F e33 dX6_takeBest_15 ?_
  refine fx_nlt (pc := 16) F 73 (by decide) dX6_takeBest_16 (fun c34 => ?_) (fun c34 => ?_)
  · have eq31 := (if_pos c34).symm.trans eq31
    refine fx_aload_n (pc := 19) (t := 6) F 0 rfl rfl dX6_takeBest_19 ?_
    refine fx_iload_n (pc := 20) F 1 rfl rfl dX6_takeBest_20 ?_
    refine fx_iload (pc := 21) F rfl dX6_takeBest_21 ?_
    refine fx_aload_n (pc := 23) (t := 6) F 0 rfl rfl dX6_takeBest_23 ?_
    obtain ⟨v35, e36, eq31⟩ := fx_bnd eq31
    refine fx_cV (pc := 24) F 6 kC_X6 [] this_0 [(0, r_29), (0, p_0), (8, this_0)] (m_X6_hours Fu Λ this_0 h30 _ e36) kD_X6_hours kI_X6_hours rfl wM_X6_81 ⟨rfl, rfl⟩ ⟨by decide, by decide⟩ (Nat.le_of_ble_eq_true rfl) rfl dX6_takeBest_24 ?_
    obtain ⟨h37, e38, eq31⟩ := fx_bnd eq31
    refine fx_cVv (pc := 27) F 6 kC_X6 [(0, p_0), (0, r_29), (0, v35)] this_0 [] (m_X6_takeRow Fu Λ this_0 p_0 r_29 v35 h30 _ e38) kD_X6_takeRow kI_X6_takeRow rfl wM_X6_163 ⟨rfl, rfl⟩ ⟨by decide, by decide⟩ (Nat.le_of_ble_eq_true rfl) rfl dX6_takeBest_27 ?_
    refine fx_aload_n (pc := 30) (t := 6) F 0 rfl rfl dX6_takeBest_30 ?_
    refine fx_iload_n (pc := 31) F 1 rfl rfl dX6_takeBest_31 ?_
    refine fx_aload_n (pc := 32) (t := 6) F 0 rfl rfl dX6_takeBest_32 ?_
    obtain ⟨v39, e40, eq31⟩ := fx_bnd eq31
    refine fx_cV (pc := 33) F 6 kC_X6 [] this_0 [(0, p_0), (8, this_0)] (m_X6_hours Fu Λ this_0 h37 _ e40) kD_X6_hours kI_X6_hours rfl wM_X6_81 ⟨rfl, rfl⟩ ⟨by decide, by decide⟩ (Nat.le_of_ble_eq_true rfl) rfl dX6_takeBest_33 ?_
    obtain ⟨v41, e42, eq31⟩ := fx_bnd eq31
    refine fx_cV (pc := 36) F 6 kC_X6 [(0, p_0), (0, v39)] this_0 [] (m_X6_paysIn Fu Λ this_0 p_0 v39 h37 _ e42) kD_X6_paysIn kI_X6_paysIn rfl wM_X6_137 ⟨rfl, rfl⟩ ⟨by decide, by decide⟩ (Nat.le_of_ble_eq_true rfl) rfl dX6_takeBest_36 ?_
    refine fx_istore (pc := 39) (ls' := [some (8, this_0), some (0, p_0), some (0, bestRow_27), some (0, least_28), some (0, r_29), some (0, v41)]) F (by decide) rfl rfl dX6_takeBest_39 ?_
    obtain ⟨v43, e44, eq31⟩ := fx_bnd eq31
    have hJ45 : fx_J M G Λ 6 53 [some (8, this_0), some (0, p_0), some (0, bestRow_27), some (0, least_28), some (0, r_29), some (0, v41)] [(0, v43)] h37 := by
      refine fx_istore_n (pc := 53) (ls' := [some (8, this_0), some (0, p_0), some (0, v43), some (0, least_28), some (0, r_29), some (0, v41)]) F 2 rfl (by decide) rfl rfl dX6_takeBest_53 ?_
      obtain ⟨v47, e48, eq31⟩ := fx_bnd eq31
      have hJ49 : fx_J M G Λ 6 66 [some (8, this_0), some (0, p_0), some (0, v43), some (0, least_28), some (0, r_29), some (0, v41)] [(0, v47)] h37 := by
        refine fx_istore_n (pc := 66) (ls' := [some (8, this_0), some (0, p_0), some (0, v43), some (0, v47), some (0, r_29), some (0, v41)]) F 3 rfl (by decide) rfl rfl dX6_takeBest_66 ?_
        refine fx_iinc (pc := 67) (ls' := [some (8, this_0), some (0, p_0), some (0, v43), some (0, v47), some (0, (fx_w (r_29 + 1))), some (0, v41)]) F (by decide) rfl rfl rfl dX6_takeBest_67 ?_
        refine fx_goto (pc := 70) F 8 (by decide) dX6_takeBest_70 ?_
        cases eq31
        refine fx_drop (ls' := [some (8, this_0), some (0, p_0), some (0, v43), some (0, v47), some (0, (fx_w (r_29 + 1))), none]) ⟨rfl, rfl, rfl, rfl, rfl, trivial⟩ ?_
        exact ih _ rfl
      refine fx_iload (pc := 54) F rfl dX6_takeBest_54 ?_
      refine fx_iload_n (pc := 56) F 3 rfl rfl dX6_takeBest_56 ?_
      refine fx_nlt (pc := 57) F 65 (by decide) dX6_takeBest_57 (fun c50 => ?_) (fun c50 => ?_)
      · have e48 := (if_pos c50).symm.trans e48
        refine fx_iload (pc := 60) F rfl dX6_takeBest_60 ?_
        cases e48
        refine fx_goto (pc := 62) F 66 (by decide) dX6_takeBest_62 ?_
        exact hJ49
      · have e48 := (if_neg c50).symm.trans e48
        refine fx_iload_n (pc := 65) F 3 rfl rfl dX6_takeBest_65 ?_
        cases e48
        exact hJ49
    refine fx_iload (pc := 41) F rfl dX6_takeBest_41 ?_
    refine fx_iload_n (pc := 43) F 3 rfl rfl dX6_takeBest_43 ?_
    refine fx_nlt (pc := 44) F 52 (by decide) dX6_takeBest_44 (fun c46 => ?_) (fun c46 => ?_)
    · have e44 := (if_pos c46).symm.trans e44
      refine fx_iload (pc := 47) F rfl dX6_takeBest_47 ?_
      cases e44
      refine fx_goto (pc := 49) F 53 (by decide) dX6_takeBest_49 ?_
      exact hJ45
    · have e44 := (if_neg c46).symm.trans e44
      refine fx_iload_n (pc := 52) F 2 rfl rfl dX6_takeBest_52 ?_
      cases e44
      exact hJ45
  · have eq31 := (if_neg c34).symm.trans eq31
    cases eq31
    exact ex _ rfl
def s_X6_layOrder_2 (Fu : Nat) (Λ : fx_L) (this_22 : Int) (k_23 : Int) (h : fx_H) : Int × Int → Option ((Int × Int) ⊕ (Int × Int)) := fun (unlike_20, j_21) =>
  (f_X6_people Fu Λ this_22 h).bind fun v25 =>
  if j_21 < v25 then
    Option.bind (
      Option.bind (
        if ¬ unlike_20 = 0 then
          (fx_rd Λ h (fx_tg Λ this_22 14) j_21).bind fun v36 =>
          (fx_rd Λ h (fx_tg Λ this_22 14) k_23).bind fun v38 =>
          if ¬ v36 = v38 then
            some true
          else
            some false
        else
          some false
      ) fun b31 =>
      if b31 = true then
        some (1 : Int)
      else
        some (0 : Int)
    ) fun v28 =>
    some (.inl (v28, (fx_w (j_21 + 1))))
  else
    some (.inr (unlike_20, j_21))
def s_X6_layOrder_1 (Fu : Nat) (Λ : fx_L) (this_7 : Int) : Int × Int × Int × fx_H → Option ((Int × Int × Int × fx_H) ⊕ (Int × Int × Int × fx_H)) := fun (rest_3, unlike_4, k_5, h6) =>
  if 0 ≤ k_5 then
    (f_X6_people Fu Λ this_7 h6).bind fun v10 =>
    (fx_rm rest_3 v10).bind fun v12 =>
    (fx_wr Λ h6 (fx_tg Λ this_7 14) k_5 v12).bind fun h14 =>
    (f_X6_people Fu Λ this_7 h14).bind fun v16 =>
    (fx_dv rest_3 v16).bind fun v18 =>
    Option.bind (fx_loop (s_X6_layOrder_2 Fu Λ this_7 k_5 h14) Fu (unlike_4, (fx_w (k_5 + 1)))) fun (unlike_62, j_63) =>
    some (.inl (v18, unlike_62, (fx_w (k_5 + (-1))), h14))
  else
    some (.inr (rest_3, unlike_4, k_5, h6))
def f_X6_layOrder (Fu : Nat) (Λ : fx_L) (this_0 : Int) (code_0 : Int) (h : fx_H) : Option (Int × fx_H) :=
  (f_X6_people Fu Λ this_0 h).bind fun v1 =>
  Option.bind (fx_loop (s_X6_layOrder_1 Fu Λ this_0) Fu (code_0, 1, (fx_w (v1 - 1)), h)) fun (rest_128, unlike_129, k_130, h131) =>
  (fx_zb unlike_129).bind fun z134 =>
  some (z134, h131)
abbrev rm_X6_layOrder : Room := { frames := 1, cells := 0, slots := 0, locals := 20 }
set_option maxRecDepth 100000 in
set_option maxHeartbeats 4000000 in
theorem m_X6_layOrder (Fu : Nat) (Λ : fx_L) (this_0 : Int) (code_0 : Int) (h : fx_H) (r : Int) (ho : fx_H) (hf : f_X6_layOrder Fu Λ this_0 code_0 h = some (r, ho)) : fx_Met yX6_layOrder cX6_layOrder 6 (some .boolean) rm_X6_layOrder Λ [(8, this_0), (0, code_0)] h (some (0, r)) ho := by
  unfold f_X6_layOrder at hf
  refine fx_enter (ls := [some (8, this_0), some (0, code_0), none, none, none, none]) (by decide) (Nat.le_of_ble_eq_true rfl) rfl (fun M G F K => ?_)
  refine fx_iload_n (pc := 0) F 1 rfl rfl dX6_layOrder_0 ?_
  refine fx_istore_n (pc := 1) (ls' := [some (8, this_0), some (0, code_0), some (0, code_0), none, none, none]) F 2 rfl (by decide) rfl rfl dX6_layOrder_1 ?_
  refine fx_iconst (pc := 2) F ⟨by decide, by decide⟩ dX6_layOrder_2 ?_
  refine fx_istore_n (pc := 3) (ls' := [some (8, this_0), some (0, code_0), some (0, code_0), some (0, 1), none, none]) F 3 rfl (by decide) rfl rfl dX6_layOrder_3 ?_
  refine fx_aload_n (pc := 4) (t := 6) F 0 rfl rfl dX6_layOrder_4 ?_
  obtain ⟨v1, e2, hf⟩ := fx_bnd hf
  refine fx_cV (pc := 5) F 6 kC_X6 [] this_0 [] (m_X6_people Fu Λ this_0 h _ e2) kD_X6_people kI_X6_people rfl wM_X6_78 ⟨rfl, rfl⟩ ⟨by decide, by decide⟩ (Nat.le_of_ble_eq_true rfl) rfl dX6_layOrder_5 ?_
  refine fx_iconst (pc := 8) F ⟨by decide, by decide⟩ dX6_layOrder_8 ?_
  refine fx_isub (pc := 9) F dX6_layOrder_9 ?_
  refine fx_istore (pc := 10) (ls' := [some (8, this_0), some (0, code_0), some (0, code_0), some (0, 1), some (0, (fx_w (v1 - 1))), none]) F (by decide) rfl rfl dX6_layOrder_10 ?_
  obtain ⟨⟨rest_128, unlike_129, k_130, h131⟩, e132, hf⟩ := fx_bnd hf
  have hE133 : fx_J M G Λ 6 91 [some (8, this_0), some (0, code_0), some (0, rest_128), some (0, unlike_129), some (0, k_130), none] [] h131 := by
    refine fx_iload_n (pc := 91) F 3 rfl rfl dX6_layOrder_91 ?_
    obtain ⟨z134, e135, hf⟩ := fx_bnd hf
    obtain ⟨e135, hzz134⟩ := fx_zb_use e135
    refine fx_top (X := fx_X) e135 ?_
    cases hf
    exact fx_zreturn (pc := 92) F hzz134 K dX6_layOrder_92
  refine fx_loop_J (Hd := (fun z : Int × Int × Int × fx_H => fx_J M G Λ 6 12 [some (8, this_0), some (0, code_0), some (0, z.1), some (0, z.2.1), some (0, z.2.2.1), none] [] z.2.2.2)) (Ex := (fun z : Int × Int × Int × fx_H => fx_J M G Λ 6 91 [some (8, this_0), some (0, code_0), some (0, z.1), some (0, z.2.1), some (0, z.2.2.1), none] [] z.2.2.2)) ?_ Fu _ _ e132 hE133
  rintro ⟨rest_66, unlike_67, k_68, h69⟩ o9 eq70 ih ex
  unfold s_X6_layOrder_1 at eq70
  show fx_J M G Λ 6 12 [some (8, this_0), some (0, code_0), some (0, rest_66), some (0, unlike_67), some (0, k_68), none] [] h69
  refine fx_iload (pc := 12) F rfl dX6_layOrder_12 ?_
  refine fx_nzge (pc := 14) F 91 (by decide) dX6_layOrder_14 (fun c71 => ?_) (fun c71 => ?_)
  · have eq70 := (if_pos c71).symm.trans eq70
    refine fx_aload_n (pc := 17) (t := 6) F 0 rfl rfl dX6_layOrder_17 ?_
    refine fx_gR (pc := 18) F 6 14 14 8 rfl kC_X6 (by decide) rfl wF_X6_51 dX6_layOrder_18 ?_
    refine fx_iload (pc := 21) F rfl dX6_layOrder_21 ?_
    refine fx_iload_n (pc := 23) F 2 rfl rfl dX6_layOrder_23 ?_
    refine fx_aload_n (pc := 24) (t := 6) F 0 rfl rfl dX6_layOrder_24 ?_
    obtain ⟨v72, e73, eq70⟩ := fx_bnd eq70
    refine fx_cV (pc := 25) F 6 kC_X6 [] this_0 [(0, rest_66), (0, k_68), (10, (fx_tg Λ this_0 14))] (m_X6_people Fu Λ this_0 h69 _ e73) kD_X6_people kI_X6_people rfl wM_X6_78 ⟨rfl, rfl⟩ ⟨by decide, by decide⟩ (Nat.le_of_ble_eq_true rfl) rfl dX6_layOrder_25 ?_
    obtain ⟨v74, e75, eq70⟩ := fx_bnd eq70
    refine fx_rirem (pc := 28) F e75 dX6_layOrder_28 ?_
    obtain ⟨h76, e77, eq70⟩ := fx_bnd eq70
    refine fx_rastI (pc := 29) F e77 dX6_layOrder_29 ?_
    refine fx_iload_n (pc := 30) F 2 rfl rfl dX6_layOrder_30 ?_
    refine fx_aload_n (pc := 31) (t := 6) F 0 rfl rfl dX6_layOrder_31 ?_
    obtain ⟨v78, e79, eq70⟩ := fx_bnd eq70
    refine fx_cV (pc := 32) F 6 kC_X6 [] this_0 [(0, rest_66)] (m_X6_people Fu Λ this_0 h76 _ e79) kD_X6_people kI_X6_people rfl wM_X6_78 ⟨rfl, rfl⟩ ⟨by decide, by decide⟩ (Nat.le_of_ble_eq_true rfl) rfl dX6_layOrder_32 ?_
    obtain ⟨v80, e81, eq70⟩ := fx_bnd eq70
    refine fx_ridiv (pc := 35) F e81 dX6_layOrder_35 ?_
    refine fx_istore_n (pc := 36) (ls' := [some (8, this_0), some (0, code_0), some (0, v80), some (0, unlike_67), some (0, k_68), none]) F 2 rfl (by decide) rfl rfl dX6_layOrder_36 ?_
    refine fx_iload (pc := 37) F rfl dX6_layOrder_37 ?_
    refine fx_iconst (pc := 39) F ⟨by decide, by decide⟩ dX6_layOrder_39 ?_
    refine fx_iadd (pc := 40) F dX6_layOrder_40 ?_
    refine fx_istore (pc := 41) (ls' := [some (8, this_0), some (0, code_0), some (0, v80), some (0, unlike_67), some (0, k_68), some (0, (fx_w (k_68 + 1)))]) F (by decide) rfl rfl dX6_layOrder_41 ?_
    obtain ⟨⟨unlike_124, j_125⟩, e126, eq70⟩ := fx_bnd eq70
    have hE127 : fx_J M G Λ 6 85 [some (8, this_0), some (0, code_0), some (0, v80), some (0, unlike_124), some (0, k_68), some (0, j_125)] [] h76 := by
      refine fx_iinc (pc := 85) (ls' := [some (8, this_0), some (0, code_0), some (0, v80), some (0, unlike_124), some (0, (fx_w (k_68 + (-1)))), some (0, j_125)]) F (by decide) rfl rfl rfl dX6_layOrder_85 ?_
      refine fx_goto (pc := 88) F 12 (by decide) dX6_layOrder_88 ?_
      cases eq70
      refine fx_drop (ls' := [some (8, this_0), some (0, code_0), some (0, v80), some (0, unlike_124), some (0, (fx_w (k_68 + (-1)))), none]) ⟨rfl, rfl, rfl, rfl, rfl, trivial⟩ ?_
      exact ih _ rfl
    refine fx_loop_J (Hd := (fun z : Int × Int => fx_J M G Λ 6 43 [some (8, this_0), some (0, code_0), some (0, v80), some (0, z.1), some (0, k_68), some (0, z.2)] [] h76)) (Ex := (fun z : Int × Int => fx_J M G Λ 6 85 [some (8, this_0), some (0, code_0), some (0, v80), some (0, z.1), some (0, k_68), some (0, z.2)] [] h76)) ?_ Fu _ _ e126 hE127
    rintro ⟨unlike_104, j_105⟩ o9 eq106 ih ex
    unfold s_X6_layOrder_2 at eq106
    show fx_J M G Λ 6 43 [some (8, this_0), some (0, code_0), some (0, v80), some (0, unlike_104), some (0, k_68), some (0, j_105)] [] h76
    refine fx_iload (pc := 43) F rfl dX6_layOrder_43 ?_
    refine fx_aload_n (pc := 45) (t := 6) F 0 rfl rfl dX6_layOrder_45 ?_
    obtain ⟨v107, e108, eq106⟩ := fx_bnd eq106
    refine fx_cV (pc := 46) F 6 kC_X6 [] this_0 [(0, j_105)] (m_X6_people Fu Λ this_0 h76 _ e108) kD_X6_people kI_X6_people rfl wM_X6_78 ⟨rfl, rfl⟩ ⟨by decide, by decide⟩ (Nat.le_of_ble_eq_true rfl) rfl dX6_layOrder_46 ?_
    refine fx_nlt (pc := 49) F 85 (by decide) dX6_layOrder_49 (fun c109 => ?_) (fun c109 => ?_)
    · have eq106 := (if_pos c109).symm.trans eq106
      obtain ⟨v110, e111, eq106⟩ := fx_bnd eq106
      have hJ112 : fx_J M G Λ 6 78 [some (8, this_0), some (0, code_0), some (0, v80), some (0, unlike_104), some (0, k_68), some (0, j_105)] [(0, v110)] h76 := by
        refine fx_istore_n (pc := 78) (ls' := [some (8, this_0), some (0, code_0), some (0, v80), some (0, v110), some (0, k_68), some (0, j_105)]) F 3 rfl (by decide) rfl rfl dX6_layOrder_78 ?_
        refine fx_iinc (pc := 79) (ls' := [some (8, this_0), some (0, code_0), some (0, v80), some (0, v110), some (0, k_68), some (0, (fx_w (j_105 + 1)))]) F (by decide) rfl rfl rfl dX6_layOrder_79 ?_
        refine fx_goto (pc := 82) F 43 (by decide) dX6_layOrder_82 ?_
        cases eq106
        exact ih _ rfl
      obtain ⟨b113, e114, e111⟩ := fx_bnd e111
      have hT115 : b113 = true → fx_J M G Λ 6 73 [some (8, this_0), some (0, code_0), some (0, v80), some (0, unlike_104), some (0, k_68), some (0, j_105)] [] h76 := fun c123 => by
        have e111 := (if_pos c123).symm.trans e111
        refine fx_iconst (pc := 73) F ⟨by decide, by decide⟩ dX6_layOrder_73 ?_
        cases e111
        refine fx_goto (pc := 74) F 78 (by decide) dX6_layOrder_74 ?_
        exact hJ112
      have hF116 : ¬ b113 = true → fx_J M G Λ 6 77 [some (8, this_0), some (0, code_0), some (0, v80), some (0, unlike_104), some (0, k_68), some (0, j_105)] [] h76 := fun c123 => by
        have e111 := (if_neg c123).symm.trans e111
        refine fx_iconst (pc := 77) F ⟨by decide, by decide⟩ dX6_layOrder_77 ?_
        cases e111
        exact hJ112
      refine fx_iload_n (pc := 52) F 3 rfl rfl dX6_layOrder_52 ?_
      refine fx_nzne (pc := 53) F 77 (by decide) dX6_layOrder_53 (fun c117 => ?_) (fun c117 => ?_)
      · have e114 := (if_pos c117).symm.trans e114
        refine fx_aload_n (pc := 56) (t := 6) F 0 rfl rfl dX6_layOrder_56 ?_
        refine fx_gR (pc := 57) F 6 14 14 8 rfl kC_X6 (by decide) rfl wF_X6_51 dX6_layOrder_57 ?_
        refine fx_iload (pc := 60) F rfl dX6_layOrder_60 ?_
        obtain ⟨v118, e119, e114⟩ := fx_bnd e114
        refine fx_raldI (pc := 62) F e119 dX6_layOrder_62 ?_
        refine fx_aload_n (pc := 63) (t := 6) F 0 rfl rfl dX6_layOrder_63 ?_
        refine fx_gR (pc := 64) F 6 14 14 8 rfl kC_X6 (by decide) rfl wF_X6_51 dX6_layOrder_64 ?_
        refine fx_iload (pc := 67) F rfl dX6_layOrder_67 ?_
        obtain ⟨v120, e121, e114⟩ := fx_bnd e114
        refine fx_raldI (pc := 69) F e121 dX6_layOrder_69 ?_
        refine fx_nne (pc := 70) F 77 (by decide) dX6_layOrder_70 (fun c122 => ?_) (fun c122 => ?_)
        · have e114 := (if_pos c122).symm.trans e114
          cases e114
          exact hT115 (by decide)
        · have e114 := (if_neg c122).symm.trans e114
          cases e114
          exact hF116 (by decide)
      · have e114 := (if_neg c117).symm.trans e114
        cases e114
        exact hF116 (by decide)
    · have eq106 := (if_neg c109).symm.trans eq106
      cases eq106
      exact ex _ rfl
  · have eq70 := (if_neg c71).symm.trans eq70
    cases eq70
    exact ex _ rfl
def s_X6_listed_1 (Fu : Nat) (Λ : fx_L) (this_5 : Int) : Int × fx_H → Option ((Int × fx_H) ⊕ (Int × fx_H)) := fun (k_3, h4) =>
  (f_X6_people Fu Λ this_5 h4).bind fun v7 =>
  if k_3 < v7 then
    (fx_rd Λ h4 (fx_tg Λ this_5 14) k_3).bind fun v10 =>
    (f_X6_takeBest Fu Λ this_5 v10 h4).bind fun (v12, h13) =>
    some (.inl ((fx_w (k_3 + 1)), h13))
  else
    some (.inr (k_3, h4))
def f_X6_listed (Fu : Nat) (Λ : fx_L) (this_0 : Int) (h : fx_H) : Option (Int × fx_H) :=
  (f_X6_takeNothing Fu Λ this_0 h).bind fun h1 =>
  Option.bind (fx_loop (s_X6_listed_1 Fu Λ this_0) Fu (0, h1)) fun (k_26, h27) =>
  (f_X6_hours Fu Λ this_0 h27).bind fun v30 =>
  (f_X6_allIn Fu Λ this_0 v30 h27).bind fun v32 =>
  some (v32, h27)
abbrev rm_X6_listed : Room := { frames := 5, cells := 0, slots := 0, locals := 126 }
set_option maxRecDepth 100000 in
set_option maxHeartbeats 4000000 in
theorem m_X6_listed (Fu : Nat) (Λ : fx_L) (this_0 : Int) (h : fx_H) (r : Int) (ho : fx_H) (hf : f_X6_listed Fu Λ this_0 h = some (r, ho)) : fx_Met yX6_listed cX6_listed 3 (some .int) rm_X6_listed Λ [(8, this_0)] h (some (0, r)) ho := by
  unfold f_X6_listed at hf
  refine fx_enter (ls := [some (8, this_0), none, none]) (by decide) (Nat.le_of_ble_eq_true rfl) rfl (fun M G F K => ?_)
  refine fx_aload_n (pc := 0) (t := 6) F 0 rfl rfl dX6_listed_0 ?_
  obtain ⟨h1, e2, hf⟩ := fx_bnd hf
  refine fx_cVv (pc := 1) F 6 kC_X6 [] this_0 [] (m_X6_takeNothing Fu Λ this_0 h _ e2) kD_X6_takeNothing kI_X6_takeNothing rfl wM_X6_155 ⟨rfl, rfl⟩ ⟨by decide, by decide⟩ (Nat.le_of_ble_eq_true rfl) rfl dX6_listed_1 ?_
  refine fx_iconst (pc := 4) F ⟨by decide, by decide⟩ dX6_listed_4 ?_
  refine fx_istore_n (pc := 5) (ls' := [some (8, this_0), some (0, 0), none]) F 1 rfl (by decide) rfl rfl dX6_listed_5 ?_
  obtain ⟨⟨k_26, h27⟩, e28, hf⟩ := fx_bnd hf
  have hE29 : fx_J M G Λ 3 31 [some (8, this_0), some (0, k_26), none] [] h27 := by
    refine fx_aload_n (pc := 31) (t := 6) F 0 rfl rfl dX6_listed_31 ?_
    refine fx_aload_n (pc := 32) (t := 6) F 0 rfl rfl dX6_listed_32 ?_
    obtain ⟨v30, e31, hf⟩ := fx_bnd hf
    refine fx_cV (pc := 33) F 6 kC_X6 [] this_0 [(8, this_0)] (m_X6_hours Fu Λ this_0 h27 _ e31) kD_X6_hours kI_X6_hours rfl wM_X6_81 ⟨rfl, rfl⟩ ⟨by decide, by decide⟩ (Nat.le_of_ble_eq_true rfl) rfl dX6_listed_33 ?_
    obtain ⟨v32, e33, hf⟩ := fx_bnd hf
    refine fx_cV (pc := 36) F 6 kC_X6 [(0, v30)] this_0 [] (m_X6_allIn Fu Λ this_0 v30 h27 _ e33) kD_X6_allIn kI_X6_allIn rfl wM_X6_143 ⟨rfl, rfl⟩ ⟨by decide, by decide⟩ (Nat.le_of_ble_eq_true rfl) rfl dX6_listed_36 ?_
    cases hf
    exact fx_ireturn (pc := 39) F K dX6_listed_39
  refine fx_loop_J (Hd := (fun z : Int × fx_H => fx_J M G Λ 3 6 [some (8, this_0), some (0, z.1), none] [] z.2)) (Ex := (fun z : Int × fx_H => fx_J M G Λ 3 31 [some (8, this_0), some (0, z.1), none] [] z.2)) ?_ Fu _ _ e28 hE29
  rintro ⟨k_15, h16⟩ o9 eq17 ih ex
  unfold s_X6_listed_1 at eq17
  show fx_J M G Λ 3 6 [some (8, this_0), some (0, k_15), none] [] h16
  refine fx_iload_n (pc := 6) F 1 rfl rfl dX6_listed_6 ?_
  refine fx_aload_n (pc := 7) (t := 6) F 0 rfl rfl dX6_listed_7 ?_
  obtain ⟨v18, e19, eq17⟩ := fx_bnd eq17
  refine fx_cV (pc := 8) F 6 kC_X6 [] this_0 [(0, k_15)] (m_X6_people Fu Λ this_0 h16 _ e19) kD_X6_people kI_X6_people rfl wM_X6_78 ⟨rfl, rfl⟩ ⟨by decide, by decide⟩ (Nat.le_of_ble_eq_true rfl) rfl dX6_listed_8 ?_
  refine fx_nlt (pc := 11) F 31 (by decide) dX6_listed_11 (fun c20 => ?_) (fun c20 => ?_)
  · have eq17 := (if_pos c20).symm.trans eq17
    refine fx_aload_n (pc := 14) (t := 6) F 0 rfl rfl dX6_listed_14 ?_
    refine fx_aload_n (pc := 15) (t := 6) F 0 rfl rfl dX6_listed_15 ?_
    refine fx_gR (pc := 16) F 6 14 14 8 rfl kC_X6 (by decide) rfl wF_X6_51 dX6_listed_16 ?_
    refine fx_iload_n (pc := 19) F 1 rfl rfl dX6_listed_19 ?_
    obtain ⟨v21, e22, eq17⟩ := fx_bnd eq17
    refine fx_raldI (pc := 20) F e22 dX6_listed_20 ?_
    obtain ⟨⟨v23, h24⟩, e25, eq17⟩ := fx_bnd eq17
    refine fx_cV (pc := 21) F 6 kC_X6 [(0, v21)] this_0 [] (m_X6_takeBest Fu Λ this_0 v21 h16 _ _ e25) kD_X6_takeBest kI_X6_takeBest rfl wM_X6_176 ⟨rfl, rfl⟩ ⟨by decide, by decide⟩ (Nat.le_of_ble_eq_true rfl) rfl dX6_listed_21 ?_
    refine fx_istore_n (pc := 24) (ls' := [some (8, this_0), some (0, k_15), some (0, v23)]) F 2 rfl (by decide) rfl rfl dX6_listed_24 ?_
    refine fx_iinc (pc := 25) (ls' := [some (8, this_0), some (0, (fx_w (k_15 + 1))), some (0, v23)]) F (by decide) rfl rfl rfl dX6_listed_25 ?_
    refine fx_goto (pc := 28) F 6 (by decide) dX6_listed_28 ?_
    cases eq17
    refine fx_drop (ls' := [some (8, this_0), some (0, (fx_w (k_15 + 1))), none]) ⟨rfl, rfl, trivial⟩ ?_
    exact ih _ rfl
  · have eq17 := (if_neg c20).symm.trans eq17
    cases eq17
    exact ex _ rfl
