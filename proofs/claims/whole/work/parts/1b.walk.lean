def f_X3_fail (Fu : Nat) (Λ : fx_L) (this_0 : Int) (h : fx_H) : Option (fx_H) :=
  if (h this_0 5) = (-1) then
    some (fx_up h this_0 5 (h this_0 4))
  else
    some h
abbrev rm_X3_fail : Room := { frames := 0, cells := 0, slots := 0, locals := 0 }
set_option maxRecDepth 100000 in
set_option maxHeartbeats 4000000 in
theorem m_X3_fail (Fu : Nat) (Λ : fx_L) (this_0 : Int) (h : fx_H) (ho : fx_H) (hf : f_X3_fail Fu Λ this_0 h = some ho) : fx_Met yX3_fail cX3_fail 1 none rm_X3_fail Λ [(5, this_0)] h none ho := by
  unfold f_X3_fail at hf
  refine fx_enter (ls := [some (5, this_0)]) (by decide) (Nat.le_of_ble_eq_true rfl) rfl (fun M G F K => ?_)
  refine fx_aload_n (pc := 0) (t := 3) F 0 rfl rfl dX3_fail_0 ?_
  refine fx_gI (pc := 1) F 3 5 5 rfl kC_X3 rfl wF_X3_27 dX3_fail_1 ?_
  refine fx_iconst (pc := 4) F ⟨by decide, by decide⟩ dX3_fail_4 ?_
  refine fx_neq (pc := 5) F 16 (by decide) dX3_fail_5 (fun c1 => ?_) (fun c1 => ?_)
  · have hf := (if_pos c1).symm.trans hf
    refine fx_aload_n (pc := 8) (t := 3) F 0 rfl rfl dX3_fail_8 ?_
    refine fx_aload_n (pc := 9) (t := 3) F 0 rfl rfl dX3_fail_9 ?_
    refine fx_gI (pc := 10) F 3 4 4 rfl kC_X3 rfl wF_X3_142 dX3_fail_10 ?_
    refine fx_pI (pc := 13) F 3 5 5 rfl kC_X3 rfl rfl (by decide +kernel) wF_X3_27 dX3_fail_13 ?_
    cases hf
    exact fx_vreturn (pc := 16) F K dX3_fail_16
  · have hf := (if_neg c1).symm.trans hf
    cases hf
    exact fx_vreturn (pc := 16) F K dX3_fail_16
def s_X3_spells_1 (Fu : Nat) (Λ : fx_L) (this_5 : Int) (word_6 : Int) (h : fx_H) : Int → Option ((Int) ⊕ ((Int) ⊕ (Int))) := fun i_4 =>
  (fx_slen word_6).bind fun v8 =>
  if i_4 < v8 then
    (fx_rd Λ h (fx_tg Λ this_5 0) (fx_w ((h this_5 4) + i_4))).bind fun v11 =>
    (fx_sch word_6 i_4).bind fun v13 =>
    if ¬ v11 = v13 then
      some (.inr (.inr 0))
    else
      some (.inl (fx_w (i_4 + 1)))
  else
    some (.inr (.inl i_4))
def f_X3_spells (Fu : Nat) (Λ : fx_L) (this_0 : Int) (word_0 : Int) (h : fx_H) : Option (Int) :=
  (fx_slen word_0).bind fun v1 =>
  if ¬ v1 = (fx_w ((h this_0 2) - (h this_0 4))) then
    some 0
  else
    Option.bind (fx_loop (s_X3_spells_1 Fu Λ this_0 word_0 h) Fu 0) fun x9 =>
    match x9 with
    | .inl i_26 =>
      some 1
    | .inr r9 => some r9
abbrev rm_X3_spells : Room := { frames := 4, cells := 0, slots := 0, locals := 85 }
set_option maxRecDepth 100000 in
set_option maxHeartbeats 4000000 in
theorem m_X3_spells (Fu : Nat) (Λ : fx_L) (this_0 : Int) (word_0 : Int) (h : fx_H) (r : Int) (hf : f_X3_spells Fu Λ this_0 word_0 h = some r) : fx_Met yX3_spells cX3_spells 3 (some .boolean) rm_X3_spells Λ [(5, this_0), (62, word_0)] h (some (0, r)) h := by
  unfold f_X3_spells at hf
  refine fx_enter (ls := [some (5, this_0), some (62, word_0), none]) (by decide) (Nat.le_of_ble_eq_true rfl) rfl (fun M G F K => ?_)
  refine fx_aload_n (pc := 0) (t := 60) F 1 rfl rfl dX3_spells_0 ?_
  obtain ⟨v1, e2, hf⟩ := fx_bnd hf
  refine fx_cX (pc := 1) F [] word_0 (fx_slen_w e2) [] (m_J0_length Λ word_0 h _ e2) kD_J0_length_8abf5 kI_J0_length_8abf5 rfl wM_X3_156 ⟨rfl, rfl⟩ ⟨by decide, by decide⟩ (Nat.le_of_ble_eq_true rfl) rfl dX3_spells_1 ?_
  refine fx_aload_n (pc := 4) (t := 3) F 0 rfl rfl dX3_spells_4 ?_
  refine fx_gI (pc := 5) F 3 2 2 rfl kC_X3 rfl wF_X3_24 dX3_spells_5 ?_
  refine fx_aload_n (pc := 8) (t := 3) F 0 rfl rfl dX3_spells_8 ?_
  refine fx_gI (pc := 9) F 3 4 4 rfl kC_X3 rfl wF_X3_142 dX3_spells_9 ?_
  refine fx_isub (pc := 12) F dX3_spells_12 ?_
  refine fx_nne (pc := 13) F 18 (by decide) dX3_spells_13 (fun c3 => ?_) (fun c3 => ?_)
  · have hf := (if_pos c3).symm.trans hf
    refine fx_iconst (pc := 16) F ⟨by decide, by decide⟩ dX3_spells_16 ?_
    cases hf
    exact fx_zreturn (pc := 17) F (Or.inl rfl) K dX3_spells_17
  · have hf := (if_neg c3).symm.trans hf
    refine fx_iconst (pc := 18) F ⟨by decide, by decide⟩ dX3_spells_18 ?_
    refine fx_istore_n (pc := 19) (ls' := [some (5, this_0), some (62, word_0), some (0, 0)]) F 2 rfl (by decide) rfl rfl dX3_spells_19 ?_
    obtain ⟨x9, e27, hf⟩ := fx_bnd hf
    have hE28 : (fun y : (Int) ⊕ (Int) => match y with | .inl z => fx_J M G Λ 3 55 [some (5, this_0), some (62, word_0), some (0, z)] [] h | .inr r9 => some r9 = some r) x9 := by
      cases x9 with
      | inr r9 => exact hf
      | inl y9 =>
        obtain ⟨i_26, hy9⟩ : ∃ y, y = y9 := ⟨_, rfl⟩
        subst hy9
        show fx_J M G Λ 3 55 [some (5, this_0), some (62, word_0), some (0, i_26)] [] h
        refine fx_iconst (pc := 55) F ⟨by decide, by decide⟩ dX3_spells_55 ?_
        cases hf
        exact fx_zreturn (pc := 56) F (Or.inr rfl) K dX3_spells_56
    refine fx_loop_J (Hd := (fun z : Int => fx_J M G Λ 3 20 [some (5, this_0), some (62, word_0), some (0, z)] [] h)) (Ex := (fun y : (Int) ⊕ (Int) => match y with | .inl z => fx_J M G Λ 3 55 [some (5, this_0), some (62, word_0), some (0, z)] [] h | .inr r9 => some r9 = some r)) ?_ Fu _ _ e27 hE28
    rintro i_16 o9 eq17 ih ex
    unfold s_X3_spells_1 at eq17
    show fx_J M G Λ 3 20 [some (5, this_0), some (62, word_0), some (0, i_16)] [] h
    refine fx_iload_n (pc := 20) F 2 rfl rfl dX3_spells_20 ?_
    refine fx_aload_n (pc := 21) (t := 60) F 1 rfl rfl dX3_spells_21 ?_
    obtain ⟨v18, e19, eq17⟩ := fx_bnd eq17
    refine fx_cX (pc := 22) F [] word_0 (fx_slen_w e19) [(0, i_16)] (m_J0_length Λ word_0 h _ e19) kD_J0_length_8abf5 kI_J0_length_8abf5 rfl wM_X3_156 ⟨rfl, rfl⟩ ⟨by decide, by decide⟩ (Nat.le_of_ble_eq_true rfl) rfl dX3_spells_22 ?_
    refine fx_nlt (pc := 25) F 55 (by decide) dX3_spells_25 (fun c20 => ?_) (fun c20 => ?_)
    · have eq17 := (if_pos c20).symm.trans eq17
      refine fx_aload_n (pc := 28) (t := 3) F 0 rfl rfl dX3_spells_28 ?_
      refine fx_gR (pc := 29) F 3 0 0 7 rfl kC_X3 (by decide) rfl wF_X3_9 dX3_spells_29 ?_
      refine fx_aload_n (pc := 32) (t := 3) F 0 rfl rfl dX3_spells_32 ?_
      refine fx_gI (pc := 33) F 3 4 4 rfl kC_X3 rfl wF_X3_142 dX3_spells_33 ?_
      refine fx_iload_n (pc := 36) F 2 rfl rfl dX3_spells_36 ?_
      refine fx_iadd (pc := 37) F dX3_spells_37 ?_
      obtain ⟨v21, e22, eq17⟩ := fx_bnd eq17
      refine fx_raldB (pc := 38) F e22 dX3_spells_38 ?_
      refine fx_aload_n (pc := 39) (t := 60) F 1 rfl rfl dX3_spells_39 ?_
      refine fx_iload_n (pc := 40) F 2 rfl rfl dX3_spells_40 ?_
      obtain ⟨v23, e24, eq17⟩ := fx_bnd eq17
      refine fx_cX (pc := 41) F [(0, i_16)] word_0 (fx_sch_w e24) [(0, v21)] (m_J0_charAt Λ word_0 i_16 h _ e24) kD_J0_charAt_5068e kI_J0_charAt_5068e rfl wM_X3_160 ⟨rfl, rfl⟩ ⟨by decide, by decide⟩ (Nat.le_of_ble_eq_true rfl) rfl dX3_spells_41 ?_
      refine fx_nne (pc := 44) F 49 (by decide) dX3_spells_44 (fun c25 => ?_) (fun c25 => ?_)
      · have eq17 := (if_pos c25).symm.trans eq17
        refine fx_iconst (pc := 47) F ⟨by decide, by decide⟩ dX3_spells_47 ?_
        cases eq17
        have q9 := ex _ rfl
        cases q9
        exact fx_zreturn (pc := 48) F (Or.inl rfl) K dX3_spells_48
      · have eq17 := (if_neg c25).symm.trans eq17
        refine fx_iinc (pc := 49) (ls' := [some (5, this_0), some (62, word_0), some (0, (fx_w (i_16 + 1)))]) F (by decide) rfl rfl rfl dX3_spells_49 ?_
        refine fx_goto (pc := 52) F 20 (by decide) dX3_spells_52 ?_
        cases eq17
        exact ih _ rfl
    · have eq17 := (if_neg c20).symm.trans eq17
      cases eq17
      exact ex _ rfl
def f_X3_figure (Fu : Nat) (Λ : fx_L) (this_0 : Int) (h : fx_H) : Option (Int) :=
  Option.bind (
    if (h this_0 4) < (h this_0 1) then
      (fx_rd Λ h (fx_tg Λ this_0 0) (h this_0 4)).bind fun v5 =>
      some (fx_w (v5 - 48))
    else
      some (-1 : Int)
  ) fun v1 =>
  some v1
abbrev rm_X3_figure : Room := { frames := 0, cells := 0, slots := 0, locals := 0 }
set_option maxRecDepth 100000 in
set_option maxHeartbeats 4000000 in
theorem m_X3_figure (Fu : Nat) (Λ : fx_L) (this_0 : Int) (h : fx_H) (r : Int) (hf : f_X3_figure Fu Λ this_0 h = some r) : fx_Met yX3_figure cX3_figure 1 (some .int) rm_X3_figure Λ [(5, this_0)] h (some (0, r)) h := by
  unfold f_X3_figure at hf
  refine fx_enter (ls := [some (5, this_0)]) (by decide) (Nat.le_of_ble_eq_true rfl) rfl (fun M G F K => ?_)
  obtain ⟨v1, e2, hf⟩ := fx_bnd hf
  have hJ3 : fx_J M G Λ 1 27 [some (5, this_0)] [(0, v1)] h := by
    cases hf
    exact fx_ireturn (pc := 27) F K dX3_figure_27
  refine fx_aload_n (pc := 0) (t := 3) F 0 rfl rfl dX3_figure_0 ?_
  refine fx_gI (pc := 1) F 3 4 4 rfl kC_X3 rfl wF_X3_142 dX3_figure_1 ?_
  refine fx_aload_n (pc := 4) (t := 3) F 0 rfl rfl dX3_figure_4 ?_
  refine fx_gI (pc := 5) F 3 1 1 rfl kC_X3 rfl wF_X3_15 dX3_figure_5 ?_
  refine fx_nlt (pc := 8) F 26 (by decide) dX3_figure_8 (fun c4 => ?_) (fun c4 => ?_)
  · have e2 := (if_pos c4).symm.trans e2
    refine fx_aload_n (pc := 11) (t := 3) F 0 rfl rfl dX3_figure_11 ?_
    refine fx_gR (pc := 12) F 3 0 0 7 rfl kC_X3 (by decide) rfl wF_X3_9 dX3_figure_12 ?_
    refine fx_aload_n (pc := 15) (t := 3) F 0 rfl rfl dX3_figure_15 ?_
    refine fx_gI (pc := 16) F 3 4 4 rfl kC_X3 rfl wF_X3_142 dX3_figure_16 ?_
    obtain ⟨v5, e6, e2⟩ := fx_bnd e2
    refine fx_raldB (pc := 19) F e6 dX3_figure_19 ?_
    refine fx_bipush (pc := 20) F ⟨by decide, by decide⟩ (by decide) dX3_figure_20 ?_
    refine fx_isub (pc := 22) F dX3_figure_22 ?_
    cases e2
    refine fx_goto (pc := 23) F 27 (by decide) dX3_figure_23 ?_
    exact hJ3
  · have e2 := (if_neg c4).symm.trans e2
    refine fx_iconst (pc := 26) F ⟨by decide, by decide⟩ dX3_figure_26 ?_
    cases e2
    exact hJ3
def f_X3_readThing (Fu : Nat) (Λ : fx_L) (this_0 : Int) (draft_0 : Int) (h : fx_H) : Option (fx_H) :=
  if 9 ≤ (h draft_0 0) then
    (f_X3_fail Fu Λ this_0 h).bind fun h2 =>
    some h2
  else
    (f_X3_nextToken Fu Λ this_0 h).bind fun h4 =>
    if (h4 this_0 3) = 2 then
      (f_X3_figure Fu Λ this_0 h4).bind fun v7 =>
      (f_X4_hasThing Fu Λ draft_0 v7 h4).bind fun v9 =>
      if v9 = 0 then
        (f_X3_fail Fu Λ this_0 h4).bind fun h12 =>
        some h12
      else
        (f_X3_nextToken Fu Λ this_0 h4).bind fun h14 =>
        if ¬ (h14 this_0 3) = 3 then
          (f_X3_fail Fu Λ this_0 h14).bind fun h17 =>
          some h17
        else
          (f_X4_addThing Fu Λ draft_0 v7 h14).bind fun h19 =>
          some h19
    else
      if ¬ (h4 this_0 3) = 3 then
        (f_X3_fail Fu Λ this_0 h4).bind fun h22 =>
        some h22
      else
        (f_X4_addThing Fu Λ draft_0 (-1) h4).bind fun h24 =>
        some h24
abbrev rm_X3_readThing : Room := { frames := 2, cells := 0, slots := 0, locals := 43 }
set_option maxRecDepth 100000 in
set_option maxHeartbeats 4000000 in
theorem m_X3_readThing (Fu : Nat) (Λ : fx_L) (this_0 : Int) (draft_0 : Int) (h : fx_H) (ho : fx_H) (hf : f_X3_readThing Fu Λ this_0 draft_0 h = some ho) : fx_Met yX3_readThing cX3_readThing 3 none rm_X3_readThing Λ [(5, this_0), (6, draft_0)] h none ho := by
  unfold f_X3_readThing at hf
  refine fx_enter (ls := [some (5, this_0), some (6, draft_0), none]) (by decide) (Nat.le_of_ble_eq_true rfl) rfl (fun M G F K => ?_)
  refine fx_aload_n (pc := 0) (t := 4) F 1 rfl rfl dX3_readThing_0 ?_
  refine fx_gI (pc := 1) F 4 0 0 rfl kC_X4 rfl wF_X3_91 dX3_readThing_1 ?_
  refine fx_bipush (pc := 4) F ⟨by decide, by decide⟩ (by decide) dX3_readThing_4 ?_
  refine fx_nge (pc := 6) F 14 (by decide) dX3_readThing_6 (fun c1 => ?_) (fun c1 => ?_)
  · have hf := (if_pos c1).symm.trans hf
    refine fx_aload_n (pc := 9) (t := 3) F 0 rfl rfl dX3_readThing_9 ?_
    obtain ⟨h2, e3, hf⟩ := fx_bnd hf
    refine fx_cVv (pc := 10) F 3 kC_X3 [] this_0 [] (m_X3_fail Fu Λ this_0 h _ e3) kD_X3_fail kI_X3_fail rfl wM_X3_44 ⟨rfl, rfl⟩ ⟨by decide, by decide⟩ (Nat.le_of_ble_eq_true rfl) rfl dX3_readThing_10 ?_
    cases hf
    exact fx_vreturn (pc := 13) F K dX3_readThing_13
  · have hf := (if_neg c1).symm.trans hf
    refine fx_iconst (pc := 14) F ⟨by decide, by decide⟩ dX3_readThing_14 ?_
    refine fx_istore_n (pc := 15) (ls' := [some (5, this_0), some (6, draft_0), some (0, (-1))]) F 2 rfl (by decide) rfl rfl dX3_readThing_15 ?_
    refine fx_aload_n (pc := 16) (t := 3) F 0 rfl rfl dX3_readThing_16 ?_
    obtain ⟨h4, e5, hf⟩ := fx_bnd hf
    refine fx_cVv (pc := 17) F 3 kC_X3 [] this_0 [] (m_X3_nextToken Fu Λ this_0 h _ e5) kD_X3_nextToken kI_X3_nextToken rfl wM_X3_34 ⟨rfl, rfl⟩ ⟨by decide, by decide⟩ (Nat.le_of_ble_eq_true rfl) rfl dX3_readThing_17 ?_
    refine fx_aload_n (pc := 20) (t := 3) F 0 rfl rfl dX3_readThing_20 ?_
    refine fx_gI (pc := 21) F 3 3 3 rfl kC_X3 rfl wF_X3_37 dX3_readThing_21 ?_
    refine fx_iconst (pc := 24) F ⟨by decide, by decide⟩ dX3_readThing_24 ?_
    refine fx_neq (pc := 25) F 50 (by decide) dX3_readThing_25 (fun c6 => ?_) (fun c6 => ?_)
    · have hf := (if_pos c6).symm.trans hf
      refine fx_aload_n (pc := 28) (t := 3) F 0 rfl rfl dX3_readThing_28 ?_
      obtain ⟨v7, e8, hf⟩ := fx_bnd hf
      refine fx_cV (pc := 29) F 3 kC_X3 [] this_0 [] (m_X3_figure Fu Λ this_0 h4 _ e8) kD_X3_figure kI_X3_figure rfl wM_X3_94 ⟨rfl, rfl⟩ ⟨by decide, by decide⟩ (Nat.le_of_ble_eq_true rfl) rfl dX3_readThing_29 ?_
      refine fx_istore_n (pc := 32) (ls' := [some (5, this_0), some (6, draft_0), some (0, v7)]) F 2 rfl (by decide) rfl rfl dX3_readThing_32 ?_
      refine fx_aload_n (pc := 33) (t := 4) F 1 rfl rfl dX3_readThing_33 ?_
      refine fx_iload_n (pc := 34) F 2 rfl rfl dX3_readThing_34 ?_
      obtain ⟨v9, e10, hf⟩ := fx_bnd hf
      refine fx_cV (pc := 35) F 4 kC_X4 [(0, v7)] draft_0 [] (m_X4_hasThing Fu Λ draft_0 v7 h4 _ e10) kD_X4_hasThing kI_X4_hasThing rfl wM_X3_98 ⟨rfl, rfl⟩ ⟨by decide, by decide⟩ (Nat.le_of_ble_eq_true rfl) rfl dX3_readThing_35 ?_
      refine fx_nzeq (pc := 38) F 46 (by decide) dX3_readThing_38 (fun c11 => ?_) (fun c11 => ?_)
      · have hf := (if_pos c11).symm.trans hf
        refine fx_aload_n (pc := 41) (t := 3) F 0 rfl rfl dX3_readThing_41 ?_
        obtain ⟨h12, e13, hf⟩ := fx_bnd hf
        refine fx_cVv (pc := 42) F 3 kC_X3 [] this_0 [] (m_X3_fail Fu Λ this_0 h4 _ e13) kD_X3_fail kI_X3_fail rfl wM_X3_44 ⟨rfl, rfl⟩ ⟨by decide, by decide⟩ (Nat.le_of_ble_eq_true rfl) rfl dX3_readThing_42 ?_
        cases hf
        exact fx_vreturn (pc := 45) F K dX3_readThing_45
      · have hf := (if_neg c11).symm.trans hf
        refine fx_aload_n (pc := 46) (t := 3) F 0 rfl rfl dX3_readThing_46 ?_
        obtain ⟨h14, e15, hf⟩ := fx_bnd hf
        refine fx_cVv (pc := 47) F 3 kC_X3 [] this_0 [] (m_X3_nextToken Fu Λ this_0 h4 _ e15) kD_X3_nextToken kI_X3_nextToken rfl wM_X3_34 ⟨rfl, rfl⟩ ⟨by decide, by decide⟩ (Nat.le_of_ble_eq_true rfl) rfl dX3_readThing_47 ?_
        refine fx_aload_n (pc := 50) (t := 3) F 0 rfl rfl dX3_readThing_50 ?_
        refine fx_gI (pc := 51) F 3 3 3 rfl kC_X3 rfl wF_X3_37 dX3_readThing_51 ?_
        refine fx_iconst (pc := 54) F ⟨by decide, by decide⟩ dX3_readThing_54 ?_
        refine fx_nne (pc := 55) F 63 (by decide) dX3_readThing_55 (fun c16 => ?_) (fun c16 => ?_)
        · have hf := (if_pos c16).symm.trans hf
          refine fx_aload_n (pc := 58) (t := 3) F 0 rfl rfl dX3_readThing_58 ?_
          obtain ⟨h17, e18, hf⟩ := fx_bnd hf
          refine fx_cVv (pc := 59) F 3 kC_X3 [] this_0 [] (m_X3_fail Fu Λ this_0 h14 _ e18) kD_X3_fail kI_X3_fail rfl wM_X3_44 ⟨rfl, rfl⟩ ⟨by decide, by decide⟩ (Nat.le_of_ble_eq_true rfl) rfl dX3_readThing_59 ?_
          cases hf
          exact fx_vreturn (pc := 62) F K dX3_readThing_62
        · have hf := (if_neg c16).symm.trans hf
          refine fx_aload_n (pc := 63) (t := 4) F 1 rfl rfl dX3_readThing_63 ?_
          refine fx_iload_n (pc := 64) F 2 rfl rfl dX3_readThing_64 ?_
          obtain ⟨h19, e20, hf⟩ := fx_bnd hf
          refine fx_cVv (pc := 65) F 4 kC_X4 [(0, v7)] draft_0 [] (m_X4_addThing Fu Λ draft_0 v7 h14 _ e20) kD_X4_addThing kI_X4_addThing rfl wM_X3_102 ⟨rfl, rfl⟩ ⟨by decide, by decide⟩ (Nat.le_of_ble_eq_true rfl) rfl dX3_readThing_65 ?_
          cases hf
          exact fx_vreturn (pc := 68) F K dX3_readThing_68
    · have hf := (if_neg c6).symm.trans hf
      refine fx_aload_n (pc := 50) (t := 3) F 0 rfl rfl dX3_readThing_50 ?_
      refine fx_gI (pc := 51) F 3 3 3 rfl kC_X3 rfl wF_X3_37 dX3_readThing_51 ?_
      refine fx_iconst (pc := 54) F ⟨by decide, by decide⟩ dX3_readThing_54 ?_
      refine fx_nne (pc := 55) F 63 (by decide) dX3_readThing_55 (fun c21 => ?_) (fun c21 => ?_)
      · have hf := (if_pos c21).symm.trans hf
        refine fx_aload_n (pc := 58) (t := 3) F 0 rfl rfl dX3_readThing_58 ?_
        obtain ⟨h22, e23, hf⟩ := fx_bnd hf
        refine fx_cVv (pc := 59) F 3 kC_X3 [] this_0 [] (m_X3_fail Fu Λ this_0 h4 _ e23) kD_X3_fail kI_X3_fail rfl wM_X3_44 ⟨rfl, rfl⟩ ⟨by decide, by decide⟩ (Nat.le_of_ble_eq_true rfl) rfl dX3_readThing_59 ?_
        cases hf
        exact fx_vreturn (pc := 62) F K dX3_readThing_62
      · have hf := (if_neg c21).symm.trans hf
        refine fx_aload_n (pc := 63) (t := 4) F 1 rfl rfl dX3_readThing_63 ?_
        refine fx_iload_n (pc := 64) F 2 rfl rfl dX3_readThing_64 ?_
        obtain ⟨h24, e25, hf⟩ := fx_bnd hf
        refine fx_cVv (pc := 65) F 4 kC_X4 [(0, (-1))] draft_0 [] (m_X4_addThing Fu Λ draft_0 (-1) h4 _ e25) kD_X4_addThing kI_X4_addThing rfl wM_X3_102 ⟨rfl, rfl⟩ ⟨by decide, by decide⟩ (Nat.le_of_ble_eq_true rfl) rfl dX3_readThing_65 ?_
        cases hf
        exact fx_vreturn (pc := 68) F K dX3_readThing_68
def f_X3_number (Fu : Nat) (Λ : fx_L) (this_0 : Int) (low_0 : Int) (high_0 : Int) (h : fx_H) : Option (Int × fx_H) :=
  if ¬ (h this_0 5) = (-1) then
    some ((-1), h)
  else
    (f_X3_nextToken Fu Λ this_0 h).bind fun h2 =>
    Option.bind (
      if ¬ (h2 this_0 3) = 2 then
        some true
      else
        (f_X3_figure Fu Λ this_0 h2).bind fun v9 =>
        (f_X5_within Fu Λ v9 low_0 high_0 h2).bind fun v11 =>
        if v11 = 0 then
          some true
        else
          some false
    ) fun b4 =>
    if b4 = true then
      (f_X3_fail Fu Λ this_0 h2).bind fun h15 =>
      some ((-1), h15)
    else
      (f_X3_figure Fu Λ this_0 h2).bind fun v17 =>
      some (v17, h2)
abbrev rm_X3_number : Room := { frames := 2, cells := 0, slots := 0, locals := 41 }
set_option maxRecDepth 100000 in
set_option maxHeartbeats 4000000 in
theorem m_X3_number (Fu : Nat) (Λ : fx_L) (this_0 : Int) (low_0 : Int) (high_0 : Int) (h : fx_H) (r : Int) (ho : fx_H) (hf : f_X3_number Fu Λ this_0 low_0 high_0 h = some (r, ho)) : fx_Met yX3_number cX3_number 3 (some .int) rm_X3_number Λ [(5, this_0), (0, low_0), (0, high_0)] h (some (0, r)) ho := by
  unfold f_X3_number at hf
  refine fx_enter (ls := [some (5, this_0), some (0, low_0), some (0, high_0)]) (by decide) (Nat.le_of_ble_eq_true rfl) rfl (fun M G F K => ?_)
  refine fx_aload_n (pc := 0) (t := 3) F 0 rfl rfl dX3_number_0 ?_
  refine fx_gI (pc := 1) F 3 5 5 rfl kC_X3 rfl wF_X3_27 dX3_number_1 ?_
  refine fx_iconst (pc := 4) F ⟨by decide, by decide⟩ dX3_number_4 ?_
  refine fx_nne (pc := 5) F 10 (by decide) dX3_number_5 (fun c1 => ?_) (fun c1 => ?_)
  · have hf := (if_pos c1).symm.trans hf
    refine fx_iconst (pc := 8) F ⟨by decide, by decide⟩ dX3_number_8 ?_
    cases hf
    exact fx_ireturn (pc := 9) F K dX3_number_9
  · have hf := (if_neg c1).symm.trans hf
    refine fx_aload_n (pc := 10) (t := 3) F 0 rfl rfl dX3_number_10 ?_
    obtain ⟨h2, e3, hf⟩ := fx_bnd hf
    refine fx_cVv (pc := 11) F 3 kC_X3 [] this_0 [] (m_X3_nextToken Fu Λ this_0 h _ e3) kD_X3_nextToken kI_X3_nextToken rfl wM_X3_34 ⟨rfl, rfl⟩ ⟨by decide, by decide⟩ (Nat.le_of_ble_eq_true rfl) rfl dX3_number_11 ?_
    obtain ⟨b4, e5, hf⟩ := fx_bnd hf
    have hT6 : b4 = true → fx_J M G Λ 3 34 [some (5, this_0), some (0, low_0), some (0, high_0)] [] h2 := fun c14 => by
      have hf := (if_pos c14).symm.trans hf
      refine fx_aload_n (pc := 34) (t := 3) F 0 rfl rfl dX3_number_34 ?_
      obtain ⟨h15, e16, hf⟩ := fx_bnd hf
      refine fx_cVv (pc := 35) F 3 kC_X3 [] this_0 [] (m_X3_fail Fu Λ this_0 h2 _ e16) kD_X3_fail kI_X3_fail rfl wM_X3_44 ⟨rfl, rfl⟩ ⟨by decide, by decide⟩ (Nat.le_of_ble_eq_true rfl) rfl dX3_number_35 ?_
      refine fx_iconst (pc := 38) F ⟨by decide, by decide⟩ dX3_number_38 ?_
      cases hf
      exact fx_ireturn (pc := 39) F K dX3_number_39
    have hF7 : ¬ b4 = true → fx_J M G Λ 3 40 [some (5, this_0), some (0, low_0), some (0, high_0)] [] h2 := fun c14 => by
      have hf := (if_neg c14).symm.trans hf
      refine fx_aload_n (pc := 40) (t := 3) F 0 rfl rfl dX3_number_40 ?_
      obtain ⟨v17, e18, hf⟩ := fx_bnd hf
      refine fx_cV (pc := 41) F 3 kC_X3 [] this_0 [] (m_X3_figure Fu Λ this_0 h2 _ e18) kD_X3_figure kI_X3_figure rfl wM_X3_94 ⟨rfl, rfl⟩ ⟨by decide, by decide⟩ (Nat.le_of_ble_eq_true rfl) rfl dX3_number_41 ?_
      cases hf
      exact fx_ireturn (pc := 44) F K dX3_number_44
    refine fx_aload_n (pc := 14) (t := 3) F 0 rfl rfl dX3_number_14 ?_
    refine fx_gI (pc := 15) F 3 3 3 rfl kC_X3 rfl wF_X3_37 dX3_number_15 ?_
    refine fx_iconst (pc := 18) F ⟨by decide, by decide⟩ dX3_number_18 ?_
    refine fx_jne (pc := 19) F 34 (by decide) dX3_number_19 (fun c8 => ?_) (fun c8 => ?_)
    · have e5 := (if_pos c8).symm.trans e5
      cases e5
      exact hT6 (by decide)
    · have e5 := (if_neg c8).symm.trans e5
      refine fx_aload_n (pc := 22) (t := 3) F 0 rfl rfl dX3_number_22 ?_
      obtain ⟨v9, e10, e5⟩ := fx_bnd e5
      refine fx_cV (pc := 23) F 3 kC_X3 [] this_0 [] (m_X3_figure Fu Λ this_0 h2 _ e10) kD_X3_figure kI_X3_figure rfl wM_X3_94 ⟨rfl, rfl⟩ ⟨by decide, by decide⟩ (Nat.le_of_ble_eq_true rfl) rfl dX3_number_23 ?_
      refine fx_iload_n (pc := 26) F 1 rfl rfl dX3_number_26 ?_
      refine fx_iload_n (pc := 27) F 2 rfl rfl dX3_number_27 ?_
      obtain ⟨v11, e12, e5⟩ := fx_bnd e5
      refine fx_cN (pc := 28) F [(0, v9), (0, low_0), (0, high_0)] [] (m_X5_within Fu Λ v9 low_0 high_0 h2 _ e12) kD_X5_within wSt_X5_within (by decide) ⟨rfl, rfl⟩ ⟨by decide, by decide⟩ (Nat.le_of_ble_eq_true rfl) rfl dX3_number_28 ?_
      refine fx_nzeq (pc := 31) F 40 (by decide) dX3_number_31 (fun c13 => ?_) (fun c13 => ?_)
      · have e5 := (if_pos c13).symm.trans e5
        cases e5
        exact hT6 (by decide)
      · have e5 := (if_neg c13).symm.trans e5
        cases e5
        exact hF7 (by decide)
def f_X3_stops (Fu : Nat) (Λ : fx_L) (this_0 : Int) (h : fx_H) : Option (Int × fx_H) :=
  Option.bind (
    if (h this_0 5) = (-1) then
      (f_X3_nextToken Fu Λ this_0 h).bind fun h5 =>
      Option.bind (
        if ¬ (h5 this_0 3) = 3 then
          (f_X3_fail Fu Λ this_0 h5).bind fun h11 =>
          some h11
        else
          some h5
      ) fun h7 =>
      some h7
    else
      some h
  ) fun h1 =>
  Option.bind (
    if (h1 this_0 5) = (-1) then
      some (1 : Int)
    else
      some (0 : Int)
  ) fun v13 =>
  (fx_zb v13).bind fun z17 =>
  some (z17, h1)
abbrev rm_X3_stops : Room := { frames := 2, cells := 0, slots := 0, locals := 41 }
set_option maxRecDepth 100000 in
set_option maxHeartbeats 4000000 in
theorem m_X3_stops (Fu : Nat) (Λ : fx_L) (this_0 : Int) (h : fx_H) (r : Int) (ho : fx_H) (hf : f_X3_stops Fu Λ this_0 h = some (r, ho)) : fx_Met yX3_stops cX3_stops 1 (some .boolean) rm_X3_stops Λ [(5, this_0)] h (some (0, r)) ho := by
  unfold f_X3_stops at hf
  refine fx_enter (ls := [some (5, this_0)]) (by decide) (Nat.le_of_ble_eq_true rfl) rfl (fun M G F K => ?_)
  obtain ⟨h1, e2, hf⟩ := fx_bnd hf
  have hJ3 : fx_J M G Λ 1 24 [some (5, this_0)] [] h1 := by
    obtain ⟨v13, e14, hf⟩ := fx_bnd hf
    have hJ15 : fx_J M G Λ 1 37 [some (5, this_0)] [(0, v13)] h1 := by
      obtain ⟨z17, e18, hf⟩ := fx_bnd hf
      obtain ⟨e18, hzz17⟩ := fx_zb_use e18
      refine fx_top (X := fx_X) e18 ?_
      cases hf
      exact fx_zreturn (pc := 37) F hzz17 K dX3_stops_37
    refine fx_aload_n (pc := 24) (t := 3) F 0 rfl rfl dX3_stops_24 ?_
    refine fx_gI (pc := 25) F 3 5 5 rfl kC_X3 rfl wF_X3_27 dX3_stops_25 ?_
    refine fx_iconst (pc := 28) F ⟨by decide, by decide⟩ dX3_stops_28 ?_
    refine fx_neq (pc := 29) F 36 (by decide) dX3_stops_29 (fun c16 => ?_) (fun c16 => ?_)
    · have e14 := (if_pos c16).symm.trans e14
      refine fx_iconst (pc := 32) F ⟨by decide, by decide⟩ dX3_stops_32 ?_
      cases e14
      refine fx_goto (pc := 33) F 37 (by decide) dX3_stops_33 ?_
      exact hJ15
    · have e14 := (if_neg c16).symm.trans e14
      refine fx_iconst (pc := 36) F ⟨by decide, by decide⟩ dX3_stops_36 ?_
      cases e14
      exact hJ15
  refine fx_aload_n (pc := 0) (t := 3) F 0 rfl rfl dX3_stops_0 ?_
  refine fx_gI (pc := 1) F 3 5 5 rfl kC_X3 rfl wF_X3_27 dX3_stops_1 ?_
  refine fx_iconst (pc := 4) F ⟨by decide, by decide⟩ dX3_stops_4 ?_
  refine fx_neq (pc := 5) F 24 (by decide) dX3_stops_5 (fun c4 => ?_) (fun c4 => ?_)
  · have e2 := (if_pos c4).symm.trans e2
    refine fx_aload_n (pc := 8) (t := 3) F 0 rfl rfl dX3_stops_8 ?_
    obtain ⟨h5, e6, e2⟩ := fx_bnd e2
    refine fx_cVv (pc := 9) F 3 kC_X3 [] this_0 [] (m_X3_nextToken Fu Λ this_0 h _ e6) kD_X3_nextToken kI_X3_nextToken rfl wM_X3_34 ⟨rfl, rfl⟩ ⟨by decide, by decide⟩ (Nat.le_of_ble_eq_true rfl) rfl dX3_stops_9 ?_
    obtain ⟨h7, e8, e2⟩ := fx_bnd e2
    have hJ9 : fx_J M G Λ 1 24 [some (5, this_0)] [] h7 := by
      cases e2
      exact hJ3
    refine fx_aload_n (pc := 12) (t := 3) F 0 rfl rfl dX3_stops_12 ?_
    refine fx_gI (pc := 13) F 3 3 3 rfl kC_X3 rfl wF_X3_37 dX3_stops_13 ?_
    refine fx_iconst (pc := 16) F ⟨by decide, by decide⟩ dX3_stops_16 ?_
    refine fx_nne (pc := 17) F 24 (by decide) dX3_stops_17 (fun c10 => ?_) (fun c10 => ?_)
    · have e8 := (if_pos c10).symm.trans e8
      refine fx_aload_n (pc := 20) (t := 3) F 0 rfl rfl dX3_stops_20 ?_
      obtain ⟨h11, e12, e8⟩ := fx_bnd e8
      refine fx_cVv (pc := 21) F 3 kC_X3 [] this_0 [] (m_X3_fail Fu Λ this_0 h5 _ e12) kD_X3_fail kI_X3_fail rfl wM_X3_44 ⟨rfl, rfl⟩ ⟨by decide, by decide⟩ (Nat.le_of_ble_eq_true rfl) rfl dX3_stops_21 ?_
      cases e8
      exact hJ9
    · have e8 := (if_neg c10).symm.trans e8
      cases e8
      exact hJ9
  · have e2 := (if_neg c4).symm.trans e2
    cases e2
    exact hJ3
def f_X3_readPeople (Fu : Nat) (Λ : fx_L) (this_0 : Int) (draft_0 : Int) (h : fx_H) : Option (fx_H) :=
  Option.bind (
    if ¬ (h this_0 6) = 0 then
      (f_X3_fail Fu Λ this_0 h).bind fun h5 =>
      some h5
    else
      some h
  ) fun h1 =>
  (f_X3_number Fu Λ this_0 1 5 h1).bind fun (v7, h8) =>
  (f_X3_stops Fu Λ this_0 h8).bind fun (v10, h11) =>
  if ¬ v10 = 0 then
    some (fx_up h11 draft_0 2 v7)
  else
    some h11
abbrev rm_X3_readPeople : Room := { frames := 3, cells := 0, slots := 0, locals := 63 }
set_option maxRecDepth 100000 in
set_option maxHeartbeats 4000000 in
theorem m_X3_readPeople (Fu : Nat) (Λ : fx_L) (this_0 : Int) (draft_0 : Int) (h : fx_H) (ho : fx_H) (hf : f_X3_readPeople Fu Λ this_0 draft_0 h = some ho) : fx_Met yX3_readPeople cX3_readPeople 3 none rm_X3_readPeople Λ [(5, this_0), (6, draft_0)] h none ho := by
  unfold f_X3_readPeople at hf
  refine fx_enter (ls := [some (5, this_0), some (6, draft_0), none]) (by decide) (Nat.le_of_ble_eq_true rfl) rfl (fun M G F K => ?_)
  obtain ⟨h1, e2, hf⟩ := fx_bnd hf
  have hJ3 : fx_J M G Λ 3 11 [some (5, this_0), some (6, draft_0), none] [] h1 := by
    refine fx_aload_n (pc := 11) (t := 3) F 0 rfl rfl dX3_readPeople_11 ?_
    refine fx_iconst (pc := 12) F ⟨by decide, by decide⟩ dX3_readPeople_12 ?_
    refine fx_iconst (pc := 13) F ⟨by decide, by decide⟩ dX3_readPeople_13 ?_
    obtain ⟨⟨v7, h8⟩, e9, hf⟩ := fx_bnd hf
    refine fx_cV (pc := 14) F 3 kC_X3 [(0, 1), (0, 5)] this_0 [] (m_X3_number Fu Λ this_0 1 5 h1 _ _ e9) kD_X3_number kI_X3_number rfl wM_X3_106 ⟨rfl, rfl⟩ ⟨by decide, by decide⟩ (Nat.le_of_ble_eq_true rfl) rfl dX3_readPeople_14 ?_
    refine fx_istore_n (pc := 17) (ls' := [some (5, this_0), some (6, draft_0), some (0, v7)]) F 2 rfl (by decide) rfl rfl dX3_readPeople_17 ?_
    refine fx_aload_n (pc := 18) (t := 3) F 0 rfl rfl dX3_readPeople_18 ?_
    obtain ⟨⟨v10, h11⟩, e12, hf⟩ := fx_bnd hf
    refine fx_cV (pc := 19) F 3 kC_X3 [] this_0 [] (m_X3_stops Fu Λ this_0 h8 _ _ e12) kD_X3_stops kI_X3_stops rfl wM_X3_110 ⟨rfl, rfl⟩ ⟨by decide, by decide⟩ (Nat.le_of_ble_eq_true rfl) rfl dX3_readPeople_19 ?_
    refine fx_nzne (pc := 22) F 30 (by decide) dX3_readPeople_22 (fun c13 => ?_) (fun c13 => ?_)
    · have hf := (if_pos c13).symm.trans hf
      refine fx_aload_n (pc := 25) (t := 4) F 1 rfl rfl dX3_readPeople_25 ?_
      refine fx_iload_n (pc := 26) F 2 rfl rfl dX3_readPeople_26 ?_
      refine fx_pI (pc := 27) F 4 2 2 rfl kC_X4 rfl rfl (by decide +kernel) wF_X3_114 dX3_readPeople_27 ?_
      cases hf
      exact fx_vreturn (pc := 30) F K dX3_readPeople_30
    · have hf := (if_neg c13).symm.trans hf
      cases hf
      exact fx_vreturn (pc := 30) F K dX3_readPeople_30
  refine fx_aload_n (pc := 0) (t := 3) F 0 rfl rfl dX3_readPeople_0 ?_
  refine fx_gI (pc := 1) F 3 6 6 rfl kC_X3 rfl wF_X3_30 dX3_readPeople_1 ?_
  refine fx_nzne (pc := 4) F 11 (by decide) dX3_readPeople_4 (fun c4 => ?_) (fun c4 => ?_)
  · have e2 := (if_pos c4).symm.trans e2
    refine fx_aload_n (pc := 7) (t := 3) F 0 rfl rfl dX3_readPeople_7 ?_
    obtain ⟨h5, e6, e2⟩ := fx_bnd e2
    refine fx_cVv (pc := 8) F 3 kC_X3 [] this_0 [] (m_X3_fail Fu Λ this_0 h _ e6) kD_X3_fail kI_X3_fail rfl wM_X3_44 ⟨rfl, rfl⟩ ⟨by decide, by decide⟩ (Nat.le_of_ble_eq_true rfl) rfl dX3_readPeople_8 ?_
    cases e2
    exact hJ3
  · have e2 := (if_neg c4).symm.trans e2
    cases e2
    exact hJ3
def f_X3_readHours (Fu : Nat) (Λ : fx_L) (this_0 : Int) (draft_0 : Int) (h : fx_H) : Option (fx_H) :=
  Option.bind (
    if ¬ (h this_0 6) = 0 then
      (f_X3_fail Fu Λ this_0 h).bind fun h5 =>
      some h5
    else
      some h
  ) fun h1 =>
  (f_X3_number Fu Λ this_0 1 5 h1).bind fun (v7, h8) =>
  (f_X3_stops Fu Λ this_0 h8).bind fun (v10, h11) =>
  if ¬ v10 = 0 then
    some (fx_up h11 draft_0 3 v7)
  else
    some h11
abbrev rm_X3_readHours : Room := { frames := 3, cells := 0, slots := 0, locals := 63 }
set_option maxRecDepth 100000 in
set_option maxHeartbeats 4000000 in
theorem m_X3_readHours (Fu : Nat) (Λ : fx_L) (this_0 : Int) (draft_0 : Int) (h : fx_H) (ho : fx_H) (hf : f_X3_readHours Fu Λ this_0 draft_0 h = some ho) : fx_Met yX3_readHours cX3_readHours 3 none rm_X3_readHours Λ [(5, this_0), (6, draft_0)] h none ho := by
  unfold f_X3_readHours at hf
  refine fx_enter (ls := [some (5, this_0), some (6, draft_0), none]) (by decide) (Nat.le_of_ble_eq_true rfl) rfl (fun M G F K => ?_)
  obtain ⟨h1, e2, hf⟩ := fx_bnd hf
  have hJ3 : fx_J M G Λ 3 11 [some (5, this_0), some (6, draft_0), none] [] h1 := by
    refine fx_aload_n (pc := 11) (t := 3) F 0 rfl rfl dX3_readHours_11 ?_
    refine fx_iconst (pc := 12) F ⟨by decide, by decide⟩ dX3_readHours_12 ?_
    refine fx_iconst (pc := 13) F ⟨by decide, by decide⟩ dX3_readHours_13 ?_
    obtain ⟨⟨v7, h8⟩, e9, hf⟩ := fx_bnd hf
    refine fx_cV (pc := 14) F 3 kC_X3 [(0, 1), (0, 5)] this_0 [] (m_X3_number Fu Λ this_0 1 5 h1 _ _ e9) kD_X3_number kI_X3_number rfl wM_X3_106 ⟨rfl, rfl⟩ ⟨by decide, by decide⟩ (Nat.le_of_ble_eq_true rfl) rfl dX3_readHours_14 ?_
    refine fx_istore_n (pc := 17) (ls' := [some (5, this_0), some (6, draft_0), some (0, v7)]) F 2 rfl (by decide) rfl rfl dX3_readHours_17 ?_
    refine fx_aload_n (pc := 18) (t := 3) F 0 rfl rfl dX3_readHours_18 ?_
    obtain ⟨⟨v10, h11⟩, e12, hf⟩ := fx_bnd hf
    refine fx_cV (pc := 19) F 3 kC_X3 [] this_0 [] (m_X3_stops Fu Λ this_0 h8 _ _ e12) kD_X3_stops kI_X3_stops rfl wM_X3_110 ⟨rfl, rfl⟩ ⟨by decide, by decide⟩ (Nat.le_of_ble_eq_true rfl) rfl dX3_readHours_19 ?_
    refine fx_nzne (pc := 22) F 30 (by decide) dX3_readHours_22 (fun c13 => ?_) (fun c13 => ?_)
    · have hf := (if_pos c13).symm.trans hf
      refine fx_aload_n (pc := 25) (t := 4) F 1 rfl rfl dX3_readHours_25 ?_
      refine fx_iload_n (pc := 26) F 2 rfl rfl dX3_readHours_26 ?_
      refine fx_pI (pc := 27) F 4 3 3 rfl kC_X4 rfl rfl (by decide +kernel) wF_X3_116 dX3_readHours_27 ?_
      cases hf
      exact fx_vreturn (pc := 30) F K dX3_readHours_30
    · have hf := (if_neg c13).symm.trans hf
      cases hf
      exact fx_vreturn (pc := 30) F K dX3_readHours_30
  refine fx_aload_n (pc := 0) (t := 3) F 0 rfl rfl dX3_readHours_0 ?_
  refine fx_gI (pc := 1) F 3 6 6 rfl kC_X3 rfl wF_X3_30 dX3_readHours_1 ?_
  refine fx_nzne (pc := 4) F 11 (by decide) dX3_readHours_4 (fun c4 => ?_) (fun c4 => ?_)
  · have e2 := (if_pos c4).symm.trans e2
    refine fx_aload_n (pc := 7) (t := 3) F 0 rfl rfl dX3_readHours_7 ?_
    obtain ⟨h5, e6, e2⟩ := fx_bnd e2
    refine fx_cVv (pc := 8) F 3 kC_X3 [] this_0 [] (m_X3_fail Fu Λ this_0 h _ e6) kD_X3_fail kI_X3_fail rfl wM_X3_44 ⟨rfl, rfl⟩ ⟨by decide, by decide⟩ (Nat.le_of_ble_eq_true rfl) rfl dX3_readHours_8 ?_
    cases e2
    exact hJ3
  · have e2 := (if_neg c4).symm.trans e2
    cases e2
    exact hJ3
def f_X3_readHour (Fu : Nat) (Λ : fx_L) (this_0 : Int) (draft_0 : Int) (h : fx_H) : Option (fx_H) :=
  (f_X3_number Fu Λ this_0 0 (fx_w (((fx_up h this_0 6 1) draft_0 3) - 1)) (fx_up h this_0 6 1)).bind fun (v1, h2) =>
  (f_X3_number Fu Λ this_0 0 5 h2).bind fun (v4, h5) =>
  Option.bind (
    (f_X3_stops Fu Λ this_0 h5).bind fun (v12, h13) =>
    if ¬ v12 = 0 then
      (f_X4_hasHour Fu Λ draft_0 v1 h13).bind fun v16 =>
      if ¬ v16 = 0 then
        some (true, h13)
      else
        some (false, h13)
    else
      some (false, h13)
  ) fun (b7, h11) =>
  if b7 = true then
    (fx_wr Λ h11 (fx_tg Λ draft_0 7) v1 v4).bind fun h20 =>
    some h20
  else
    some h11
abbrev rm_X3_readHour : Room := { frames := 3, cells := 0, slots := 0, locals := 63 }
set_option maxRecDepth 100000 in
set_option maxHeartbeats 4000000 in
theorem m_X3_readHour (Fu : Nat) (Λ : fx_L) (this_0 : Int) (draft_0 : Int) (h : fx_H) (ho : fx_H) (hf : f_X3_readHour Fu Λ this_0 draft_0 h = some ho) : fx_Met yX3_readHour cX3_readHour 4 none rm_X3_readHour Λ [(5, this_0), (6, draft_0)] h none ho := by
  unfold f_X3_readHour at hf
  refine fx_enter (ls := [some (5, this_0), some (6, draft_0), none, none]) (by decide) (Nat.le_of_ble_eq_true rfl) rfl (fun M G F K => ?_)
  refine fx_aload_n (pc := 0) (t := 3) F 0 rfl rfl dX3_readHour_0 ?_
  refine fx_iconst (pc := 1) F ⟨by decide, by decide⟩ dX3_readHour_1 ?_
  refine fx_pZ (pc := 2) F 3 6 6 rfl kC_X3 rfl rfl (by decide +kernel) wF_X3_30 (Or.inr rfl) dX3_readHour_2 ?_
  refine fx_aload_n (pc := 5) (t := 3) F 0 rfl rfl dX3_readHour_5 ?_
  refine fx_iconst (pc := 6) F ⟨by decide, by decide⟩ dX3_readHour_6 ?_
  refine fx_aload_n (pc := 7) (t := 4) F 1 rfl rfl dX3_readHour_7 ?_
  refine fx_gI (pc := 8) F 4 3 3 rfl kC_X4 rfl wF_X3_116 dX3_readHour_8 ?_
  refine fx_iconst (pc := 11) F ⟨by decide, by decide⟩ dX3_readHour_11 ?_
  refine fx_isub (pc := 12) F dX3_readHour_12 ?_
  obtain ⟨⟨v1, h2⟩, e3, hf⟩ := fx_bnd hf
  refine fx_cV (pc := 13) F 3 kC_X3 [(0, 0), (0, (fx_w (((fx_up h this_0 6 1) draft_0 3) - 1)))] this_0 [] (m_X3_number Fu Λ this_0 0 (fx_w (((fx_up h this_0 6 1) draft_0 3) - 1)) (fx_up h this_0 6 1) _ _ e3) kD_X3_number kI_X3_number rfl wM_X3_106 ⟨rfl, rfl⟩ ⟨by decide, by decide⟩ (Nat.le_of_ble_eq_true rfl) rfl dX3_readHour_13 ?_
  refine fx_istore_n (pc := 16) (ls' := [some (5, this_0), some (6, draft_0), some (0, v1), none]) F 2 rfl (by decide) rfl rfl dX3_readHour_16 ?_
  refine fx_aload_n (pc := 17) (t := 3) F 0 rfl rfl dX3_readHour_17 ?_
  refine fx_iconst (pc := 18) F ⟨by decide, by decide⟩ dX3_readHour_18 ?_
  refine fx_iconst (pc := 19) F ⟨by decide, by decide⟩ dX3_readHour_19 ?_
  obtain ⟨⟨v4, h5⟩, e6, hf⟩ := fx_bnd hf
  refine fx_cV (pc := 20) F 3 kC_X3 [(0, 0), (0, 5)] this_0 [] (m_X3_number Fu Λ this_0 0 5 h2 _ _ e6) kD_X3_number kI_X3_number rfl wM_X3_106 ⟨rfl, rfl⟩ ⟨by decide, by decide⟩ (Nat.le_of_ble_eq_true rfl) rfl dX3_readHour_20 ?_
  refine fx_istore_n (pc := 23) (ls' := [some (5, this_0), some (6, draft_0), some (0, v1), some (0, v4)]) F 3 rfl (by decide) rfl rfl dX3_readHour_23 ?_
  obtain ⟨⟨b7, h11⟩, e8, hf⟩ := fx_bnd hf
  have hT9 : b7 = true → fx_J M G Λ 4 39 [some (5, this_0), some (6, draft_0), some (0, v1), some (0, v4)] [] h11 := fun c19 => by
    have hf := (if_pos c19).symm.trans hf
    refine fx_aload_n (pc := 39) (t := 4) F 1 rfl rfl dX3_readHour_39 ?_
    refine fx_gR (pc := 40) F 4 7 7 8 rfl kC_X4 (by decide) rfl wF_X3_121 dX3_readHour_40 ?_
    refine fx_iload_n (pc := 43) F 2 rfl rfl dX3_readHour_43 ?_
    refine fx_iload_n (pc := 44) F 3 rfl rfl dX3_readHour_44 ?_
    obtain ⟨h20, e21, hf⟩ := fx_bnd hf
    refine fx_rastI (pc := 45) F e21 dX3_readHour_45 ?_
    cases hf
    exact fx_vreturn (pc := 46) F K dX3_readHour_46
  have hF10 : ¬ b7 = true → fx_J M G Λ 4 46 [some (5, this_0), some (6, draft_0), some (0, v1), some (0, v4)] [] h11 := fun c19 => by
    have hf := (if_neg c19).symm.trans hf
    cases hf
    exact fx_vreturn (pc := 46) F K dX3_readHour_46
  refine fx_aload_n (pc := 24) (t := 3) F 0 rfl rfl dX3_readHour_24 ?_
  obtain ⟨⟨v12, h13⟩, e14, e8⟩ := fx_bnd e8
  refine fx_cV (pc := 25) F 3 kC_X3 [] this_0 [] (m_X3_stops Fu Λ this_0 h5 _ _ e14) kD_X3_stops kI_X3_stops rfl wM_X3_110 ⟨rfl, rfl⟩ ⟨by decide, by decide⟩ (Nat.le_of_ble_eq_true rfl) rfl dX3_readHour_25 ?_
  refine fx_nzne (pc := 28) F 46 (by decide) dX3_readHour_28 (fun c15 => ?_) (fun c15 => ?_)
  · have e8 := (if_pos c15).symm.trans e8
    refine fx_aload_n (pc := 31) (t := 4) F 1 rfl rfl dX3_readHour_31 ?_
    refine fx_iload_n (pc := 32) F 2 rfl rfl dX3_readHour_32 ?_
    obtain ⟨v16, e17, e8⟩ := fx_bnd e8
    refine fx_cV (pc := 33) F 4 kC_X4 [(0, v1)] draft_0 [] (m_X4_hasHour Fu Λ draft_0 v1 h13 _ e17) kD_X4_hasHour kI_X4_hasHour rfl wM_X3_118 ⟨rfl, rfl⟩ ⟨by decide, by decide⟩ (Nat.le_of_ble_eq_true rfl) rfl dX3_readHour_33 ?_
    refine fx_nzne (pc := 36) F 46 (by decide) dX3_readHour_36 (fun c18 => ?_) (fun c18 => ?_)
    · have e8 := (if_pos c18).symm.trans e8
      cases e8
      exact hT9 (by decide)
    · have e8 := (if_neg c18).symm.trans e8
      cases e8
      exact hF10 (by decide)
  · have e8 := (if_neg c15).symm.trans e8
    cases e8
    exact hF10 (by decide)
def f_X3_readLine (Fu : Nat) (Λ : fx_L) (this_0 : Int) (draft_0 : Int) (h : fx_H) : Option (fx_H) :=
  (f_X3_number Fu Λ this_0 0 4 h).bind fun (v1, h2) =>
  (f_X3_stops Fu Λ this_0 h2).bind fun (v4, h5) =>
  if ¬ v4 = 0 then
    some (fx_up h5 draft_0 1 v1)
  else
    some h5
abbrev rm_X3_readLine : Room := { frames := 3, cells := 0, slots := 0, locals := 63 }
set_option maxRecDepth 100000 in
set_option maxHeartbeats 4000000 in
theorem m_X3_readLine (Fu : Nat) (Λ : fx_L) (this_0 : Int) (draft_0 : Int) (h : fx_H) (ho : fx_H) (hf : f_X3_readLine Fu Λ this_0 draft_0 h = some ho) : fx_Met yX3_readLine cX3_readLine 3 none rm_X3_readLine Λ [(5, this_0), (6, draft_0)] h none ho := by
  unfold f_X3_readLine at hf
  refine fx_enter (ls := [some (5, this_0), some (6, draft_0), none]) (by decide) (Nat.le_of_ble_eq_true rfl) rfl (fun M G F K => ?_)
  refine fx_aload_n (pc := 0) (t := 3) F 0 rfl rfl dX3_readLine_0 ?_
  refine fx_iconst (pc := 1) F ⟨by decide, by decide⟩ dX3_readLine_1 ?_
  refine fx_iconst (pc := 2) F ⟨by decide, by decide⟩ dX3_readLine_2 ?_
  obtain ⟨⟨v1, h2⟩, e3, hf⟩ := fx_bnd hf
  refine fx_cV (pc := 3) F 3 kC_X3 [(0, 0), (0, 4)] this_0 [] (m_X3_number Fu Λ this_0 0 4 h _ _ e3) kD_X3_number kI_X3_number rfl wM_X3_106 ⟨rfl, rfl⟩ ⟨by decide, by decide⟩ (Nat.le_of_ble_eq_true rfl) rfl dX3_readLine_3 ?_
  refine fx_istore_n (pc := 6) (ls' := [some (5, this_0), some (6, draft_0), some (0, v1)]) F 2 rfl (by decide) rfl rfl dX3_readLine_6 ?_
  refine fx_aload_n (pc := 7) (t := 3) F 0 rfl rfl dX3_readLine_7 ?_
  obtain ⟨⟨v4, h5⟩, e6, hf⟩ := fx_bnd hf
  refine fx_cV (pc := 8) F 3 kC_X3 [] this_0 [] (m_X3_stops Fu Λ this_0 h2 _ _ e6) kD_X3_stops kI_X3_stops rfl wM_X3_110 ⟨rfl, rfl⟩ ⟨by decide, by decide⟩ (Nat.le_of_ble_eq_true rfl) rfl dX3_readLine_8 ?_
  refine fx_nzne (pc := 11) F 19 (by decide) dX3_readLine_11 (fun c7 => ?_) (fun c7 => ?_)
  · have hf := (if_pos c7).symm.trans hf
    refine fx_aload_n (pc := 14) (t := 4) F 1 rfl rfl dX3_readLine_14 ?_
    refine fx_iload_n (pc := 15) F 2 rfl rfl dX3_readLine_15 ?_
    refine fx_pI (pc := 16) F 4 1 1 rfl kC_X4 rfl rfl (by decide +kernel) wF_X3_125 dX3_readLine_16 ?_
    cases hf
    exact fx_vreturn (pc := 19) F K dX3_readLine_19
  · have hf := (if_neg c7).symm.trans hf
    cases hf
    exact fx_vreturn (pc := 19) F K dX3_readLine_19
def f_X3_readRich (Fu : Nat) (Λ : fx_L) (this_0 : Int) (draft_0 : Int) (h : fx_H) : Option (fx_H) :=
  (f_X3_number Fu Λ this_0 0 (fx_w (((fx_up h this_0 6 1) draft_0 2) - 1)) (fx_up h this_0 6 1)).bind fun (v1, h2) =>
  (f_X3_stops Fu Λ this_0 h2).bind fun (v4, h5) =>
  if ¬ v4 = 0 then
    some (fx_up h5 draft_0 4 v1)
  else
    some h5
abbrev rm_X3_readRich : Room := { frames := 3, cells := 0, slots := 0, locals := 63 }
set_option maxRecDepth 100000 in
set_option maxHeartbeats 4000000 in
theorem m_X3_readRich (Fu : Nat) (Λ : fx_L) (this_0 : Int) (draft_0 : Int) (h : fx_H) (ho : fx_H) (hf : f_X3_readRich Fu Λ this_0 draft_0 h = some ho) : fx_Met yX3_readRich cX3_readRich 3 none rm_X3_readRich Λ [(5, this_0), (6, draft_0)] h none ho := by
  unfold f_X3_readRich at hf
  refine fx_enter (ls := [some (5, this_0), some (6, draft_0), none]) (by decide) (Nat.le_of_ble_eq_true rfl) rfl (fun M G F K => ?_)
  refine fx_aload_n (pc := 0) (t := 3) F 0 rfl rfl dX3_readRich_0 ?_
  refine fx_iconst (pc := 1) F ⟨by decide, by decide⟩ dX3_readRich_1 ?_
  refine fx_pZ (pc := 2) F 3 6 6 rfl kC_X3 rfl rfl (by decide +kernel) wF_X3_30 (Or.inr rfl) dX3_readRich_2 ?_
  refine fx_aload_n (pc := 5) (t := 3) F 0 rfl rfl dX3_readRich_5 ?_
  refine fx_iconst (pc := 6) F ⟨by decide, by decide⟩ dX3_readRich_6 ?_
  refine fx_aload_n (pc := 7) (t := 4) F 1 rfl rfl dX3_readRich_7 ?_
  refine fx_gI (pc := 8) F 4 2 2 rfl kC_X4 rfl wF_X3_114 dX3_readRich_8 ?_
  refine fx_iconst (pc := 11) F ⟨by decide, by decide⟩ dX3_readRich_11 ?_
  refine fx_isub (pc := 12) F dX3_readRich_12 ?_
  obtain ⟨⟨v1, h2⟩, e3, hf⟩ := fx_bnd hf
  refine fx_cV (pc := 13) F 3 kC_X3 [(0, 0), (0, (fx_w (((fx_up h this_0 6 1) draft_0 2) - 1)))] this_0 [] (m_X3_number Fu Λ this_0 0 (fx_w (((fx_up h this_0 6 1) draft_0 2) - 1)) (fx_up h this_0 6 1) _ _ e3) kD_X3_number kI_X3_number rfl wM_X3_106 ⟨rfl, rfl⟩ ⟨by decide, by decide⟩ (Nat.le_of_ble_eq_true rfl) rfl dX3_readRich_13 ?_
  refine fx_istore_n (pc := 16) (ls' := [some (5, this_0), some (6, draft_0), some (0, v1)]) F 2 rfl (by decide) rfl rfl dX3_readRich_16 ?_
  refine fx_aload_n (pc := 17) (t := 3) F 0 rfl rfl dX3_readRich_17 ?_
  obtain ⟨⟨v4, h5⟩, e6, hf⟩ := fx_bnd hf
  refine fx_cV (pc := 18) F 3 kC_X3 [] this_0 [] (m_X3_stops Fu Λ this_0 h2 _ _ e6) kD_X3_stops kI_X3_stops rfl wM_X3_110 ⟨rfl, rfl⟩ ⟨by decide, by decide⟩ (Nat.le_of_ble_eq_true rfl) rfl dX3_readRich_18 ?_
  refine fx_nzne (pc := 21) F 29 (by decide) dX3_readRich_21 (fun c7 => ?_) (fun c7 => ?_)
  · have hf := (if_pos c7).symm.trans hf
    refine fx_aload_n (pc := 24) (t := 4) F 1 rfl rfl dX3_readRich_24 ?_
    refine fx_iload_n (pc := 25) F 2 rfl rfl dX3_readRich_25 ?_
    refine fx_pI (pc := 26) F 4 4 4 rfl kC_X4 rfl rfl (by decide +kernel) wF_X3_127 dX3_readRich_26 ?_
    cases hf
    exact fx_vreturn (pc := 29) F K dX3_readRich_29
  · have hf := (if_neg c7).symm.trans hf
    cases hf
    exact fx_vreturn (pc := 29) F K dX3_readRich_29
def f_X3_readDoes (Fu : Nat) (Λ : fx_L) (this_0 : Int) (draft_0 : Int) (h : fx_H) : Option (fx_H) :=
  (f_X3_number Fu Λ this_0 0 (fx_w (((fx_up h this_0 6 1) draft_0 2) - 1)) (fx_up h this_0 6 1)).bind fun (v1, h2) =>
  (f_X3_number Fu Λ this_0 0 (fx_w ((h2 draft_0 3) - 1)) h2).bind fun (v4, h5) =>
  (f_X3_number Fu Λ this_0 0 (fx_w ((h5 draft_0 0) - 1)) h5).bind fun (v7, h8) =>
  Option.bind (
    (f_X3_stops Fu Λ this_0 h8).bind fun (v15, h16) =>
    if ¬ v15 = 0 then
      (f_X4_hasHour Fu Λ draft_0 v4 h16).bind fun v19 =>
      if ¬ v19 = 0 then
        (f_X4_hasPerson Fu Λ draft_0 v1 h16).bind fun v22 =>
        if ¬ v22 = 0 then
          some (true, h16)
        else
          some (false, h16)
      else
        some (false, h16)
    else
      some (false, h16)
  ) fun (b10, h14) =>
  if b10 = true then
    (fx_rr Λ (fx_tg Λ draft_0 8) v4).bind fun v26 =>
    (fx_wr Λ h14 v26 v1 v7).bind fun h28 =>
    some h28
  else
    some h14
abbrev rm_X3_readDoes : Room := { frames := 3, cells := 0, slots := 0, locals := 63 }
set_option maxRecDepth 100000 in
set_option maxHeartbeats 4000000 in
theorem m_X3_readDoes (Fu : Nat) (Λ : fx_L) (this_0 : Int) (draft_0 : Int) (h : fx_H) (ho : fx_H) (hf : f_X3_readDoes Fu Λ this_0 draft_0 h = some ho) : fx_Met yX3_readDoes cX3_readDoes 5 none rm_X3_readDoes Λ [(5, this_0), (6, draft_0)] h none ho := by
  unfold f_X3_readDoes at hf
  refine fx_enter (ls := [some (5, this_0), some (6, draft_0), none, none, none]) (by decide) (Nat.le_of_ble_eq_true rfl) rfl (fun M G F K => ?_)
  refine fx_aload_n (pc := 0) (t := 3) F 0 rfl rfl dX3_readDoes_0 ?_
  refine fx_iconst (pc := 1) F ⟨by decide, by decide⟩ dX3_readDoes_1 ?_
  refine fx_pZ (pc := 2) F 3 6 6 rfl kC_X3 rfl rfl (by decide +kernel) wF_X3_30 (Or.inr rfl) dX3_readDoes_2 ?_
  refine fx_aload_n (pc := 5) (t := 3) F 0 rfl rfl dX3_readDoes_5 ?_
  refine fx_iconst (pc := 6) F ⟨by decide, by decide⟩ dX3_readDoes_6 ?_
  refine fx_aload_n (pc := 7) (t := 4) F 1 rfl rfl dX3_readDoes_7 ?_
  refine fx_gI (pc := 8) F 4 2 2 rfl kC_X4 rfl wF_X3_114 dX3_readDoes_8 ?_
  refine fx_iconst (pc := 11) F ⟨by decide, by decide⟩ dX3_readDoes_11 ?_
  refine fx_isub (pc := 12) F dX3_readDoes_12 ?_
  obtain ⟨⟨v1, h2⟩, e3, hf⟩ := fx_bnd hf
  refine fx_cV (pc := 13) F 3 kC_X3 [(0, 0), (0, (fx_w (((fx_up h this_0 6 1) draft_0 2) - 1)))] this_0 [] (m_X3_number Fu Λ this_0 0 (fx_w (((fx_up h this_0 6 1) draft_0 2) - 1)) (fx_up h this_0 6 1) _ _ e3) kD_X3_number kI_X3_number rfl wM_X3_106 ⟨rfl, rfl⟩ ⟨by decide, by decide⟩ (Nat.le_of_ble_eq_true rfl) rfl dX3_readDoes_13 ?_
  refine fx_istore_n (pc := 16) (ls' := [some (5, this_0), some (6, draft_0), some (0, v1), none, none]) F 2 rfl (by decide) rfl rfl dX3_readDoes_16 ?_
  refine fx_aload_n (pc := 17) (t := 3) F 0 rfl rfl dX3_readDoes_17 ?_
  refine fx_iconst (pc := 18) F ⟨by decide, by decide⟩ dX3_readDoes_18 ?_
  refine fx_aload_n (pc := 19) (t := 4) F 1 rfl rfl dX3_readDoes_19 ?_
  refine fx_gI (pc := 20) F 4 3 3 rfl kC_X4 rfl wF_X3_116 dX3_readDoes_20 ?_
  refine fx_iconst (pc := 23) F ⟨by decide, by decide⟩ dX3_readDoes_23 ?_
  refine fx_isub (pc := 24) F dX3_readDoes_24 ?_
  obtain ⟨⟨v4, h5⟩, e6, hf⟩ := fx_bnd hf
  refine fx_cV (pc := 25) F 3 kC_X3 [(0, 0), (0, (fx_w ((h2 draft_0 3) - 1)))] this_0 [] (m_X3_number Fu Λ this_0 0 (fx_w ((h2 draft_0 3) - 1)) h2 _ _ e6) kD_X3_number kI_X3_number rfl wM_X3_106 ⟨rfl, rfl⟩ ⟨by decide, by decide⟩ (Nat.le_of_ble_eq_true rfl) rfl dX3_readDoes_25 ?_
  refine fx_istore_n (pc := 28) (ls' := [some (5, this_0), some (6, draft_0), some (0, v1), some (0, v4), none]) F 3 rfl (by decide) rfl rfl dX3_readDoes_28 ?_
  refine fx_aload_n (pc := 29) (t := 3) F 0 rfl rfl dX3_readDoes_29 ?_
  refine fx_iconst (pc := 30) F ⟨by decide, by decide⟩ dX3_readDoes_30 ?_
  refine fx_aload_n (pc := 31) (t := 4) F 1 rfl rfl dX3_readDoes_31 ?_
  refine fx_gI (pc := 32) F 4 0 0 rfl kC_X4 rfl wF_X3_91 dX3_readDoes_32 ?_
  refine fx_iconst (pc := 35) F ⟨by decide, by decide⟩ dX3_readDoes_35 ?_
  refine fx_isub (pc := 36) F dX3_readDoes_36 ?_
  obtain ⟨⟨v7, h8⟩, e9, hf⟩ := fx_bnd hf
  refine fx_cV (pc := 37) F 3 kC_X3 [(0, 0), (0, (fx_w ((h5 draft_0 0) - 1)))] this_0 [] (m_X3_number Fu Λ this_0 0 (fx_w ((h5 draft_0 0) - 1)) h5 _ _ e9) kD_X3_number kI_X3_number rfl wM_X3_106 ⟨rfl, rfl⟩ ⟨by decide, by decide⟩ (Nat.le_of_ble_eq_true rfl) rfl dX3_readDoes_37 ?_
  refine fx_istore (pc := 40) (ls' := [some (5, this_0), some (6, draft_0), some (0, v1), some (0, v4), some (0, v7)]) F (by decide) rfl rfl dX3_readDoes_40 ?_
  obtain ⟨⟨b10, h14⟩, e11, hf⟩ := fx_bnd hf
  have hT12 : b10 = true → fx_J M G Λ 5 65 [some (5, this_0), some (6, draft_0), some (0, v1), some (0, v4), some (0, v7)] [] h14 := fun c25 => by
    have hf := (if_pos c25).symm.trans hf
    refine fx_aload_n (pc := 65) (t := 4) F 1 rfl rfl dX3_readDoes_65 ?_
    refine fx_gR (pc := 66) F 4 8 8 11 rfl kC_X4 (by decide) rfl wF_X3_132 dX3_readDoes_66 ?_
    refine fx_iload_n (pc := 69) F 3 rfl rfl dX3_readDoes_69 ?_
    obtain ⟨v26, e27, hf⟩ := fx_bnd hf
    refine fx_raldG (pc := 70) F e27 dX3_readDoes_70 ?_
    refine fx_iload_n (pc := 71) F 2 rfl rfl dX3_readDoes_71 ?_
    refine fx_iload (pc := 72) F rfl dX3_readDoes_72 ?_
    obtain ⟨h28, e29, hf⟩ := fx_bnd hf
    refine fx_rastI (pc := 74) F e29 dX3_readDoes_74 ?_
    cases hf
    exact fx_vreturn (pc := 75) F K dX3_readDoes_75
  have hF13 : ¬ b10 = true → fx_J M G Λ 5 75 [some (5, this_0), some (6, draft_0), some (0, v1), some (0, v4), some (0, v7)] [] h14 := fun c25 => by
    have hf := (if_neg c25).symm.trans hf
    cases hf
    exact fx_vreturn (pc := 75) F K dX3_readDoes_75
  refine fx_aload_n (pc := 42) (t := 3) F 0 rfl rfl dX3_readDoes_42 ?_
  obtain ⟨⟨v15, h16⟩, e17, e11⟩ := fx_bnd e11
  refine fx_cV (pc := 43) F 3 kC_X3 [] this_0 [] (m_X3_stops Fu Λ this_0 h8 _ _ e17) kD_X3_stops kI_X3_stops rfl wM_X3_110 ⟨rfl, rfl⟩ ⟨by decide, by decide⟩ (Nat.le_of_ble_eq_true rfl) rfl dX3_readDoes_43 ?_
  refine fx_nzne (pc := 46) F 75 (by decide) dX3_readDoes_46 (fun c18 => ?_) (fun c18 => ?_)
  · have e11 := (if_pos c18).symm.trans e11
    refine fx_aload_n (pc := 49) (t := 4) F 1 rfl rfl dX3_readDoes_49 ?_
    refine fx_iload_n (pc := 50) F 3 rfl rfl dX3_readDoes_50 ?_
    obtain ⟨v19, e20, e11⟩ := fx_bnd e11
    refine fx_cV (pc := 51) F 4 kC_X4 [(0, v4)] draft_0 [] (m_X4_hasHour Fu Λ draft_0 v4 h16 _ e20) kD_X4_hasHour kI_X4_hasHour rfl wM_X3_118 ⟨rfl, rfl⟩ ⟨by decide, by decide⟩ (Nat.le_of_ble_eq_true rfl) rfl dX3_readDoes_51 ?_
    refine fx_nzne (pc := 54) F 75 (by decide) dX3_readDoes_54 (fun c21 => ?_) (fun c21 => ?_)
    · have e11 := (if_pos c21).symm.trans e11
      refine fx_aload_n (pc := 57) (t := 4) F 1 rfl rfl dX3_readDoes_57 ?_
      refine fx_iload_n (pc := 58) F 2 rfl rfl dX3_readDoes_58 ?_
      obtain ⟨v22, e23, e11⟩ := fx_bnd e11
      refine fx_cV (pc := 59) F 4 kC_X4 [(0, v1)] draft_0 [] (m_X4_hasPerson Fu Λ draft_0 v1 h16 _ e23) kD_X4_hasPerson kI_X4_hasPerson rfl wM_X3_129 ⟨rfl, rfl⟩ ⟨by decide, by decide⟩ (Nat.le_of_ble_eq_true rfl) rfl dX3_readDoes_59 ?_
      refine fx_nzne (pc := 62) F 75 (by decide) dX3_readDoes_62 (fun c24 => ?_) (fun c24 => ?_)
      · have e11 := (if_pos c24).symm.trans e11
        cases e11
        exact hT12 (by decide)
      · have e11 := (if_neg c24).symm.trans e11
        cases e11
        exact hF13 (by decide)
    · have e11 := (if_neg c21).symm.trans e11
      cases e11
      exact hF13 (by decide)
  · have e11 := (if_neg c18).symm.trans e11
    cases e11
    exact hF13 (by decide)
def f_X3_readNeed (Fu : Nat) (Λ : fx_L) (this_0 : Int) (draft_0 : Int) (h : fx_H) : Option (fx_H) :=
  (f_X3_number Fu Λ this_0 0 (fx_w (((fx_up h this_0 6 1) draft_0 2) - 1)) (fx_up h this_0 6 1)).bind fun (v1, h2) =>
  (f_X3_number Fu Λ this_0 0 (fx_w ((h2 draft_0 0) - 1)) h2).bind fun (v4, h5) =>
  Option.bind (
    (f_X4_hasPerson Fu Λ draft_0 v1 h5).bind fun v11 =>
    if v11 = 0 then
      some true
    else
      (f_X4_hasThing Fu Λ draft_0 v4 h5).bind fun v14 =>
      if v14 = 0 then
        some true
      else
        some false
  ) fun b7 =>
  if b7 = true then
    some h5
  else
    (f_X4_mostNeeded Fu Λ draft_0 v1 v4 h5).bind fun v18 =>
    (f_X3_number Fu Λ this_0 0 v18 h5).bind fun (v20, h21) =>
    (f_X3_stops Fu Λ this_0 h21).bind fun (v23, h24) =>
    if ¬ v23 = 0 then
      (fx_rr Λ (fx_tg Λ draft_0 9) v1).bind fun v27 =>
      (fx_wr Λ h24 v27 v4 v20).bind fun h29 =>
      some h29
    else
      some h24
abbrev rm_X3_readNeed : Room := { frames := 3, cells := 0, slots := 0, locals := 63 }
set_option maxRecDepth 100000 in
set_option maxHeartbeats 4000000 in
theorem m_X3_readNeed (Fu : Nat) (Λ : fx_L) (this_0 : Int) (draft_0 : Int) (h : fx_H) (ho : fx_H) (hf : f_X3_readNeed Fu Λ this_0 draft_0 h = some ho) : fx_Met yX3_readNeed cX3_readNeed 5 none rm_X3_readNeed Λ [(5, this_0), (6, draft_0)] h none ho := by
  unfold f_X3_readNeed at hf
  refine fx_enter (ls := [some (5, this_0), some (6, draft_0), none, none, none]) (by decide) (Nat.le_of_ble_eq_true rfl) rfl (fun M G F K => ?_)
  refine fx_aload_n (pc := 0) (t := 3) F 0 rfl rfl dX3_readNeed_0 ?_
  refine fx_iconst (pc := 1) F ⟨by decide, by decide⟩ dX3_readNeed_1 ?_
  refine fx_pZ (pc := 2) F 3 6 6 rfl kC_X3 rfl rfl (by decide +kernel) wF_X3_30 (Or.inr rfl) dX3_readNeed_2 ?_
  refine fx_aload_n (pc := 5) (t := 3) F 0 rfl rfl dX3_readNeed_5 ?_
  refine fx_iconst (pc := 6) F ⟨by decide, by decide⟩ dX3_readNeed_6 ?_
  refine fx_aload_n (pc := 7) (t := 4) F 1 rfl rfl dX3_readNeed_7 ?_
  refine fx_gI (pc := 8) F 4 2 2 rfl kC_X4 rfl wF_X3_114 dX3_readNeed_8 ?_
  refine fx_iconst (pc := 11) F ⟨by decide, by decide⟩ dX3_readNeed_11 ?_
  refine fx_isub (pc := 12) F dX3_readNeed_12 ?_
  obtain ⟨⟨v1, h2⟩, e3, hf⟩ := fx_bnd hf
  refine fx_cV (pc := 13) F 3 kC_X3 [(0, 0), (0, (fx_w (((fx_up h this_0 6 1) draft_0 2) - 1)))] this_0 [] (m_X3_number Fu Λ this_0 0 (fx_w (((fx_up h this_0 6 1) draft_0 2) - 1)) (fx_up h this_0 6 1) _ _ e3) kD_X3_number kI_X3_number rfl wM_X3_106 ⟨rfl, rfl⟩ ⟨by decide, by decide⟩ (Nat.le_of_ble_eq_true rfl) rfl dX3_readNeed_13 ?_
  refine fx_istore_n (pc := 16) (ls' := [some (5, this_0), some (6, draft_0), some (0, v1), none, none]) F 2 rfl (by decide) rfl rfl dX3_readNeed_16 ?_
  refine fx_aload_n (pc := 17) (t := 3) F 0 rfl rfl dX3_readNeed_17 ?_
  refine fx_iconst (pc := 18) F ⟨by decide, by decide⟩ dX3_readNeed_18 ?_
  refine fx_aload_n (pc := 19) (t := 4) F 1 rfl rfl dX3_readNeed_19 ?_
  refine fx_gI (pc := 20) F 4 0 0 rfl kC_X4 rfl wF_X3_91 dX3_readNeed_20 ?_
  refine fx_iconst (pc := 23) F ⟨by decide, by decide⟩ dX3_readNeed_23 ?_
  refine fx_isub (pc := 24) F dX3_readNeed_24 ?_
  obtain ⟨⟨v4, h5⟩, e6, hf⟩ := fx_bnd hf
  refine fx_cV (pc := 25) F 3 kC_X3 [(0, 0), (0, (fx_w ((h2 draft_0 0) - 1)))] this_0 [] (m_X3_number Fu Λ this_0 0 (fx_w ((h2 draft_0 0) - 1)) h2 _ _ e6) kD_X3_number kI_X3_number rfl wM_X3_106 ⟨rfl, rfl⟩ ⟨by decide, by decide⟩ (Nat.le_of_ble_eq_true rfl) rfl dX3_readNeed_25 ?_
  refine fx_istore_n (pc := 28) (ls' := [some (5, this_0), some (6, draft_0), some (0, v1), some (0, v4), none]) F 3 rfl (by decide) rfl rfl dX3_readNeed_28 ?_
  obtain ⟨b7, e8, hf⟩ := fx_bnd hf
  have hT9 : b7 = true → fx_J M G Λ 5 45 [some (5, this_0), some (6, draft_0), some (0, v1), some (0, v4), none] [] h5 := fun c17 => by
    have hf := (if_pos c17).symm.trans hf
    cases hf
    exact fx_vreturn (pc := 45) F K dX3_readNeed_45
  have hF10 : ¬ b7 = true → fx_J M G Λ 5 46 [some (5, this_0), some (6, draft_0), some (0, v1), some (0, v4), none] [] h5 := fun c17 => by
    have hf := (if_neg c17).symm.trans hf
    refine fx_aload_n (pc := 46) (t := 3) F 0 rfl rfl dX3_readNeed_46 ?_
    refine fx_iconst (pc := 47) F ⟨by decide, by decide⟩ dX3_readNeed_47 ?_
    refine fx_aload_n (pc := 48) (t := 4) F 1 rfl rfl dX3_readNeed_48 ?_
    refine fx_iload_n (pc := 49) F 2 rfl rfl dX3_readNeed_49 ?_
    refine fx_iload_n (pc := 50) F 3 rfl rfl dX3_readNeed_50 ?_
    obtain ⟨v18, e19, hf⟩ := fx_bnd hf
    refine fx_cV (pc := 51) F 4 kC_X4 [(0, v1), (0, v4)] draft_0 [(0, 0), (5, this_0)] (m_X4_mostNeeded Fu Λ draft_0 v1 v4 h5 _ e19) kD_X4_mostNeeded kI_X4_mostNeeded rfl wM_X3_136 ⟨rfl, rfl⟩ ⟨by decide, by decide⟩ (Nat.le_of_ble_eq_true rfl) rfl dX3_readNeed_51 ?_
    obtain ⟨⟨v20, h21⟩, e22, hf⟩ := fx_bnd hf
    refine fx_cV (pc := 54) F 3 kC_X3 [(0, 0), (0, v18)] this_0 [] (m_X3_number Fu Λ this_0 0 v18 h5 _ _ e22) kD_X3_number kI_X3_number rfl wM_X3_106 ⟨rfl, rfl⟩ ⟨by decide, by decide⟩ (Nat.le_of_ble_eq_true rfl) rfl dX3_readNeed_54 ?_
    refine fx_istore (pc := 57) (ls' := [some (5, this_0), some (6, draft_0), some (0, v1), some (0, v4), some (0, v20)]) F (by decide) rfl rfl dX3_readNeed_57 ?_
    refine fx_aload_n (pc := 59) (t := 3) F 0 rfl rfl dX3_readNeed_59 ?_
    obtain ⟨⟨v23, h24⟩, e25, hf⟩ := fx_bnd hf
    refine fx_cV (pc := 60) F 3 kC_X3 [] this_0 [] (m_X3_stops Fu Λ this_0 h21 _ _ e25) kD_X3_stops kI_X3_stops rfl wM_X3_110 ⟨rfl, rfl⟩ ⟨by decide, by decide⟩ (Nat.le_of_ble_eq_true rfl) rfl dX3_readNeed_60 ?_
    refine fx_nzne (pc := 63) F 76 (by decide) dX3_readNeed_63 (fun c26 => ?_) (fun c26 => ?_)
    · have hf := (if_pos c26).symm.trans hf
      refine fx_aload_n (pc := 66) (t := 4) F 1 rfl rfl dX3_readNeed_66 ?_
      refine fx_gR (pc := 67) F 4 9 9 11 rfl kC_X4 (by decide) rfl wF_X3_139 dX3_readNeed_67 ?_
      refine fx_iload_n (pc := 70) F 2 rfl rfl dX3_readNeed_70 ?_
      obtain ⟨v27, e28, hf⟩ := fx_bnd hf
      refine fx_raldG (pc := 71) F e28 dX3_readNeed_71 ?_
      refine fx_iload_n (pc := 72) F 3 rfl rfl dX3_readNeed_72 ?_
      refine fx_iload (pc := 73) F rfl dX3_readNeed_73 ?_
      obtain ⟨h29, e30, hf⟩ := fx_bnd hf
      refine fx_rastI (pc := 75) F e30 dX3_readNeed_75 ?_
      cases hf
      exact fx_vreturn (pc := 76) F K dX3_readNeed_76
    · have hf := (if_neg c26).symm.trans hf
      cases hf
      exact fx_vreturn (pc := 76) F K dX3_readNeed_76
  refine fx_aload_n (pc := 29) (t := 4) F 1 rfl rfl dX3_readNeed_29 ?_
  refine fx_iload_n (pc := 30) F 2 rfl rfl dX3_readNeed_30 ?_
  obtain ⟨v11, e12, e8⟩ := fx_bnd e8
  refine fx_cV (pc := 31) F 4 kC_X4 [(0, v1)] draft_0 [] (m_X4_hasPerson Fu Λ draft_0 v1 h5 _ e12) kD_X4_hasPerson kI_X4_hasPerson rfl wM_X3_129 ⟨rfl, rfl⟩ ⟨by decide, by decide⟩ (Nat.le_of_ble_eq_true rfl) rfl dX3_readNeed_31 ?_
  refine fx_jzeq (pc := 34) F 45 (by decide) dX3_readNeed_34 (fun c13 => ?_) (fun c13 => ?_)
  · have e8 := (if_pos c13).symm.trans e8
    cases e8
    exact hT9 (by decide)
  · have e8 := (if_neg c13).symm.trans e8
    refine fx_aload_n (pc := 37) (t := 4) F 1 rfl rfl dX3_readNeed_37 ?_
    refine fx_iload_n (pc := 38) F 3 rfl rfl dX3_readNeed_38 ?_
    obtain ⟨v14, e15, e8⟩ := fx_bnd e8
    refine fx_cV (pc := 39) F 4 kC_X4 [(0, v4)] draft_0 [] (m_X4_hasThing Fu Λ draft_0 v4 h5 _ e15) kD_X4_hasThing kI_X4_hasThing rfl wM_X3_98 ⟨rfl, rfl⟩ ⟨by decide, by decide⟩ (Nat.le_of_ble_eq_true rfl) rfl dX3_readNeed_39 ?_
    refine fx_nzeq (pc := 42) F 46 (by decide) dX3_readNeed_42 (fun c16 => ?_) (fun c16 => ?_)
    · have e8 := (if_pos c16).symm.trans e8
      cases e8
      exact hT9 (by decide)
    · have e8 := (if_neg c16).symm.trans e8
      cases e8
      exact hF10 (by decide)
def f_X3_readItem (Fu : Nat) (Λ : fx_L) (this_0 : Int) (draft_0 : Int) (h : fx_H) : Option (fx_H) :=
  if ¬ (h this_0 3) = 1 then
    (f_X3_fail Fu Λ this_0 h).bind fun h2 =>
    some h2
  else
    (f_X3_spells Fu Λ this_0 10 h).bind fun v4 =>
    if ¬ v4 = 0 then
      (f_X3_readThing Fu Λ this_0 draft_0 h).bind fun h7 =>
      some h7
    else
      (f_X3_spells Fu Λ this_0 11 h).bind fun v9 =>
      if ¬ v9 = 0 then
        (f_X3_readPeople Fu Λ this_0 draft_0 h).bind fun h12 =>
        some h12
      else
        (f_X3_spells Fu Λ this_0 12 h).bind fun v14 =>
        if ¬ v14 = 0 then
          (f_X3_readHours Fu Λ this_0 draft_0 h).bind fun h17 =>
          some h17
        else
          (f_X3_spells Fu Λ this_0 13 h).bind fun v19 =>
          if ¬ v19 = 0 then
            (f_X3_readHour Fu Λ this_0 draft_0 h).bind fun h22 =>
            some h22
          else
            (f_X3_spells Fu Λ this_0 14 h).bind fun v24 =>
            if ¬ v24 = 0 then
              (f_X3_readLine Fu Λ this_0 draft_0 h).bind fun h27 =>
              some h27
            else
              (f_X3_spells Fu Λ this_0 15 h).bind fun v29 =>
              if ¬ v29 = 0 then
                (f_X3_readRich Fu Λ this_0 draft_0 h).bind fun h32 =>
                some h32
              else
                (f_X3_spells Fu Λ this_0 16 h).bind fun v34 =>
                if ¬ v34 = 0 then
                  (f_X3_readDoes Fu Λ this_0 draft_0 h).bind fun h37 =>
                  some h37
                else
                  (f_X3_spells Fu Λ this_0 17 h).bind fun v39 =>
                  if ¬ v39 = 0 then
                    (f_X3_readNeed Fu Λ this_0 draft_0 h).bind fun h42 =>
                    some h42
                  else
                    (f_X3_fail Fu Λ this_0 h).bind fun h44 =>
                    some h44
abbrev rm_X3_readItem : Room := { frames := 5, cells := 0, slots := 0, locals := 107 }
set_option maxRecDepth 100000 in
set_option maxHeartbeats 4000000 in
theorem m_X3_readItem (Fu : Nat) (Λ : fx_L) (this_0 : Int) (draft_0 : Int) (h : fx_H) (ho : fx_H) (hf : f_X3_readItem Fu Λ this_0 draft_0 h = some ho) : fx_Met yX3_readItem cX3_readItem 2 none rm_X3_readItem Λ [(5, this_0), (6, draft_0)] h none ho := by
  unfold f_X3_readItem at hf
  refine fx_enter (ls := [some (5, this_0), some (6, draft_0)]) (by decide) (Nat.le_of_ble_eq_true rfl) rfl (fun M G F K => ?_)
  refine fx_aload_n (pc := 0) (t := 3) F 0 rfl rfl dX3_readItem_0 ?_
  refine fx_gI (pc := 1) F 3 3 3 rfl kC_X3 rfl wF_X3_37 dX3_readItem_1 ?_
  refine fx_iconst (pc := 4) F ⟨by decide, by decide⟩ dX3_readItem_4 ?_
  refine fx_nne (pc := 5) F 15 (by decide) dX3_readItem_5 (fun c1 => ?_) (fun c1 => ?_)
  · have hf := (if_pos c1).symm.trans hf
    refine fx_aload_n (pc := 8) (t := 3) F 0 rfl rfl dX3_readItem_8 ?_
    obtain ⟨h2, e3, hf⟩ := fx_bnd hf
    refine fx_cVv (pc := 9) F 3 kC_X3 [] this_0 [] (m_X3_fail Fu Λ this_0 h _ e3) kD_X3_fail kI_X3_fail rfl wM_X3_44 ⟨rfl, rfl⟩ ⟨by decide, by decide⟩ (Nat.le_of_ble_eq_true rfl) rfl dX3_readItem_9 ?_
    refine fx_goto (pc := 12) F 155 (by decide) dX3_readItem_12 ?_
    cases hf
    exact fx_vreturn (pc := 155) F K dX3_readItem_155
  · have hf := (if_neg c1).symm.trans hf
    refine fx_aload_n (pc := 15) (t := 3) F 0 rfl rfl dX3_readItem_15 ?_
    refine fx_ldcS (pc := 16) F 0 10 rfl (by decide) rfl dX3_readItem_16 ?_
    obtain ⟨v4, e5, hf⟩ := fx_bnd hf
    refine fx_cV (pc := 18) F 3 kC_X3 [(62, 10)] this_0 [] (m_X3_spells Fu Λ this_0 10 h _ e5) kD_X3_spells kI_X3_spells rfl wM_X3_49 ⟨rfl, rfl⟩ ⟨by decide, by decide⟩ (Nat.le_of_ble_eq_true rfl) rfl dX3_readItem_18 ?_
    refine fx_nzne (pc := 21) F 32 (by decide) dX3_readItem_21 (fun c6 => ?_) (fun c6 => ?_)
    · have hf := (if_pos c6).symm.trans hf
      refine fx_aload_n (pc := 24) (t := 3) F 0 rfl rfl dX3_readItem_24 ?_
      refine fx_aload_n (pc := 25) (t := 4) F 1 rfl rfl dX3_readItem_25 ?_
      obtain ⟨h7, e8, hf⟩ := fx_bnd hf
      refine fx_cVv (pc := 26) F 3 kC_X3 [(6, draft_0)] this_0 [] (m_X3_readThing Fu Λ this_0 draft_0 h _ e8) kD_X3_readThing kI_X3_readThing rfl wM_X3_53 ⟨rfl, rfl⟩ ⟨by decide, by decide⟩ (Nat.le_of_ble_eq_true rfl) rfl dX3_readItem_26 ?_
      refine fx_goto (pc := 29) F 155 (by decide) dX3_readItem_29 ?_
      cases hf
      exact fx_vreturn (pc := 155) F K dX3_readItem_155
    · have hf := (if_neg c6).symm.trans hf
      refine fx_aload_n (pc := 32) (t := 3) F 0 rfl rfl dX3_readItem_32 ?_
      refine fx_ldcS (pc := 33) F 1 11 rfl (by decide) rfl dX3_readItem_33 ?_
      obtain ⟨v9, e10, hf⟩ := fx_bnd hf
      refine fx_cV (pc := 35) F 3 kC_X3 [(62, 11)] this_0 [] (m_X3_spells Fu Λ this_0 11 h _ e10) kD_X3_spells kI_X3_spells rfl wM_X3_49 ⟨rfl, rfl⟩ ⟨by decide, by decide⟩ (Nat.le_of_ble_eq_true rfl) rfl dX3_readItem_35 ?_
      refine fx_nzne (pc := 38) F 49 (by decide) dX3_readItem_38 (fun c11 => ?_) (fun c11 => ?_)
      · have hf := (if_pos c11).symm.trans hf
        refine fx_aload_n (pc := 41) (t := 3) F 0 rfl rfl dX3_readItem_41 ?_
        refine fx_aload_n (pc := 42) (t := 4) F 1 rfl rfl dX3_readItem_42 ?_
        obtain ⟨h12, e13, hf⟩ := fx_bnd hf
        refine fx_cVv (pc := 43) F 3 kC_X3 [(6, draft_0)] this_0 [] (m_X3_readPeople Fu Λ this_0 draft_0 h _ e13) kD_X3_readPeople kI_X3_readPeople rfl wM_X3_58 ⟨rfl, rfl⟩ ⟨by decide, by decide⟩ (Nat.le_of_ble_eq_true rfl) rfl dX3_readItem_43 ?_
        refine fx_goto (pc := 46) F 155 (by decide) dX3_readItem_46 ?_
        cases hf
        exact fx_vreturn (pc := 155) F K dX3_readItem_155
      · have hf := (if_neg c11).symm.trans hf
        refine fx_aload_n (pc := 49) (t := 3) F 0 rfl rfl dX3_readItem_49 ?_
        refine fx_ldcS (pc := 50) F 2 12 rfl (by decide) rfl dX3_readItem_50 ?_
        obtain ⟨v14, e15, hf⟩ := fx_bnd hf
        refine fx_cV (pc := 52) F 3 kC_X3 [(62, 12)] this_0 [] (m_X3_spells Fu Λ this_0 12 h _ e15) kD_X3_spells kI_X3_spells rfl wM_X3_49 ⟨rfl, rfl⟩ ⟨by decide, by decide⟩ (Nat.le_of_ble_eq_true rfl) rfl dX3_readItem_52 ?_
        refine fx_nzne (pc := 55) F 66 (by decide) dX3_readItem_55 (fun c16 => ?_) (fun c16 => ?_)
        · have hf := (if_pos c16).symm.trans hf
          refine fx_aload_n (pc := 58) (t := 3) F 0 rfl rfl dX3_readItem_58 ?_
          refine fx_aload_n (pc := 59) (t := 4) F 1 rfl rfl dX3_readItem_59 ?_
          obtain ⟨h17, e18, hf⟩ := fx_bnd hf
          refine fx_cVv (pc := 60) F 3 kC_X3 [(6, draft_0)] this_0 [] (m_X3_readHours Fu Λ this_0 draft_0 h _ e18) kD_X3_readHours kI_X3_readHours rfl wM_X3_63 ⟨rfl, rfl⟩ ⟨by decide, by decide⟩ (Nat.le_of_ble_eq_true rfl) rfl dX3_readItem_60 ?_
          refine fx_goto (pc := 63) F 155 (by decide) dX3_readItem_63 ?_
          cases hf
          exact fx_vreturn (pc := 155) F K dX3_readItem_155
        · have hf := (if_neg c16).symm.trans hf
          refine fx_aload_n (pc := 66) (t := 3) F 0 rfl rfl dX3_readItem_66 ?_
          refine fx_ldcS (pc := 67) F 3 13 rfl (by decide) rfl dX3_readItem_67 ?_
          obtain ⟨v19, e20, hf⟩ := fx_bnd hf
          refine fx_cV (pc := 69) F 3 kC_X3 [(62, 13)] this_0 [] (m_X3_spells Fu Λ this_0 13 h _ e20) kD_X3_spells kI_X3_spells rfl wM_X3_49 ⟨rfl, rfl⟩ ⟨by decide, by decide⟩ (Nat.le_of_ble_eq_true rfl) rfl dX3_readItem_69 ?_
          refine fx_nzne (pc := 72) F 83 (by decide) dX3_readItem_72 (fun c21 => ?_) (fun c21 => ?_)
          · have hf := (if_pos c21).symm.trans hf
            refine fx_aload_n (pc := 75) (t := 3) F 0 rfl rfl dX3_readItem_75 ?_
            refine fx_aload_n (pc := 76) (t := 4) F 1 rfl rfl dX3_readItem_76 ?_
            obtain ⟨h22, e23, hf⟩ := fx_bnd hf
            refine fx_cVv (pc := 77) F 3 kC_X3 [(6, draft_0)] this_0 [] (m_X3_readHour Fu Λ this_0 draft_0 h _ e23) kD_X3_readHour kI_X3_readHour rfl wM_X3_68 ⟨rfl, rfl⟩ ⟨by decide, by decide⟩ (Nat.le_of_ble_eq_true rfl) rfl dX3_readItem_77 ?_
            refine fx_goto (pc := 80) F 155 (by decide) dX3_readItem_80 ?_
            cases hf
            exact fx_vreturn (pc := 155) F K dX3_readItem_155
          · have hf := (if_neg c21).symm.trans hf
            refine fx_aload_n (pc := 83) (t := 3) F 0 rfl rfl dX3_readItem_83 ?_
            refine fx_ldcS (pc := 84) F 4 14 rfl (by decide) rfl dX3_readItem_84 ?_
            obtain ⟨v24, e25, hf⟩ := fx_bnd hf
            refine fx_cV (pc := 86) F 3 kC_X3 [(62, 14)] this_0 [] (m_X3_spells Fu Λ this_0 14 h _ e25) kD_X3_spells kI_X3_spells rfl wM_X3_49 ⟨rfl, rfl⟩ ⟨by decide, by decide⟩ (Nat.le_of_ble_eq_true rfl) rfl dX3_readItem_86 ?_
            refine fx_nzne (pc := 89) F 100 (by decide) dX3_readItem_89 (fun c26 => ?_) (fun c26 => ?_)
            · have hf := (if_pos c26).symm.trans hf
              refine fx_aload_n (pc := 92) (t := 3) F 0 rfl rfl dX3_readItem_92 ?_
              refine fx_aload_n (pc := 93) (t := 4) F 1 rfl rfl dX3_readItem_93 ?_
              obtain ⟨h27, e28, hf⟩ := fx_bnd hf
              refine fx_cVv (pc := 94) F 3 kC_X3 [(6, draft_0)] this_0 [] (m_X3_readLine Fu Λ this_0 draft_0 h _ e28) kD_X3_readLine kI_X3_readLine rfl wM_X3_73 ⟨rfl, rfl⟩ ⟨by decide, by decide⟩ (Nat.le_of_ble_eq_true rfl) rfl dX3_readItem_94 ?_
              refine fx_goto (pc := 97) F 155 (by decide) dX3_readItem_97 ?_
              cases hf
              exact fx_vreturn (pc := 155) F K dX3_readItem_155
            · have hf := (if_neg c26).symm.trans hf
              refine fx_aload_n (pc := 100) (t := 3) F 0 rfl rfl dX3_readItem_100 ?_
              refine fx_ldcS (pc := 101) F 5 15 rfl (by decide) rfl dX3_readItem_101 ?_
              obtain ⟨v29, e30, hf⟩ := fx_bnd hf
              refine fx_cV (pc := 103) F 3 kC_X3 [(62, 15)] this_0 [] (m_X3_spells Fu Λ this_0 15 h _ e30) kD_X3_spells kI_X3_spells rfl wM_X3_49 ⟨rfl, rfl⟩ ⟨by decide, by decide⟩ (Nat.le_of_ble_eq_true rfl) rfl dX3_readItem_103 ?_
              refine fx_nzne (pc := 106) F 117 (by decide) dX3_readItem_106 (fun c31 => ?_) (fun c31 => ?_)
              · have hf := (if_pos c31).symm.trans hf
                refine fx_aload_n (pc := 109) (t := 3) F 0 rfl rfl dX3_readItem_109 ?_
                refine fx_aload_n (pc := 110) (t := 4) F 1 rfl rfl dX3_readItem_110 ?_
                obtain ⟨h32, e33, hf⟩ := fx_bnd hf
                refine fx_cVv (pc := 111) F 3 kC_X3 [(6, draft_0)] this_0 [] (m_X3_readRich Fu Λ this_0 draft_0 h _ e33) kD_X3_readRich kI_X3_readRich rfl wM_X3_78 ⟨rfl, rfl⟩ ⟨by decide, by decide⟩ (Nat.le_of_ble_eq_true rfl) rfl dX3_readItem_111 ?_
                refine fx_goto (pc := 114) F 155 (by decide) dX3_readItem_114 ?_
                cases hf
                exact fx_vreturn (pc := 155) F K dX3_readItem_155
              · have hf := (if_neg c31).symm.trans hf
                refine fx_aload_n (pc := 117) (t := 3) F 0 rfl rfl dX3_readItem_117 ?_
                refine fx_ldcS (pc := 118) F 6 16 rfl (by decide) rfl dX3_readItem_118 ?_
                obtain ⟨v34, e35, hf⟩ := fx_bnd hf
                refine fx_cV (pc := 120) F 3 kC_X3 [(62, 16)] this_0 [] (m_X3_spells Fu Λ this_0 16 h _ e35) kD_X3_spells kI_X3_spells rfl wM_X3_49 ⟨rfl, rfl⟩ ⟨by decide, by decide⟩ (Nat.le_of_ble_eq_true rfl) rfl dX3_readItem_120 ?_
                refine fx_nzne (pc := 123) F 134 (by decide) dX3_readItem_123 (fun c36 => ?_) (fun c36 => ?_)
                · have hf := (if_pos c36).symm.trans hf
                  refine fx_aload_n (pc := 126) (t := 3) F 0 rfl rfl dX3_readItem_126 ?_
                  refine fx_aload_n (pc := 127) (t := 4) F 1 rfl rfl dX3_readItem_127 ?_
                  obtain ⟨h37, e38, hf⟩ := fx_bnd hf
                  refine fx_cVv (pc := 128) F 3 kC_X3 [(6, draft_0)] this_0 [] (m_X3_readDoes Fu Λ this_0 draft_0 h _ e38) kD_X3_readDoes kI_X3_readDoes rfl wM_X3_83 ⟨rfl, rfl⟩ ⟨by decide, by decide⟩ (Nat.le_of_ble_eq_true rfl) rfl dX3_readItem_128 ?_
                  refine fx_goto (pc := 131) F 155 (by decide) dX3_readItem_131 ?_
                  cases hf
                  exact fx_vreturn (pc := 155) F K dX3_readItem_155
                · have hf := (if_neg c36).symm.trans hf
                  refine fx_aload_n (pc := 134) (t := 3) F 0 rfl rfl dX3_readItem_134 ?_
                  refine fx_ldcS (pc := 135) F 7 17 rfl (by decide) rfl dX3_readItem_135 ?_
                  obtain ⟨v39, e40, hf⟩ := fx_bnd hf
                  refine fx_cV (pc := 137) F 3 kC_X3 [(62, 17)] this_0 [] (m_X3_spells Fu Λ this_0 17 h _ e40) kD_X3_spells kI_X3_spells rfl wM_X3_49 ⟨rfl, rfl⟩ ⟨by decide, by decide⟩ (Nat.le_of_ble_eq_true rfl) rfl dX3_readItem_137 ?_
                  refine fx_nzne (pc := 140) F 151 (by decide) dX3_readItem_140 (fun c41 => ?_) (fun c41 => ?_)
                  · have hf := (if_pos c41).symm.trans hf
                    refine fx_aload_n (pc := 143) (t := 3) F 0 rfl rfl dX3_readItem_143 ?_
                    refine fx_aload_n (pc := 144) (t := 4) F 1 rfl rfl dX3_readItem_144 ?_
                    obtain ⟨h42, e43, hf⟩ := fx_bnd hf
                    refine fx_cVv (pc := 145) F 3 kC_X3 [(6, draft_0)] this_0 [] (m_X3_readNeed Fu Λ this_0 draft_0 h _ e43) kD_X3_readNeed kI_X3_readNeed rfl wM_X3_88 ⟨rfl, rfl⟩ ⟨by decide, by decide⟩ (Nat.le_of_ble_eq_true rfl) rfl dX3_readItem_145 ?_
                    refine fx_goto (pc := 148) F 155 (by decide) dX3_readItem_148 ?_
                    cases hf
                    exact fx_vreturn (pc := 155) F K dX3_readItem_155
                  · have hf := (if_neg c41).symm.trans hf
                    refine fx_aload_n (pc := 151) (t := 3) F 0 rfl rfl dX3_readItem_151 ?_
                    obtain ⟨h44, e45, hf⟩ := fx_bnd hf
                    refine fx_cVv (pc := 152) F 3 kC_X3 [] this_0 [] (m_X3_fail Fu Λ this_0 h _ e45) kD_X3_fail kI_X3_fail rfl wM_X3_44 ⟨rfl, rfl⟩ ⟨by decide, by decide⟩ (Nat.le_of_ble_eq_true rfl) rfl dX3_readItem_152 ?_
                    cases hf
                    exact fx_vreturn (pc := 155) F K dX3_readItem_155
def s_X3_readInto_1 (Fu : Nat) (Λ : fx_L) (this_8 : Int) (draft_9 : Int) : Int × Int × fx_H → Option ((Int × Int × fx_H) ⊕ (Int × Int × fx_H)) := fun (items_5, i_6, h7) =>
  if (((i_6 < 250) ∧ (¬ (h7 this_8 3) = 0)) ∧ ((h7 this_8 5) = (-1))) then
    (f_X3_readItem Fu Λ this_8 draft_9 h7).bind fun h17 =>
    (f_X3_nextToken Fu Λ this_8 h17).bind fun h19 =>
    some (.inl ((fx_w (items_5 + 1)), (fx_w (i_6 + 1)), h19))
  else
    some (.inr (items_5, i_6, h7))
def f_X3_readInto (Fu : Nat) (Λ : fx_L) (this_0 : Int) (draft_0 : Int) (h : fx_H) : Option (Int × fx_H) :=
  (f_X4_begin Fu Λ draft_0 h).bind fun h1 =>
  (f_X3_nextToken Fu Λ this_0 (fx_up (fx_up (fx_up h1 this_0 2 0) this_0 5 (-1)) this_0 6 0)).bind fun h3 =>
  Option.bind (fx_loop (s_X3_readInto_1 Fu Λ this_0 draft_0) Fu (0, 0, h3)) fun (items_35, i_36, h37) =>
  Option.bind (
    if (h37 this_0 5) = (-1) then
      some items_35
    else
      some (fx_w ((-10) - (h37 this_0 5)))
  ) fun v40 =>
  some (v40, h37)
abbrev rm_X3_readInto : Room := { frames := 6, cells := 0, slots := 0, locals := 128 }
set_option maxRecDepth 100000 in
set_option maxHeartbeats 4000000 in
theorem m_X3_readInto (Fu : Nat) (Λ : fx_L) (this_0 : Int) (draft_0 : Int) (h : fx_H) (r : Int) (ho : fx_H) (hf : f_X3_readInto Fu Λ this_0 draft_0 h = some (r, ho)) : fx_Met yX3_readInto cX3_readInto 4 (some .int) rm_X3_readInto Λ [(5, this_0), (6, draft_0)] h (some (0, r)) ho := by
  unfold f_X3_readInto at hf
  refine fx_enter (ls := [some (5, this_0), some (6, draft_0), none, none]) (by decide) (Nat.le_of_ble_eq_true rfl) rfl (fun M G F K => ?_)
  refine fx_aload_n (pc := 0) (t := 4) F 1 rfl rfl dX3_readInto_0 ?_
  obtain ⟨h1, e2, hf⟩ := fx_bnd hf
  refine fx_cVv (pc := 1) F 4 kC_X4 [] draft_0 [] (m_X4_begin Fu Λ draft_0 h _ e2) kD_X4_begin kI_X4_begin rfl wM_X3_19 ⟨rfl, rfl⟩ ⟨by decide, by decide⟩ (Nat.le_of_ble_eq_true rfl) rfl dX3_readInto_1 ?_
  refine fx_aload_n (pc := 4) (t := 3) F 0 rfl rfl dX3_readInto_4 ?_
  refine fx_iconst (pc := 5) F ⟨by decide, by decide⟩ dX3_readInto_5 ?_
  refine fx_pI (pc := 6) F 3 2 2 rfl kC_X3 rfl rfl (by decide +kernel) wF_X3_24 dX3_readInto_6 ?_
  refine fx_aload_n (pc := 9) (t := 3) F 0 rfl rfl dX3_readInto_9 ?_
  refine fx_iconst (pc := 10) F ⟨by decide, by decide⟩ dX3_readInto_10 ?_
  refine fx_pI (pc := 11) F 3 5 5 rfl kC_X3 rfl rfl (by decide +kernel) wF_X3_27 dX3_readInto_11 ?_
  refine fx_aload_n (pc := 14) (t := 3) F 0 rfl rfl dX3_readInto_14 ?_
  refine fx_iconst (pc := 15) F ⟨by decide, by decide⟩ dX3_readInto_15 ?_
  refine fx_pZ (pc := 16) F 3 6 6 rfl kC_X3 rfl rfl (by decide +kernel) wF_X3_30 (Or.inl rfl) dX3_readInto_16 ?_
  refine fx_iconst (pc := 19) F ⟨by decide, by decide⟩ dX3_readInto_19 ?_
  refine fx_istore_n (pc := 20) (ls' := [some (5, this_0), some (6, draft_0), some (0, 0), none]) F 2 rfl (by decide) rfl rfl dX3_readInto_20 ?_
  refine fx_aload_n (pc := 21) (t := 3) F 0 rfl rfl dX3_readInto_21 ?_
  obtain ⟨h3, e4, hf⟩ := fx_bnd hf
  refine fx_cVv (pc := 22) F 3 kC_X3 [] this_0 [] (m_X3_nextToken Fu Λ this_0 (fx_up (fx_up (fx_up h1 this_0 2 0) this_0 5 (-1)) this_0 6 0) _ e4) kD_X3_nextToken kI_X3_nextToken rfl wM_X3_34 ⟨rfl, rfl⟩ ⟨by decide, by decide⟩ (Nat.le_of_ble_eq_true rfl) rfl dX3_readInto_22 ?_
  refine fx_iconst (pc := 25) F ⟨by decide, by decide⟩ dX3_readInto_25 ?_
  refine fx_istore_n (pc := 26) (ls' := [some (5, this_0), some (6, draft_0), some (0, 0), some (0, 0)]) F 3 rfl (by decide) rfl rfl dX3_readInto_26 ?_
  obtain ⟨⟨items_35, i_36, h37⟩, e38, hf⟩ := fx_bnd hf
  have hE39 : fx_J M G Λ 4 67 [some (5, this_0), some (6, draft_0), some (0, items_35), some (0, i_36)] [] h37 := by
    obtain ⟨v40, e41, hf⟩ := fx_bnd hf
    have hJ42 : fx_J M G Λ 4 86 [some (5, this_0), some (6, draft_0), some (0, items_35), some (0, i_36)] [(0, v40)] h37 := by
      cases hf
      exact fx_ireturn (pc := 86) F K dX3_readInto_86
    refine fx_aload_n (pc := 67) (t := 3) F 0 rfl rfl dX3_readInto_67 ?_
    refine fx_gI (pc := 68) F 3 5 5 rfl kC_X3 rfl wF_X3_27 dX3_readInto_68 ?_
    refine fx_iconst (pc := 71) F ⟨by decide, by decide⟩ dX3_readInto_71 ?_
    refine fx_neq (pc := 72) F 79 (by decide) dX3_readInto_72 (fun c43 => ?_) (fun c43 => ?_)
    · have e41 := (if_pos c43).symm.trans e41
      refine fx_iload_n (pc := 75) F 2 rfl rfl dX3_readInto_75 ?_
      cases e41
      refine fx_goto (pc := 76) F 86 (by decide) dX3_readInto_76 ?_
      exact hJ42
    · have e41 := (if_neg c43).symm.trans e41
      refine fx_bipush (pc := 79) F ⟨by decide, by decide⟩ (by decide) dX3_readInto_79 ?_
      refine fx_aload_n (pc := 81) (t := 3) F 0 rfl rfl dX3_readInto_81 ?_
      refine fx_gI (pc := 82) F 3 5 5 rfl kC_X3 rfl wF_X3_27 dX3_readInto_82 ?_
      refine fx_isub (pc := 85) F dX3_readInto_85 ?_
      cases e41
      exact hJ42
  refine fx_loop_J (Hd := (fun z : Int × Int × fx_H => fx_J M G Λ 4 27 [some (5, this_0), some (6, draft_0), some (0, z.1), some (0, z.2.1)] [] z.2.2)) (Ex := (fun z : Int × Int × fx_H => fx_J M G Λ 4 67 [some (5, this_0), some (6, draft_0), some (0, z.1), some (0, z.2.1)] [] z.2.2)) ?_ Fu _ _ e38 hE39
  rintro ⟨items_21, i_22, h23⟩ o9 eq24 ih ex
  unfold s_X3_readInto_1 at eq24
  show fx_J M G Λ 4 27 [some (5, this_0), some (6, draft_0), some (0, items_21), some (0, i_22)] [] h23
  refine fx_iload_n (pc := 27) F 3 rfl rfl dX3_readInto_27 ?_
  refine fx_sipush (pc := 28) F ⟨by decide, by decide⟩ (by decide) dX3_readInto_28 ?_
  have hT25 : ((((i_22 < 250) ∧ (¬ (h23 this_0 3) = 0)) ∧ ((h23 this_0 5) = (-1)))) → fx_J M G Λ 4 49 [some (5, this_0), some (6, draft_0), some (0, items_21), some (0, i_22)] [] h23 := fun c30 => by
    have eq24 := (if_pos c30).symm.trans eq24
    refine fx_aload_n (pc := 49) (t := 3) F 0 rfl rfl dX3_readInto_49 ?_
    refine fx_aload_n (pc := 50) (t := 4) F 1 rfl rfl dX3_readInto_50 ?_
    obtain ⟨h31, e32, eq24⟩ := fx_bnd eq24
    refine fx_cVv (pc := 51) F 3 kC_X3 [(6, draft_0)] this_0 [] (m_X3_readItem Fu Λ this_0 draft_0 h23 _ e32) kD_X3_readItem kI_X3_readItem rfl wM_X3_40 ⟨rfl, rfl⟩ ⟨by decide, by decide⟩ (Nat.le_of_ble_eq_true rfl) rfl dX3_readInto_51 ?_
    refine fx_iinc (pc := 54) (ls' := [some (5, this_0), some (6, draft_0), some (0, (fx_w (items_21 + 1))), some (0, i_22)]) F (by decide) rfl rfl rfl dX3_readInto_54 ?_
    refine fx_aload_n (pc := 57) (t := 3) F 0 rfl rfl dX3_readInto_57 ?_
    obtain ⟨h33, e34, eq24⟩ := fx_bnd eq24
    refine fx_cVv (pc := 58) F 3 kC_X3 [] this_0 [] (m_X3_nextToken Fu Λ this_0 h31 _ e34) kD_X3_nextToken kI_X3_nextToken rfl wM_X3_34 ⟨rfl, rfl⟩ ⟨by decide, by decide⟩ (Nat.le_of_ble_eq_true rfl) rfl dX3_readInto_58 ?_
    refine fx_iinc (pc := 61) (ls' := [some (5, this_0), some (6, draft_0), some (0, (fx_w (items_21 + 1))), some (0, (fx_w (i_22 + 1)))]) F (by decide) rfl rfl rfl dX3_readInto_61 ?_
    refine fx_goto (pc := 64) F 27 (by decide) dX3_readInto_64 ?_
    cases eq24
    exact ih _ rfl
  have hF26 : ¬ ((((i_22 < 250) ∧ (¬ (h23 this_0 3) = 0)) ∧ ((h23 this_0 5) = (-1)))) → fx_J M G Λ 4 67 [some (5, this_0), some (6, draft_0), some (0, items_21), some (0, i_22)] [] h23 := fun c30 => by
    have eq24 := (if_neg c30).symm.trans eq24
    cases eq24
    exact ex _ rfl
  refine fx_nlt (pc := 31) F 67 (by decide) dX3_readInto_31 (fun c27 => ?_) (fun c27 => ?_)
  · refine fx_aload_n (pc := 34) (t := 3) F 0 rfl rfl dX3_readInto_34 ?_
    refine fx_gI (pc := 35) F 3 3 3 rfl kC_X3 rfl wF_X3_37 dX3_readInto_35 ?_
    refine fx_nzne (pc := 38) F 67 (by decide) dX3_readInto_38 (fun c28 => ?_) (fun c28 => ?_)
    · refine fx_aload_n (pc := 41) (t := 3) F 0 rfl rfl dX3_readInto_41 ?_
      refine fx_gI (pc := 42) F 3 5 5 rfl kC_X3 rfl wF_X3_27 dX3_readInto_42 ?_
      refine fx_iconst (pc := 45) F ⟨by decide, by decide⟩ dX3_readInto_45 ?_
      refine fx_neq (pc := 46) F 67 (by decide) dX3_readInto_46 (fun c29 => ?_) (fun c29 => ?_)
      · exact hT25 ⟨⟨c27, c28⟩, c29⟩
      · exact hF26 (fun q => c29 q.2)
    · exact hF26 (fun q => (fun q => c28 q.2) q.1)
  · exact hF26 (fun q => (fun q => c27 q.1) q.1)
def s_X4_takeOver_1 (Fu : Nat) (Λ : fx_L) (this_15 : Int) (other_16 : Int) : Int × fx_H → Option ((Int × fx_H) ⊕ (Int × fx_H)) := fun (hour_13, h14) =>
  if hour_13 < 5 then
    (fx_rr Λ (fx_tg Λ other_16 8) hour_13).bind fun v19 =>
    (fx_rr Λ (fx_tg Λ this_15 8) hour_13).bind fun v21 =>
    (fx_cp Λ h14 v19 0 v21 0 5).bind fun h23 =>
    some (.inl ((fx_w (hour_13 + 1)), h23))
  else
    some (.inr (hour_13, h14))
def s_X4_takeOver_2 (Fu : Nat) (Λ : fx_L) (this_41 : Int) (other_42 : Int) : Int × fx_H → Option ((Int × fx_H) ⊕ (Int × fx_H)) := fun (person_39, h40) =>
  if person_39 < 5 then
    (fx_rr Λ (fx_tg Λ other_42 9) person_39).bind fun v45 =>
    (fx_rr Λ (fx_tg Λ this_41 9) person_39).bind fun v47 =>
    (fx_cp Λ h40 v45 0 v47 0 9).bind fun h49 =>
    some (.inl ((fx_w (person_39 + 1)), h49))
  else
    some (.inr (person_39, h40))
def f_X4_takeOver (Fu : Nat) (Λ : fx_L) (this_0 : Int) (other_0 : Int) (h : fx_H) : Option (fx_H) :=
  (fx_cp Λ (fx_up (fx_up (fx_up (fx_up (fx_up (fx_up h this_0 0 (h other_0 0)) this_0 1 ((fx_up h this_0 0 (h other_0 0)) other_0 1)) this_0 2 ((fx_up (fx_up h this_0 0 (h other_0 0)) this_0 1 ((fx_up h this_0 0 (h other_0 0)) other_0 1)) other_0 2)) this_0 3 ((fx_up (fx_up (fx_up h this_0 0 (h other_0 0)) this_0 1 ((fx_up h this_0 0 (h other_0 0)) other_0 1)) this_0 2 ((fx_up (fx_up h this_0 0 (h other_0 0)) this_0 1 ((fx_up h this_0 0 (h other_0 0)) other_0 1)) other_0 2)) other_0 3)) this_0 4 ((fx_up (fx_up (fx_up (fx_up h this_0 0 (h other_0 0)) this_0 1 ((fx_up h this_0 0 (h other_0 0)) other_0 1)) this_0 2 ((fx_up (fx_up h this_0 0 (h other_0 0)) this_0 1 ((fx_up h this_0 0 (h other_0 0)) other_0 1)) other_0 2)) this_0 3 ((fx_up (fx_up (fx_up h this_0 0 (h other_0 0)) this_0 1 ((fx_up h this_0 0 (h other_0 0)) other_0 1)) this_0 2 ((fx_up (fx_up h this_0 0 (h other_0 0)) this_0 1 ((fx_up h this_0 0 (h other_0 0)) other_0 1)) other_0 2)) other_0 3)) other_0 4)) this_0 5 ((fx_up (fx_up (fx_up (fx_up (fx_up h this_0 0 (h other_0 0)) this_0 1 ((fx_up h this_0 0 (h other_0 0)) other_0 1)) this_0 2 ((fx_up (fx_up h this_0 0 (h other_0 0)) this_0 1 ((fx_up h this_0 0 (h other_0 0)) other_0 1)) other_0 2)) this_0 3 ((fx_up (fx_up (fx_up h this_0 0 (h other_0 0)) this_0 1 ((fx_up h this_0 0 (h other_0 0)) other_0 1)) this_0 2 ((fx_up (fx_up h this_0 0 (h other_0 0)) this_0 1 ((fx_up h this_0 0 (h other_0 0)) other_0 1)) other_0 2)) other_0 3)) this_0 4 ((fx_up (fx_up (fx_up (fx_up h this_0 0 (h other_0 0)) this_0 1 ((fx_up h this_0 0 (h other_0 0)) other_0 1)) this_0 2 ((fx_up (fx_up h this_0 0 (h other_0 0)) this_0 1 ((fx_up h this_0 0 (h other_0 0)) other_0 1)) other_0 2)) this_0 3 ((fx_up (fx_up (fx_up h this_0 0 (h other_0 0)) this_0 1 ((fx_up h this_0 0 (h other_0 0)) other_0 1)) this_0 2 ((fx_up (fx_up h this_0 0 (h other_0 0)) this_0 1 ((fx_up h this_0 0 (h other_0 0)) other_0 1)) other_0 2)) other_0 3)) other_0 4)) other_0 5)) (fx_tg Λ other_0 6) 0 (fx_tg Λ this_0 6) 0 9).bind fun h1 =>
  (fx_cp Λ h1 (fx_tg Λ other_0 7) 0 (fx_tg Λ this_0 7) 0 5).bind fun h3 =>
  (fx_cp Λ h3 (fx_tg Λ other_0 10) 0 (fx_tg Λ this_0 10) 0 5).bind fun h5 =>
  (fx_cp Λ h5 (fx_tg Λ other_0 11) 0 (fx_tg Λ this_0 11) 0 10).bind fun h7 =>
  (fx_cp Λ h7 (fx_tg Λ other_0 12) 0 (fx_tg Λ this_0 12) 0 10).bind fun h9 =>
  (fx_cp Λ h9 (fx_tg Λ other_0 13) 0 (fx_tg Λ this_0 13) 0 10).bind fun h11 =>
  Option.bind (fx_loop (s_X4_takeOver_1 Fu Λ this_0 other_0) Fu (0, h11)) fun (hour_35, h36) =>
  Option.bind (fx_loop (s_X4_takeOver_2 Fu Λ this_0 other_0) Fu (0, h36)) fun (person_61, h62) =>
  some h62
abbrev rm_X4_takeOver : Room := { frames := 1, cells := 0, slots := 0, locals := 26 }
set_option maxRecDepth 100000 in
set_option maxHeartbeats 4000000 in
theorem m_X4_takeOver (Fu : Nat) (Λ : fx_L) (this_0 : Int) (other_0 : Int) (h : fx_H) (ho : fx_H) (hf : f_X4_takeOver Fu Λ this_0 other_0 h = some ho) : fx_Met yX4_takeOver cX4_takeOver 3 none rm_X4_takeOver Λ [(6, this_0), (6, other_0)] h none ho := by
  unfold f_X4_takeOver at hf
  refine fx_enter (ls := [some (6, this_0), some (6, other_0), none]) (by decide) (Nat.le_of_ble_eq_true rfl) rfl (fun M G F K => ?_)
  refine fx_aload_n (pc := 0) (t := 4) F 0 rfl rfl dX4_takeOver_0 ?_
  refine fx_aload_n (pc := 1) (t := 4) F 1 rfl rfl dX4_takeOver_1 ?_
  refine fx_gI (pc := 2) F 4 0 0 rfl kC_X4 rfl wF_X4_41 dX4_takeOver_2 ?_
  refine fx_pI (pc := 5) F 4 0 0 rfl kC_X4 rfl rfl (by decide +kernel) wF_X4_41 dX4_takeOver_5 ?_
  refine fx_aload_n (pc := 8) (t := 4) F 0 rfl rfl dX4_takeOver_8 ?_
  refine fx_aload_n (pc := 9) (t := 4) F 1 rfl rfl dX4_takeOver_9 ?_
  refine fx_gI (pc := 10) F 4 1 1 rfl kC_X4 rfl wF_X4_45 dX4_takeOver_10 ?_
  refine fx_pI (pc := 13) F 4 1 1 rfl kC_X4 rfl rfl (by decide +kernel) wF_X4_45 dX4_takeOver_13 ?_
  refine fx_aload_n (pc := 16) (t := 4) F 0 rfl rfl dX4_takeOver_16 ?_
  refine fx_aload_n (pc := 17) (t := 4) F 1 rfl rfl dX4_takeOver_17 ?_
  refine fx_gI (pc := 18) F 4 2 2 rfl kC_X4 rfl wF_X4_52 dX4_takeOver_18 ?_
  refine fx_pI (pc := 21) F 4 2 2 rfl kC_X4 rfl rfl (by decide +kernel) wF_X4_52 dX4_takeOver_21 ?_
  refine fx_aload_n (pc := 24) (t := 4) F 0 rfl rfl dX4_takeOver_24 ?_
  refine fx_aload_n (pc := 25) (t := 4) F 1 rfl rfl dX4_takeOver_25 ?_
  refine fx_gI (pc := 26) F 4 3 3 rfl kC_X4 rfl wF_X4_55 dX4_takeOver_26 ?_
  refine fx_pI (pc := 29) F 4 3 3 rfl kC_X4 rfl rfl (by decide +kernel) wF_X4_55 dX4_takeOver_29 ?_
  refine fx_aload_n (pc := 32) (t := 4) F 0 rfl rfl dX4_takeOver_32 ?_
  refine fx_aload_n (pc := 33) (t := 4) F 1 rfl rfl dX4_takeOver_33 ?_
  refine fx_gI (pc := 34) F 4 4 4 rfl kC_X4 rfl wF_X4_58 dX4_takeOver_34 ?_
  refine fx_pI (pc := 37) F 4 4 4 rfl kC_X4 rfl rfl (by decide +kernel) wF_X4_58 dX4_takeOver_37 ?_
  refine fx_aload_n (pc := 40) (t := 4) F 0 rfl rfl dX4_takeOver_40 ?_
  refine fx_aload_n (pc := 41) (t := 4) F 1 rfl rfl dX4_takeOver_41 ?_
  refine fx_gI (pc := 42) F 4 5 5 rfl kC_X4 rfl wF_X4_61 dX4_takeOver_42 ?_
  refine fx_pI (pc := 45) F 4 5 5 rfl kC_X4 rfl rfl (by decide +kernel) wF_X4_61 dX4_takeOver_45 ?_
  refine fx_aload_n (pc := 48) (t := 4) F 1 rfl rfl dX4_takeOver_48 ?_
  refine fx_gR (pc := 49) F 4 6 6 8 rfl kC_X4 (by decide) rfl wF_X4_9 dX4_takeOver_49 ?_
  refine fx_iconst (pc := 52) F ⟨by decide, by decide⟩ dX4_takeOver_52 ?_
  refine fx_aload_n (pc := 53) (t := 4) F 0 rfl rfl dX4_takeOver_53 ?_
  refine fx_gR (pc := 54) F 4 6 6 8 rfl kC_X4 (by decide) rfl wF_X4_9 dX4_takeOver_54 ?_
  refine fx_iconst (pc := 57) F ⟨by decide, by decide⟩ dX4_takeOver_57 ?_
  refine fx_bipush (pc := 58) F ⟨by decide, by decide⟩ (by decide) dX4_takeOver_58 ?_
  obtain ⟨h1, e2, hf⟩ := fx_bnd hf
  refine fx_racopy (pc := 60) F e2 wM_X4_70 wNa_arraycopy wSt_arraycopy wI_J10 (by decide) (Nat.le_of_ble_eq_true rfl) dX4_takeOver_60 ?_
  refine fx_aload_n (pc := 63) (t := 4) F 1 rfl rfl dX4_takeOver_63 ?_
  refine fx_gR (pc := 64) F 4 7 7 8 rfl kC_X4 (by decide) rfl wF_X4_15 dX4_takeOver_64 ?_
  refine fx_iconst (pc := 67) F ⟨by decide, by decide⟩ dX4_takeOver_67 ?_
  refine fx_aload_n (pc := 68) (t := 4) F 0 rfl rfl dX4_takeOver_68 ?_
  refine fx_gR (pc := 69) F 4 7 7 8 rfl kC_X4 (by decide) rfl wF_X4_15 dX4_takeOver_69 ?_
  refine fx_iconst (pc := 72) F ⟨by decide, by decide⟩ dX4_takeOver_72 ?_
  refine fx_iconst (pc := 73) F ⟨by decide, by decide⟩ dX4_takeOver_73 ?_
  obtain ⟨h3, e4, hf⟩ := fx_bnd hf
  refine fx_racopy (pc := 74) F e4 wM_X4_70 wNa_arraycopy wSt_arraycopy wI_J10 (by decide) (Nat.le_of_ble_eq_true rfl) dX4_takeOver_74 ?_
  refine fx_aload_n (pc := 77) (t := 4) F 1 rfl rfl dX4_takeOver_77 ?_
  refine fx_gR (pc := 78) F 4 10 10 8 rfl kC_X4 (by decide) rfl wF_X4_26 dX4_takeOver_78 ?_
  refine fx_iconst (pc := 81) F ⟨by decide, by decide⟩ dX4_takeOver_81 ?_
  refine fx_aload_n (pc := 82) (t := 4) F 0 rfl rfl dX4_takeOver_82 ?_
  refine fx_gR (pc := 83) F 4 10 10 8 rfl kC_X4 (by decide) rfl wF_X4_26 dX4_takeOver_83 ?_
  refine fx_iconst (pc := 86) F ⟨by decide, by decide⟩ dX4_takeOver_86 ?_
  refine fx_iconst (pc := 87) F ⟨by decide, by decide⟩ dX4_takeOver_87 ?_
  obtain ⟨h5, e6, hf⟩ := fx_bnd hf
  refine fx_racopy (pc := 88) F e6 wM_X4_70 wNa_arraycopy wSt_arraycopy wI_J10 (by decide) (Nat.le_of_ble_eq_true rfl) dX4_takeOver_88 ?_
  refine fx_aload_n (pc := 91) (t := 4) F 1 rfl rfl dX4_takeOver_91 ?_
  refine fx_gR (pc := 92) F 4 11 11 8 rfl kC_X4 (by decide) rfl wF_X4_29 dX4_takeOver_92 ?_
  refine fx_iconst (pc := 95) F ⟨by decide, by decide⟩ dX4_takeOver_95 ?_
  refine fx_aload_n (pc := 96) (t := 4) F 0 rfl rfl dX4_takeOver_96 ?_
  refine fx_gR (pc := 97) F 4 11 11 8 rfl kC_X4 (by decide) rfl wF_X4_29 dX4_takeOver_97 ?_
  refine fx_iconst (pc := 100) F ⟨by decide, by decide⟩ dX4_takeOver_100 ?_
  refine fx_bipush (pc := 101) F ⟨by decide, by decide⟩ (by decide) dX4_takeOver_101 ?_
  obtain ⟨h7, e8, hf⟩ := fx_bnd hf
  refine fx_racopy (pc := 103) F e8 wM_X4_70 wNa_arraycopy wSt_arraycopy wI_J10 (by decide) (Nat.le_of_ble_eq_true rfl) dX4_takeOver_103 ?_
  refine fx_aload_n (pc := 106) (t := 4) F 1 rfl rfl dX4_takeOver_106 ?_
  refine fx_gR (pc := 107) F 4 12 12 8 rfl kC_X4 (by decide) rfl wF_X4_32 dX4_takeOver_107 ?_
  refine fx_iconst (pc := 110) F ⟨by decide, by decide⟩ dX4_takeOver_110 ?_
  refine fx_aload_n (pc := 111) (t := 4) F 0 rfl rfl dX4_takeOver_111 ?_
  refine fx_gR (pc := 112) F 4 12 12 8 rfl kC_X4 (by decide) rfl wF_X4_32 dX4_takeOver_112 ?_
  refine fx_iconst (pc := 115) F ⟨by decide, by decide⟩ dX4_takeOver_115 ?_
  refine fx_bipush (pc := 116) F ⟨by decide, by decide⟩ (by decide) dX4_takeOver_116 ?_
  obtain ⟨h9, e10, hf⟩ := fx_bnd hf
  refine fx_racopy (pc := 118) F e10 wM_X4_70 wNa_arraycopy wSt_arraycopy wI_J10 (by decide) (Nat.le_of_ble_eq_true rfl) dX4_takeOver_118 ?_
  refine fx_aload_n (pc := 121) (t := 4) F 1 rfl rfl dX4_takeOver_121 ?_
  refine fx_gR (pc := 122) F 4 13 13 8 rfl kC_X4 (by decide) rfl wF_X4_35 dX4_takeOver_122 ?_
  refine fx_iconst (pc := 125) F ⟨by decide, by decide⟩ dX4_takeOver_125 ?_
  refine fx_aload_n (pc := 126) (t := 4) F 0 rfl rfl dX4_takeOver_126 ?_
  refine fx_gR (pc := 127) F 4 13 13 8 rfl kC_X4 (by decide) rfl wF_X4_35 dX4_takeOver_127 ?_
  refine fx_iconst (pc := 130) F ⟨by decide, by decide⟩ dX4_takeOver_130 ?_
  refine fx_bipush (pc := 131) F ⟨by decide, by decide⟩ (by decide) dX4_takeOver_131 ?_
  obtain ⟨h11, e12, hf⟩ := fx_bnd hf
  refine fx_racopy (pc := 133) F e12 wM_X4_70 wNa_arraycopy wSt_arraycopy wI_J10 (by decide) (Nat.le_of_ble_eq_true rfl) dX4_takeOver_133 ?_
  refine fx_iconst (pc := 136) F ⟨by decide, by decide⟩ dX4_takeOver_136 ?_
  refine fx_istore_n (pc := 137) (ls' := [some (6, this_0), some (6, other_0), some (0, 0)]) F 2 rfl (by decide) rfl rfl dX4_takeOver_137 ?_
  obtain ⟨⟨hour_35, h36⟩, e37, hf⟩ := fx_bnd hf
  have hE38 : fx_J M G Λ 3 167 [some (6, this_0), some (6, other_0), some (0, hour_35)] [] h36 := by
    refine fx_iconst (pc := 167) F ⟨by decide, by decide⟩ dX4_takeOver_167 ?_
    refine fx_istore_n (pc := 168) (ls' := [some (6, this_0), some (6, other_0), some (0, 0)]) F 2 rfl (by decide) rfl rfl dX4_takeOver_168 ?_
    obtain ⟨⟨person_61, h62⟩, e63, hf⟩ := fx_bnd hf
    have hE64 : fx_J M G Λ 3 199 [some (6, this_0), some (6, other_0), some (0, person_61)] [] h62 := by
      cases hf
      exact fx_vreturn (pc := 199) F K dX4_takeOver_199
    refine fx_loop_J (Hd := (fun z : Int × fx_H => fx_J M G Λ 3 169 [some (6, this_0), some (6, other_0), some (0, z.1)] [] z.2)) (Ex := (fun z : Int × fx_H => fx_J M G Λ 3 199 [some (6, this_0), some (6, other_0), some (0, z.1)] [] z.2)) ?_ Fu _ _ e63 hE64
    rintro ⟨person_51, h52⟩ o9 eq53 ih ex
    unfold s_X4_takeOver_2 at eq53
    show fx_J M G Λ 3 169 [some (6, this_0), some (6, other_0), some (0, person_51)] [] h52
    refine fx_iload_n (pc := 169) F 2 rfl rfl dX4_takeOver_169 ?_
    refine fx_iconst (pc := 170) F ⟨by decide, by decide⟩ dX4_takeOver_170 ?_
    refine fx_nlt (pc := 171) F 199 (by decide) dX4_takeOver_171 (fun c54 => ?_) (fun c54 => ?_)
    · have eq53 := (if_pos c54).symm.trans eq53
      refine fx_aload_n (pc := 174) (t := 4) F 1 rfl rfl dX4_takeOver_174 ?_
      refine fx_gR (pc := 175) F 4 9 9 11 rfl kC_X4 (by decide) rfl wF_X4_23 dX4_takeOver_175 ?_
      refine fx_iload_n (pc := 178) F 2 rfl rfl dX4_takeOver_178 ?_
      obtain ⟨v55, e56, eq53⟩ := fx_bnd eq53
      refine fx_raldG (pc := 179) F e56 dX4_takeOver_179 ?_
      refine fx_iconst (pc := 180) F ⟨by decide, by decide⟩ dX4_takeOver_180 ?_
      refine fx_aload_n (pc := 181) (t := 4) F 0 rfl rfl dX4_takeOver_181 ?_
      refine fx_gR (pc := 182) F 4 9 9 11 rfl kC_X4 (by decide) rfl wF_X4_23 dX4_takeOver_182 ?_
      refine fx_iload_n (pc := 185) F 2 rfl rfl dX4_takeOver_185 ?_
      obtain ⟨v57, e58, eq53⟩ := fx_bnd eq53
      refine fx_raldG (pc := 186) F e58 dX4_takeOver_186 ?_
      refine fx_iconst (pc := 187) F ⟨by decide, by decide⟩ dX4_takeOver_187 ?_
      refine fx_bipush (pc := 188) F ⟨by decide, by decide⟩ (by decide) dX4_takeOver_188 ?_
      obtain ⟨h59, e60, eq53⟩ := fx_bnd eq53
      refine fx_racopy (pc := 190) F e60 wM_X4_70 wNa_arraycopy wSt_arraycopy wI_J10 (by decide) (Nat.le_of_ble_eq_true rfl) dX4_takeOver_190 ?_
      refine fx_iinc (pc := 193) (ls' := [some (6, this_0), some (6, other_0), some (0, (fx_w (person_51 + 1)))]) F (by decide) rfl rfl rfl dX4_takeOver_193 ?_
      refine fx_goto (pc := 196) F 169 (by decide) dX4_takeOver_196 ?_
      cases eq53
      exact ih _ rfl
    · have eq53 := (if_neg c54).symm.trans eq53
      cases eq53
      exact ex _ rfl
  refine fx_loop_J (Hd := (fun z : Int × fx_H => fx_J M G Λ 3 138 [some (6, this_0), some (6, other_0), some (0, z.1)] [] z.2)) (Ex := (fun z : Int × fx_H => fx_J M G Λ 3 167 [some (6, this_0), some (6, other_0), some (0, z.1)] [] z.2)) ?_ Fu _ _ e37 hE38
  rintro ⟨hour_25, h26⟩ o9 eq27 ih ex
  unfold s_X4_takeOver_1 at eq27
  show fx_J M G Λ 3 138 [some (6, this_0), some (6, other_0), some (0, hour_25)] [] h26
  refine fx_iload_n (pc := 138) F 2 rfl rfl dX4_takeOver_138 ?_
  refine fx_iconst (pc := 139) F ⟨by decide, by decide⟩ dX4_takeOver_139 ?_
  refine fx_nlt (pc := 140) F 167 (by decide) dX4_takeOver_140 (fun c28 => ?_) (fun c28 => ?_)
  · have eq27 := (if_pos c28).symm.trans eq27
    refine fx_aload_n (pc := 143) (t := 4) F 1 rfl rfl dX4_takeOver_143 ?_
    refine fx_gR (pc := 144) F 4 8 8 11 rfl kC_X4 (by decide) rfl wF_X4_20 dX4_takeOver_144 ?_
    refine fx_iload_n (pc := 147) F 2 rfl rfl dX4_takeOver_147 ?_
    obtain ⟨v29, e30, eq27⟩ := fx_bnd eq27
    refine fx_raldG (pc := 148) F e30 dX4_takeOver_148 ?_
    refine fx_iconst (pc := 149) F ⟨by decide, by decide⟩ dX4_takeOver_149 ?_
    refine fx_aload_n (pc := 150) (t := 4) F 0 rfl rfl dX4_takeOver_150 ?_
    refine fx_gR (pc := 151) F 4 8 8 11 rfl kC_X4 (by decide) rfl wF_X4_20 dX4_takeOver_151 ?_
    refine fx_iload_n (pc := 154) F 2 rfl rfl dX4_takeOver_154 ?_
    obtain ⟨v31, e32, eq27⟩ := fx_bnd eq27
    refine fx_raldG (pc := 155) F e32 dX4_takeOver_155 ?_
    refine fx_iconst (pc := 156) F ⟨by decide, by decide⟩ dX4_takeOver_156 ?_
    refine fx_iconst (pc := 157) F ⟨by decide, by decide⟩ dX4_takeOver_157 ?_
    obtain ⟨h33, e34, eq27⟩ := fx_bnd eq27
    refine fx_racopy (pc := 158) F e34 wM_X4_70 wNa_arraycopy wSt_arraycopy wI_J10 (by decide) (Nat.le_of_ble_eq_true rfl) dX4_takeOver_158 ?_
    refine fx_iinc (pc := 161) (ls' := [some (6, this_0), some (6, other_0), some (0, (fx_w (hour_25 + 1)))]) F (by decide) rfl rfl rfl dX4_takeOver_161 ?_
    refine fx_goto (pc := 164) F 138 (by decide) dX4_takeOver_164 ?_
    cases eq27
    exact ih _ rfl
  · have eq27 := (if_neg c28).symm.trans eq27
    cases eq27
    exact ex _ rfl
def f_X5_read (Fu : Nat) (Λ : fx_L) (this_0 : Int) (h : fx_H) : Option (Int × fx_H) :=
  (f_X3_readInto Fu Λ (fx_tg Λ this_0 4) (fx_tg Λ this_0 1) h).bind fun (v1, h2) =>
  Option.bind (
    if 0 ≤ v1 then
      (f_X4_takeOver Fu Λ (fx_tg Λ this_0 0) (fx_tg Λ this_0 1) (fx_up h2 this_0 13 (fx_w ((h2 this_0 13) + 1)))).bind fun h8 =>
      some h8
    else
      some h2
  ) fun h4 =>
  some (v1, h4)
abbrev rm_X5_read : Room := { frames := 7, cells := 0, slots := 0, locals := 151 }
set_option maxRecDepth 100000 in
set_option maxHeartbeats 4000000 in
theorem m_X5_read (Fu : Nat) (Λ : fx_L) (this_0 : Int) (h : fx_H) (r : Int) (ho : fx_H) (hf : f_X5_read Fu Λ this_0 h = some (r, ho)) : fx_Met yX5_read cX5_read 2 (some .int) rm_X5_read Λ [(7, this_0)] h (some (0, r)) ho := by
  unfold f_X5_read at hf
  refine fx_enter (ls := [some (7, this_0), none]) (by decide) (Nat.le_of_ble_eq_true rfl) rfl (fun M G F K => ?_)
  refine fx_aload_n (pc := 0) (t := 5) F 0 rfl rfl dX5_read_0 ?_
  refine fx_gR (pc := 1) F 5 4 4 3 rfl kC_X5 (by decide) rfl wF_X5_30 dX5_read_1 ?_
  refine fx_aload_n (pc := 4) (t := 5) F 0 rfl rfl dX5_read_4 ?_
  refine fx_gR (pc := 5) F 5 1 1 4 rfl kC_X5 (by decide) rfl wF_X5_16 dX5_read_5 ?_
  obtain ⟨⟨v1, h2⟩, e3, hf⟩ := fx_bnd hf
  refine fx_cV (pc := 8) F 3 kC_X3 [(6, (fx_tg Λ this_0 1))] (fx_tg Λ this_0 4) [] (m_X3_readInto Fu Λ (fx_tg Λ this_0 4) (fx_tg Λ this_0 1) h _ _ e3) kD_X3_readInto kI_X3_readInto rfl wM_X5_139 ⟨rfl, rfl⟩ ⟨by decide, by decide⟩ (Nat.le_of_ble_eq_true rfl) rfl dX5_read_8 ?_
  refine fx_istore_n (pc := 11) (ls' := [some (7, this_0), some (0, v1)]) F 1 rfl (by decide) rfl rfl dX5_read_11 ?_
  obtain ⟨h4, e5, hf⟩ := fx_bnd hf
  have hJ6 : fx_J M G Λ 2 37 [some (7, this_0), some (0, v1)] [] h4 := by
    refine fx_iload_n (pc := 37) F 1 rfl rfl dX5_read_37 ?_
    cases hf
    exact fx_ireturn (pc := 38) F K dX5_read_38
  refine fx_iload_n (pc := 12) F 1 rfl rfl dX5_read_12 ?_
  refine fx_nzge (pc := 13) F 37 (by decide) dX5_read_13 (fun c7 => ?_) (fun c7 => ?_)
  · have e5 := (if_pos c7).symm.trans e5
    refine fx_aload_n (pc := 16) (t := 5) F 0 rfl rfl dX5_read_16 ?_
    refine fx_dup (pc := 17) F (show (7 : Nat) ≠ 1 by decide) dX5_read_17 ?_
    refine fx_gI (pc := 18) F 5 13 13 rfl kC_X5 rfl wF_X5_75 dX5_read_18 ?_
    refine fx_iconst (pc := 21) F ⟨by decide, by decide⟩ dX5_read_21 ?_
    refine fx_iadd (pc := 22) F dX5_read_22 ?_
    refine fx_pI (pc := 23) F 5 13 13 rfl kC_X5 rfl rfl (by decide +kernel) wF_X5_75 dX5_read_23 ?_
    refine fx_aload_n (pc := 26) (t := 5) F 0 rfl rfl dX5_read_26 ?_
    refine fx_gR (pc := 27) F 5 0 0 4 rfl kC_X5 (by decide) rfl wF_X5_10 dX5_read_27 ?_
    refine fx_aload_n (pc := 30) (t := 5) F 0 rfl rfl dX5_read_30 ?_
    refine fx_gR (pc := 31) F 5 1 1 4 rfl kC_X5 (by decide) rfl wF_X5_16 dX5_read_31 ?_
    obtain ⟨h8, e9, e5⟩ := fx_bnd e5
    refine fx_cVv (pc := 34) F 4 kC_X4 [(6, (fx_tg Λ this_0 1))] (fx_tg Λ this_0 0) [] (m_X4_takeOver Fu Λ (fx_tg Λ this_0 0) (fx_tg Λ this_0 1) (fx_up h2 this_0 13 (fx_w ((h2 this_0 13) + 1))) _ e9) kD_X4_takeOver kI_X4_takeOver rfl wM_X5_143 ⟨rfl, rfl⟩ ⟨by decide, by decide⟩ (Nat.le_of_ble_eq_true rfl) rfl dX5_read_34 ?_
    cases e5
    exact hJ6
  · have e5 := (if_neg c7).symm.trans e5
    cases e5
    exact hJ6
def s_X0_sit_1 (Fu : Nat) (Λ : fx_L) (this_5 : Int) (town_6 : Int) (line_7 : Int) (freed_8 : Int) : Int × fx_H → Option ((Int × fx_H) ⊕ (Int × fx_H)) := fun (t_3, h4) =>
  if t_3 < (h4 town_6 0) then
    Option.bind (
      if t_3 = freed_8 then
        some (-1 : Int)
      else
        (fx_rd Λ h4 (fx_tg Λ town_6 6) t_3).bind fun v15 =>
        some v15
    ) fun v11 =>
    (f_X5_within Fu Λ v11 0 (fx_w (t_3 - 1)) h4).bind fun v17 =>
    Option.bind (
      if ¬ v17 = 0 then
        (fx_rd Λ h4 (fx_tg Λ this_5 1) v11).bind fun v23 =>
        some (fx_w (v23 + 1))
      else
        some (0 : Int)
    ) fun v19 =>
    (fx_wr Λ h4 (fx_tg Λ this_5 1) t_3 v19).bind fun h25 =>
    Option.bind (
      Option.bind (
        if ¬ v17 = 0 then
          (fx_rd Λ h25 (fx_tg Λ this_5 1) t_3).bind fun v35 =>
          if line_7 < v35 then
            some true
          else
            some false
        else
          some false
      ) fun b30 =>
      if b30 = true then
        (fx_rd Λ h25 (fx_tg Λ this_5 0) v11).bind fun v39 =>
        some v39
      else
        some t_3
    ) fun v27 =>
    (fx_wr Λ h25 (fx_tg Λ this_5 0) t_3 v27).bind fun h41 =>
    some (.inl ((fx_w (t_3 + 1)), h41))
  else
    some (.inr (t_3, h4))
def f_X0_sit (Fu : Nat) (Λ : fx_L) (this_0 : Int) (town_0 : Int) (line_0 : Int) (freed_0 : Int) (h : fx_H) : Option (fx_H) :=
  (f_J7_fill_53178 Fu Λ (fx_tg Λ this_0 0) (-1) (fx_up (fx_up h this_0 4 (h town_0 2)) this_0 5 ((fx_up h this_0 4 (h town_0 2)) town_0 4))).bind fun h1 =>
  Option.bind (fx_loop (s_X0_sit_1 Fu Λ this_0 town_0 line_0 freed_0) Fu (0, h1)) fun (t_79, h80) =>
  some h80
abbrev rm_X0_sit : Room := { frames := 1, cells := 0, slots := 0, locals := 23 }
set_option maxRecDepth 100000 in
set_option maxHeartbeats 4000000 in
theorem m_X0_sit (Fu : Nat) (Λ : fx_L) (this_0 : Int) (town_0 : Int) (line_0 : Int) (freed_0 : Int) (h : fx_H) (ho : fx_H) (hf : f_X0_sit Fu Λ this_0 town_0 line_0 freed_0 h = some ho) : fx_Met yX0_sit cX0_sit 7 none rm_X0_sit Λ [(2, this_0), (6, town_0), (0, line_0), (0, freed_0)] h none ho := by
  unfold f_X0_sit at hf
  refine fx_enter (ls := [some (2, this_0), some (6, town_0), some (0, line_0), some (0, freed_0), none, none, none]) (by decide) (Nat.le_of_ble_eq_true rfl) rfl (fun M G F K => ?_)
  refine fx_aload_n (pc := 0) (t := 0) F 0 rfl rfl dX0_sit_0 ?_
  refine fx_aload_n (pc := 1) (t := 4) F 1 rfl rfl dX0_sit_1 ?_
  refine fx_gI (pc := 2) F 4 2 2 rfl kC_X4 rfl wF_X0_30 dX0_sit_2 ?_
  refine fx_pI (pc := 5) F 0 4 4 rfl kC_X0 rfl rfl (by decide +kernel) wF_X0_36 dX0_sit_5 ?_
  refine fx_aload_n (pc := 8) (t := 0) F 0 rfl rfl dX0_sit_8 ?_
  refine fx_aload_n (pc := 9) (t := 4) F 1 rfl rfl dX0_sit_9 ?_
  refine fx_gI (pc := 10) F 4 4 4 rfl kC_X4 rfl wF_X0_37 dX0_sit_10 ?_
  refine fx_pI (pc := 13) F 0 5 5 rfl kC_X0 rfl rfl (by decide +kernel) wF_X0_40 dX0_sit_13 ?_
  refine fx_aload_n (pc := 16) (t := 0) F 0 rfl rfl dX0_sit_16 ?_
  refine fx_gR (pc := 17) F 0 0 0 8 rfl kC_X0 (by decide) rfl wF_X0_9 dX0_sit_17 ?_
  refine fx_iconst (pc := 20) F ⟨by decide, by decide⟩ dX0_sit_20 ?_
  obtain ⟨h1, e2, hf⟩ := fx_bnd hf
  refine fx_cSv (pc := 21) F [(10, (fx_tg Λ this_0 0)), (0, (-1))] [] (m_J7_fill_53178 Fu Λ (fx_tg Λ this_0 0) (-1) (fx_up (fx_up h this_0 4 (h town_0 2)) this_0 5 ((fx_up h this_0 4 (h town_0 2)) town_0 4)) _ e2) kD_J7_fill_53178 wSt_J7_fill_53178 wM_X0_24 ⟨rfl, rfl⟩ ⟨by decide, by decide⟩ (Nat.le_of_ble_eq_true rfl) rfl dX0_sit_21 ?_
  refine fx_iconst (pc := 24) F ⟨by decide, by decide⟩ dX0_sit_24 ?_
  refine fx_istore (pc := 25) (ls' := [some (2, this_0), some (6, town_0), some (0, line_0), some (0, freed_0), some (0, 0), none, none]) F (by decide) rfl rfl dX0_sit_25 ?_
  obtain ⟨⟨t_79, h80⟩, e81, hf⟩ := fx_bnd hf
  have hE82 : fx_J M G Λ 7 133 [some (2, this_0), some (6, town_0), some (0, line_0), some (0, freed_0), some (0, t_79), none, none] [] h80 := by
    cases hf
    exact fx_vreturn (pc := 133) F K dX0_sit_133
  refine fx_loop_J (Hd := (fun z : Int × fx_H => fx_J M G Λ 7 27 [some (2, this_0), some (6, town_0), some (0, line_0), some (0, freed_0), some (0, z.1), none, none] [] z.2)) (Ex := (fun z : Int × fx_H => fx_J M G Λ 7 133 [some (2, this_0), some (6, town_0), some (0, line_0), some (0, freed_0), some (0, z.1), none, none] [] z.2)) ?_ Fu _ _ e81 hE82
  rintro ⟨t_43, h44⟩ o9 eq45 ih ex
  unfold s_X0_sit_1 at eq45
  show fx_J M G Λ 7 27 [some (2, this_0), some (6, town_0), some (0, line_0), some (0, freed_0), some (0, t_43), none, none] [] h44
  refine fx_iload (pc := 27) F rfl dX0_sit_27 ?_
  refine fx_aload_n (pc := 29) (t := 4) F 1 rfl rfl dX0_sit_29 ?_
  refine fx_gI (pc := 30) F 4 0 0 rfl kC_X4 rfl wF_X0_41 dX0_sit_30 ?_
  refine fx_nlt (pc := 33) F 133 (by decide) dX0_sit_33 (fun c46 => ?_) (fun c46 => ?_)
  · have eq45 := (if_pos c46).symm.trans eq45
    obtain ⟨v47, e48, eq45⟩ := fx_bnd eq45
    have hJ49 : fx_J M G Λ 7 53 [some (2, this_0), some (6, town_0), some (0, line_0), some (0, freed_0), some (0, t_43), none, none] [(0, v47)] h44 := by
      refine fx_istore (pc := 53) (ls' := [some (2, this_0), some (6, town_0), some (0, line_0), some (0, freed_0), some (0, t_43), some (0, v47), none]) F (by decide) rfl rfl dX0_sit_53 ?_
      refine fx_iload (pc := 55) F rfl dX0_sit_55 ?_
      refine fx_iconst (pc := 57) F ⟨by decide, by decide⟩ dX0_sit_57 ?_
      refine fx_iload (pc := 58) F rfl dX0_sit_58 ?_
      refine fx_iconst (pc := 60) F ⟨by decide, by decide⟩ dX0_sit_60 ?_
      refine fx_isub (pc := 61) F dX0_sit_61 ?_
      obtain ⟨v53, e54, eq45⟩ := fx_bnd eq45
      refine fx_cN (pc := 62) F [(0, v47), (0, 0), (0, (fx_w (t_43 - 1)))] [] (m_X5_within Fu Λ v47 0 (fx_w (t_43 - 1)) h44 _ e54) kD_X5_within wSt_X5_within (by decide) ⟨rfl, rfl⟩ ⟨by decide, by decide⟩ (Nat.le_of_ble_eq_true rfl) rfl dX0_sit_62 ?_
      refine fx_istore (pc := 65) (ls' := [some (2, this_0), some (6, town_0), some (0, line_0), some (0, freed_0), some (0, t_43), some (0, v47), some (0, v53)]) F (by decide) rfl rfl dX0_sit_65 ?_
      refine fx_aload_n (pc := 67) (t := 0) F 0 rfl rfl dX0_sit_67 ?_
      refine fx_gR (pc := 68) F 0 1 1 8 rfl kC_X0 (by decide) rfl wF_X0_15 dX0_sit_68 ?_
      refine fx_iload (pc := 71) F rfl dX0_sit_71 ?_
      obtain ⟨v55, e56, eq45⟩ := fx_bnd eq45
      have hJ57 : fx_J M G Λ 7 91 [some (2, this_0), some (6, town_0), some (0, line_0), some (0, freed_0), some (0, t_43), some (0, v47), some (0, v53)] [(0, v55), (0, t_43), (10, (fx_tg Λ this_0 1))] h44 := by
        obtain ⟨h61, e62, eq45⟩ := fx_bnd eq45
        refine fx_rastI (pc := 91) F e62 dX0_sit_91 ?_
        refine fx_aload_n (pc := 92) (t := 0) F 0 rfl rfl dX0_sit_92 ?_
        refine fx_gR (pc := 93) F 0 0 0 8 rfl kC_X0 (by decide) rfl wF_X0_9 dX0_sit_93 ?_
        refine fx_iload (pc := 96) F rfl dX0_sit_96 ?_
        obtain ⟨v63, e64, eq45⟩ := fx_bnd eq45
        have hJ65 : fx_J M G Λ 7 126 [some (2, this_0), some (6, town_0), some (0, line_0), some (0, freed_0), some (0, t_43), some (0, v47), some (0, v53)] [(0, v63), (0, t_43), (10, (fx_tg Λ this_0 0))] h61 := by
          obtain ⟨h77, e78, eq45⟩ := fx_bnd eq45
          refine fx_rastI (pc := 126) F e78 dX0_sit_126 ?_
          refine fx_iinc (pc := 127) (ls' := [some (2, this_0), some (6, town_0), some (0, line_0), some (0, freed_0), some (0, (fx_w (t_43 + 1))), some (0, v47), some (0, v53)]) F (by decide) rfl rfl rfl dX0_sit_127 ?_
          refine fx_goto (pc := 130) F 27 (by decide) dX0_sit_130 ?_
          cases eq45
          refine fx_drop (ls' := [some (2, this_0), some (6, town_0), some (0, line_0), some (0, freed_0), some (0, (fx_w (t_43 + 1))), none, none]) ⟨rfl, rfl, rfl, rfl, rfl, trivial⟩ ?_
          exact ih _ rfl
        obtain ⟨b66, e67, e64⟩ := fx_bnd e64
        have hT68 : b66 = true → fx_J M G Λ 7 114 [some (2, this_0), some (6, town_0), some (0, line_0), some (0, freed_0), some (0, t_43), some (0, v47), some (0, v53)] [(0, t_43), (10, (fx_tg Λ this_0 0))] h61 := fun c74 => by
          have e64 := (if_pos c74).symm.trans e64
          refine fx_aload_n (pc := 114) (t := 0) F 0 rfl rfl dX0_sit_114 ?_
          refine fx_gR (pc := 115) F 0 0 0 8 rfl kC_X0 (by decide) rfl wF_X0_9 dX0_sit_115 ?_
          refine fx_iload (pc := 118) F rfl dX0_sit_118 ?_
          obtain ⟨v75, e76, e64⟩ := fx_bnd e64
          refine fx_raldI (pc := 120) F e76 dX0_sit_120 ?_
          cases e64
          refine fx_goto (pc := 121) F 126 (by decide) dX0_sit_121 ?_
          exact hJ65
        have hF69 : ¬ b66 = true → fx_J M G Λ 7 124 [some (2, this_0), some (6, town_0), some (0, line_0), some (0, freed_0), some (0, t_43), some (0, v47), some (0, v53)] [(0, t_43), (10, (fx_tg Λ this_0 0))] h61 := fun c74 => by
          have e64 := (if_neg c74).symm.trans e64
          refine fx_iload (pc := 124) F rfl dX0_sit_124 ?_
          cases e64
          exact hJ65
        refine fx_iload (pc := 98) F rfl dX0_sit_98 ?_
        refine fx_nzne (pc := 100) F 124 (by decide) dX0_sit_100 (fun c70 => ?_) (fun c70 => ?_)
        · have e67 := (if_pos c70).symm.trans e67
          refine fx_aload_n (pc := 103) (t := 0) F 0 rfl rfl dX0_sit_103 ?_
          refine fx_gR (pc := 104) F 0 1 1 8 rfl kC_X0 (by decide) rfl wF_X0_15 dX0_sit_104 ?_
          refine fx_iload (pc := 107) F rfl dX0_sit_107 ?_
          obtain ⟨v71, e72, e67⟩ := fx_bnd e67
          refine fx_raldI (pc := 109) F e72 dX0_sit_109 ?_
          refine fx_iload_n (pc := 110) F 2 rfl rfl dX0_sit_110 ?_
          refine fx_ngt (pc := 111) F 124 (by decide) dX0_sit_111 (fun c73 => ?_) (fun c73 => ?_)
          · have e67 := (if_pos c73).symm.trans e67
            cases e67
            exact hT68 (by decide)
          · have e67 := (if_neg c73).symm.trans e67
            cases e67
            exact hF69 (by decide)
        · have e67 := (if_neg c70).symm.trans e67
          cases e67
          exact hF69 (by decide)
      refine fx_iload (pc := 73) F rfl dX0_sit_73 ?_
      refine fx_nzne (pc := 75) F 90 (by decide) dX0_sit_75 (fun c58 => ?_) (fun c58 => ?_)
      · have e56 := (if_pos c58).symm.trans e56
        refine fx_aload_n (pc := 78) (t := 0) F 0 rfl rfl dX0_sit_78 ?_
        refine fx_gR (pc := 79) F 0 1 1 8 rfl kC_X0 (by decide) rfl wF_X0_15 dX0_sit_79 ?_
        refine fx_iload (pc := 82) F rfl dX0_sit_82 ?_
        obtain ⟨v59, e60, e56⟩ := fx_bnd e56
        refine fx_raldI (pc := 84) F e60 dX0_sit_84 ?_
        refine fx_iconst (pc := 85) F ⟨by decide, by decide⟩ dX0_sit_85 ?_
        refine fx_iadd (pc := 86) F dX0_sit_86 ?_
        cases e56
        refine fx_goto (pc := 87) F 91 (by decide) dX0_sit_87 ?_
        exact hJ57
      · have e56 := (if_neg c58).symm.trans e56
        refine fx_iconst (pc := 90) F ⟨by decide, by decide⟩ dX0_sit_90 ?_
        cases e56
        exact hJ57
    refine fx_iload (pc := 36) F rfl dX0_sit_36 ?_
    refine fx_iload_n (pc := 38) F 3 rfl rfl dX0_sit_38 ?_
    refine fx_neq (pc := 39) F 46 (by decide) dX0_sit_39 (fun c50 => ?_) (fun c50 => ?_)
    · have e48 := (if_pos c50).symm.trans e48
      refine fx_iconst (pc := 42) F ⟨by decide, by decide⟩ dX0_sit_42 ?_
      cases e48
      refine fx_goto (pc := 43) F 53 (by decide) dX0_sit_43 ?_
      exact hJ49
    · have e48 := (if_neg c50).symm.trans e48
      refine fx_aload_n (pc := 46) (t := 4) F 1 rfl rfl dX0_sit_46 ?_
      refine fx_gR (pc := 47) F 4 6 6 8 rfl kC_X4 (by decide) rfl wF_X0_44 dX0_sit_47 ?_
      refine fx_iload (pc := 50) F rfl dX0_sit_50 ?_
      obtain ⟨v51, e52, e48⟩ := fx_bnd e48
      refine fx_raldI (pc := 52) F e52 dX0_sit_52 ?_
      cases e48
      exact hJ49
  · have eq45 := (if_neg c46).symm.trans eq45
    cases eq45
    exact ex _ rfl
def f_X5_at (Fu : Nat) (Λ : fx_L) (this_0 : Int) (thing_0 : Int) (h : fx_H) : Option (Int × fx_H) :=
  (f_X4_hasThing Fu Λ (fx_tg Λ this_0 0) thing_0 h).bind fun v1 =>
  if v1 = 0 then
    (f_X5_refuseBad Fu Λ this_0 (-2) h).bind fun (v4, h5) =>
    some (v4, h5)
  else
    (f_X0_sit Fu Λ (fx_tg Λ this_0 5) (fx_tg Λ this_0 0) (h (fx_tg Λ this_0 0) 1) (-1) h).bind fun h7 =>
    (fx_rd Λ h7 (fx_tg Λ (fx_tg Λ this_0 5) 0) thing_0).bind fun v9 =>
    some (v9, h7)
abbrev rm_X5_at : Room := { frames := 2, cells := 0, slots := 0, locals := 49 }
set_option maxRecDepth 100000 in
set_option maxHeartbeats 4000000 in
theorem m_X5_at (Fu : Nat) (Λ : fx_L) (this_0 : Int) (thing_0 : Int) (h : fx_H) (r : Int) (ho : fx_H) (hf : f_X5_at Fu Λ this_0 thing_0 h = some (r, ho)) : fx_Met yX5_at cX5_at 2 (some .int) rm_X5_at Λ [(7, this_0), (0, thing_0)] h (some (0, r)) ho := by
  unfold f_X5_at at hf
  refine fx_enter (ls := [some (7, this_0), some (0, thing_0)]) (by decide) (Nat.le_of_ble_eq_true rfl) rfl (fun M G F K => ?_)
  refine fx_aload_n (pc := 0) (t := 5) F 0 rfl rfl dX5_at_0 ?_
  refine fx_gR (pc := 1) F 5 0 0 4 rfl kC_X5 (by decide) rfl wF_X5_10 dX5_at_1 ?_
  refine fx_iload_n (pc := 4) F 1 rfl rfl dX5_at_4 ?_
  obtain ⟨v1, e2, hf⟩ := fx_bnd hf
  refine fx_cV (pc := 5) F 4 kC_X4 [(0, thing_0)] (fx_tg Λ this_0 0) [] (m_X4_hasThing Fu Λ (fx_tg Λ this_0 0) thing_0 h _ e2) kD_X4_hasThing kI_X4_hasThing rfl wM_X5_59 ⟨rfl, rfl⟩ ⟨by decide, by decide⟩ (Nat.le_of_ble_eq_true rfl) rfl dX5_at_5 ?_
  refine fx_nzeq (pc := 8) F 18 (by decide) dX5_at_8 (fun c3 => ?_) (fun c3 => ?_)
  · have hf := (if_pos c3).symm.trans hf
    refine fx_aload_n (pc := 11) (t := 5) F 0 rfl rfl dX5_at_11 ?_
    refine fx_bipush (pc := 12) F ⟨by decide, by decide⟩ (by decide) dX5_at_12 ?_
    obtain ⟨⟨v4, h5⟩, e6, hf⟩ := fx_bnd hf
    refine fx_cV (pc := 14) F 5 kC_X5 [(0, (-2))] this_0 [] (m_X5_refuseBad Fu Λ this_0 (-2) h _ _ e6) kD_X5_refuseBad kI_X5_refuseBad rfl wM_X5_63 ⟨rfl, rfl⟩ ⟨by decide, by decide⟩ (Nat.le_of_ble_eq_true rfl) rfl dX5_at_14 ?_
    cases hf
    exact fx_ireturn (pc := 17) F K dX5_at_17
  · have hf := (if_neg c3).symm.trans hf
    refine fx_aload_n (pc := 18) (t := 5) F 0 rfl rfl dX5_at_18 ?_
    refine fx_gR (pc := 19) F 5 5 5 0 rfl kC_X5 (by decide) rfl wF_X5_37 dX5_at_19 ?_
    refine fx_aload_n (pc := 22) (t := 5) F 0 rfl rfl dX5_at_22 ?_
    refine fx_gR (pc := 23) F 5 0 0 4 rfl kC_X5 (by decide) rfl wF_X5_10 dX5_at_23 ?_
    refine fx_aload_n (pc := 26) (t := 5) F 0 rfl rfl dX5_at_26 ?_
    refine fx_gR (pc := 27) F 5 0 0 4 rfl kC_X5 (by decide) rfl wF_X5_10 dX5_at_27 ?_
    refine fx_gI (pc := 30) F 4 1 1 rfl kC_X4 rfl wF_X5_147 dX5_at_30 ?_
    refine fx_iconst (pc := 33) F ⟨by decide, by decide⟩ dX5_at_33 ?_
    obtain ⟨h7, e8, hf⟩ := fx_bnd hf
    refine fx_cVv (pc := 34) F 0 kC_X0 [(6, (fx_tg Λ this_0 0)), (0, (h (fx_tg Λ this_0 0) 1)), (0, (-1))] (fx_tg Λ this_0 5) [] (m_X0_sit Fu Λ (fx_tg Λ this_0 5) (fx_tg Λ this_0 0) (h (fx_tg Λ this_0 0) 1) (-1) h _ e8) kD_X0_sit kI_X0_sit rfl wM_X5_150 ⟨rfl, rfl⟩ ⟨by decide, by decide⟩ (Nat.le_of_ble_eq_true rfl) rfl dX5_at_34 ?_
    refine fx_aload_n (pc := 37) (t := 5) F 0 rfl rfl dX5_at_37 ?_
    refine fx_gR (pc := 38) F 5 5 5 0 rfl kC_X5 (by decide) rfl wF_X5_37 dX5_at_38 ?_
    refine fx_gR (pc := 41) F 0 0 0 8 rfl kC_X0 (by decide) rfl wF_X5_154 dX5_at_41 ?_
    refine fx_iload_n (pc := 44) F 1 rfl rfl dX5_at_44 ?_
    obtain ⟨v9, e10, hf⟩ := fx_bnd hf
    refine fx_raldI (pc := 45) F e10 dX5_at_45 ?_
    cases hf
    exact fx_ireturn (pc := 46) F K dX5_at_46
