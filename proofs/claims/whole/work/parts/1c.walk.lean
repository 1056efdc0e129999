def f_X0_isFined (Fu : Nat) (Λ : fx_L) (this_0 : Int) (kind_0 : Int) (thing_0 : Int) (h : fx_H) : Option (Int) :=
  Option.bind (
    if (((0 ≤ thing_0) ∧ (thing_0 < 9)) ∧ ((0 < thing_0) ∨ (¬ kind_0 = 4))) then
      some (1 : Int)
    else
      some (0 : Int)
  ) fun v1 =>
  (fx_zb v1).bind fun z11 =>
  some z11
abbrev rm_X0_isFined : Room := { frames := 0, cells := 0, slots := 0, locals := 0 }
set_option maxRecDepth 100000 in
set_option maxHeartbeats 4000000 in
theorem m_X0_isFined (Fu : Nat) (Λ : fx_L) (this_0 : Int) (kind_0 : Int) (thing_0 : Int) (h : fx_H) (r : Int) (hf : f_X0_isFined Fu Λ this_0 kind_0 thing_0 h = some r) : fx_Met yX0_isFined cX0_isFined 3 (some .boolean) rm_X0_isFined Λ [(2, this_0), (0, kind_0), (0, thing_0)] h (some (0, r)) h := by
  unfold f_X0_isFined at hf
  refine fx_enter (ls := [some (2, this_0), some (0, kind_0), some (0, thing_0)]) (by decide) (Nat.le_of_ble_eq_true rfl) rfl (fun M G F K => ?_)
  obtain ⟨v1, e2, hf⟩ := fx_bnd hf
  have hJ3 : fx_J M G Λ 3 24 [some (2, this_0), some (0, kind_0), some (0, thing_0)] [(0, v1)] h := by
    obtain ⟨z11, e12, hf⟩ := fx_bnd hf
    obtain ⟨e12, hzz11⟩ := fx_zb_use e12
    refine fx_top (X := fx_X) e12 ?_
    cases hf
    exact fx_zreturn (pc := 24) F hzz11 K dX0_isFined_24
  refine fx_iload_n (pc := 0) F 2 rfl rfl dX0_isFined_0 ?_
  have hT4 : ((((0 ≤ thing_0) ∧ (thing_0 < 9)) ∧ ((0 < thing_0) ∨ (¬ kind_0 = 4)))) → fx_J M G Λ 3 19 [some (2, this_0), some (0, kind_0), some (0, thing_0)] [] h := fun c10 => by
    have e2 := (if_pos c10).symm.trans e2
    refine fx_iconst (pc := 19) F ⟨by decide, by decide⟩ dX0_isFined_19 ?_
    cases e2
    refine fx_goto (pc := 20) F 24 (by decide) dX0_isFined_20 ?_
    exact hJ3
  have hF5 : ¬ ((((0 ≤ thing_0) ∧ (thing_0 < 9)) ∧ ((0 < thing_0) ∨ (¬ kind_0 = 4)))) → fx_J M G Λ 3 23 [some (2, this_0), some (0, kind_0), some (0, thing_0)] [] h := fun c10 => by
    have e2 := (if_neg c10).symm.trans e2
    refine fx_iconst (pc := 23) F ⟨by decide, by decide⟩ dX0_isFined_23 ?_
    cases e2
    exact hJ3
  refine fx_nzge (pc := 1) F 23 (by decide) dX0_isFined_1 (fun c6 => ?_) (fun c6 => ?_)
  · refine fx_iload_n (pc := 4) F 2 rfl rfl dX0_isFined_4 ?_
    refine fx_bipush (pc := 5) F ⟨by decide, by decide⟩ (by decide) dX0_isFined_5 ?_
    refine fx_nlt (pc := 7) F 23 (by decide) dX0_isFined_7 (fun c7 => ?_) (fun c7 => ?_)
    · refine fx_iload_n (pc := 10) F 2 rfl rfl dX0_isFined_10 ?_
      refine fx_jzgt (pc := 11) F 19 (by decide) dX0_isFined_11 (fun c8 => ?_) (fun c8 => ?_)
      · exact hT4 ⟨⟨c6, c7⟩, (Or.inl c8)⟩
      · refine fx_iload_n (pc := 14) F 1 rfl rfl dX0_isFined_14 ?_
        refine fx_iconst (pc := 15) F ⟨by decide, by decide⟩ dX0_isFined_15 ?_
        refine fx_nne (pc := 16) F 23 (by decide) dX0_isFined_16 (fun c9 => ?_) (fun c9 => ?_)
        · exact hT4 ⟨⟨c6, c7⟩, (Or.inr c9)⟩
        · exact hF5 (fun q => (fun q => q.elim c8 c9) q.2)
    · exact hF5 (fun q => (fun q => c7 q.2) q.1)
  · exact hF5 (fun q => (fun q => c6 q.1) q.1)
def f_X0_boughtBy (Fu : Nat) (Λ : fx_L) (this_0 : Int) (person_0 : Int) (others_0 : Int) (h : fx_H) : Option (Int) :=
  Option.bind (
    if person_0 = (h this_0 5) then
      some (fx_w ((fx_w (others_0 + 1)) * others_0))
    else
      some (0 : Int)
  ) fun v1 =>
  some v1
abbrev rm_X0_boughtBy : Room := { frames := 0, cells := 0, slots := 0, locals := 0 }
set_option maxRecDepth 100000 in
set_option maxHeartbeats 4000000 in
theorem m_X0_boughtBy (Fu : Nat) (Λ : fx_L) (this_0 : Int) (person_0 : Int) (others_0 : Int) (h : fx_H) (r : Int) (hf : f_X0_boughtBy Fu Λ this_0 person_0 others_0 h = some r) : fx_Met yX0_boughtBy cX0_boughtBy 3 (some .int) rm_X0_boughtBy Λ [(2, this_0), (0, person_0), (0, others_0)] h (some (0, r)) h := by
  unfold f_X0_boughtBy at hf
  refine fx_enter (ls := [some (2, this_0), some (0, person_0), some (0, others_0)]) (by decide) (Nat.le_of_ble_eq_true rfl) rfl (fun M G F K => ?_)
  obtain ⟨v1, e2, hf⟩ := fx_bnd hf
  have hJ3 : fx_J M G Λ 3 17 [some (2, this_0), some (0, person_0), some (0, others_0)] [(0, v1)] h := by
    cases hf
    exact fx_ireturn (pc := 17) F K dX0_boughtBy_17
  refine fx_iload_n (pc := 0) F 1 rfl rfl dX0_boughtBy_0 ?_
  refine fx_aload_n (pc := 1) (t := 0) F 0 rfl rfl dX0_boughtBy_1 ?_
  refine fx_gI (pc := 2) F 0 5 5 rfl kC_X0 rfl wF_X0_40 dX0_boughtBy_2 ?_
  refine fx_neq (pc := 5) F 16 (by decide) dX0_boughtBy_5 (fun c4 => ?_) (fun c4 => ?_)
  · have e2 := (if_pos c4).symm.trans e2
    refine fx_iload_n (pc := 8) F 2 rfl rfl dX0_boughtBy_8 ?_
    refine fx_iconst (pc := 9) F ⟨by decide, by decide⟩ dX0_boughtBy_9 ?_
    refine fx_iadd (pc := 10) F dX0_boughtBy_10 ?_
    refine fx_iload_n (pc := 11) F 2 rfl rfl dX0_boughtBy_11 ?_
    refine fx_imul (pc := 12) F dX0_boughtBy_12 ?_
    cases e2
    refine fx_goto (pc := 13) F 17 (by decide) dX0_boughtBy_13 ?_
    exact hJ3
  · have e2 := (if_neg c4).symm.trans e2
    refine fx_iconst (pc := 16) F ⟨by decide, by decide⟩ dX0_boughtBy_16 ?_
    cases e2
    exact hJ3
def s_X0_wasDone_1 (Fu : Nat) (Λ : fx_L) (this_2 : Int) (ahead_3 : Int) (person_4 : Int) (thing_5 : Int) (h : fx_H) : Int → Option ((Int) ⊕ ((Int) ⊕ (Int))) := fun other_1 =>
  if other_1 < (h this_2 4) then
    Option.bind (
      if ¬ other_1 = person_4 then
        (fx_rd Λ h ahead_3 other_1).bind fun v13 =>
        (fx_rd Λ h (fx_tg Λ this_2 0) v13).bind fun v15 =>
        (fx_rd Λ h (fx_tg Λ this_2 0) thing_5).bind fun v17 =>
        if v15 = v17 then
          some true
        else
          some false
      else
        some false
    ) fun b8 =>
    if b8 = true then
      some (.inr (.inr 1))
    else
      some (.inl (fx_w (other_1 + 1)))
  else
    some (.inr (.inl other_1))
def f_X0_wasDone (Fu : Nat) (Λ : fx_L) (this_0 : Int) (ahead_0 : Int) (person_0 : Int) (thing_0 : Int) (h : fx_H) : Option (Int) :=
  Option.bind (fx_loop (s_X0_wasDone_1 Fu Λ this_0 ahead_0 person_0 thing_0 h) Fu 0) fun x9 =>
  match x9 with
  | .inl other_37 =>
    some 0
  | .inr r9 => some r9
abbrev rm_X0_wasDone : Room := { frames := 0, cells := 0, slots := 0, locals := 0 }
set_option maxRecDepth 100000 in
set_option maxHeartbeats 4000000 in
theorem m_X0_wasDone (Fu : Nat) (Λ : fx_L) (this_0 : Int) (ahead_0 : Int) (person_0 : Int) (thing_0 : Int) (h : fx_H) (r : Int) (hf : f_X0_wasDone Fu Λ this_0 ahead_0 person_0 thing_0 h = some r) : fx_Met yX0_wasDone cX0_wasDone 5 (some .boolean) rm_X0_wasDone Λ [(2, this_0), (10, ahead_0), (0, person_0), (0, thing_0)] h (some (0, r)) h := by
  unfold f_X0_wasDone at hf
  refine fx_enter (ls := [some (2, this_0), some (10, ahead_0), some (0, person_0), some (0, thing_0), none]) (by decide) (Nat.le_of_ble_eq_true rfl) rfl (fun M G F K => ?_)
  refine fx_iconst (pc := 0) F ⟨by decide, by decide⟩ dX0_wasDone_0 ?_
  refine fx_istore (pc := 1) (ls' := [some (2, this_0), some (10, ahead_0), some (0, person_0), some (0, thing_0), some (0, 0)]) F (by decide) rfl rfl dX0_wasDone_1 ?_
  obtain ⟨x9, e38, hf⟩ := fx_bnd hf
  have hE39 : (fun y : (Int) ⊕ (Int) => match y with | .inl z => fx_J M G Λ 5 44 [some (2, this_0), some (10, ahead_0), some (0, person_0), some (0, thing_0), some (0, z)] [] h | .inr r9 => some r9 = some r) x9 := by
    cases x9 with
    | inr r9 => exact hf
    | inl y9 =>
      obtain ⟨other_37, hy9⟩ : ∃ y, y = y9 := ⟨_, rfl⟩
      subst hy9
      show fx_J M G Λ 5 44 [some (2, this_0), some (10, ahead_0), some (0, person_0), some (0, thing_0), some (0, other_37)] [] h
      refine fx_iconst (pc := 44) F ⟨by decide, by decide⟩ dX0_wasDone_44 ?_
      cases hf
      exact fx_zreturn (pc := 45) F (Or.inl rfl) K dX0_wasDone_45
  refine fx_loop_J (Hd := (fun z : Int => fx_J M G Λ 5 3 [some (2, this_0), some (10, ahead_0), some (0, person_0), some (0, thing_0), some (0, z)] [] h)) (Ex := (fun y : (Int) ⊕ (Int) => match y with | .inl z => fx_J M G Λ 5 44 [some (2, this_0), some (10, ahead_0), some (0, person_0), some (0, thing_0), some (0, z)] [] h | .inr r9 => some r9 = some r)) ?_ Fu _ _ e38 hE39
  rintro other_21 o9 eq22 ih ex
  unfold s_X0_wasDone_1 at eq22
  show fx_J M G Λ 5 3 [some (2, this_0), some (10, ahead_0), some (0, person_0), some (0, thing_0), some (0, other_21)] [] h
  refine fx_iload (pc := 3) F rfl dX0_wasDone_3 ?_
  refine fx_aload_n (pc := 5) (t := 0) F 0 rfl rfl dX0_wasDone_5 ?_
  refine fx_gI (pc := 6) F 0 4 4 rfl kC_X0 rfl wF_X0_36 dX0_wasDone_6 ?_
  refine fx_nlt (pc := 9) F 44 (by decide) dX0_wasDone_9 (fun c23 => ?_) (fun c23 => ?_)
  · have eq22 := (if_pos c23).symm.trans eq22
    obtain ⟨b24, e25, eq22⟩ := fx_bnd eq22
    have hT26 : b24 = true → fx_J M G Λ 5 36 [some (2, this_0), some (10, ahead_0), some (0, person_0), some (0, thing_0), some (0, other_21)] [] h := fun c36 => by
      have eq22 := (if_pos c36).symm.trans eq22
      refine fx_iconst (pc := 36) F ⟨by decide, by decide⟩ dX0_wasDone_36 ?_
      cases eq22
      have q9 := ex _ rfl
      cases q9
      exact fx_zreturn (pc := 37) F (Or.inr rfl) K dX0_wasDone_37
    have hF27 : ¬ b24 = true → fx_J M G Λ 5 38 [some (2, this_0), some (10, ahead_0), some (0, person_0), some (0, thing_0), some (0, other_21)] [] h := fun c36 => by
      have eq22 := (if_neg c36).symm.trans eq22
      refine fx_iinc (pc := 38) (ls' := [some (2, this_0), some (10, ahead_0), some (0, person_0), some (0, thing_0), some (0, (fx_w (other_21 + 1)))]) F (by decide) rfl rfl rfl dX0_wasDone_38 ?_
      refine fx_goto (pc := 41) F 3 (by decide) dX0_wasDone_41 ?_
      cases eq22
      exact ih _ rfl
    refine fx_iload (pc := 12) F rfl dX0_wasDone_12 ?_
    refine fx_iload_n (pc := 14) F 2 rfl rfl dX0_wasDone_14 ?_
    refine fx_nne (pc := 15) F 38 (by decide) dX0_wasDone_15 (fun c28 => ?_) (fun c28 => ?_)
    · have e25 := (if_pos c28).symm.trans e25
      refine fx_aload_n (pc := 18) (t := 0) F 0 rfl rfl dX0_wasDone_18 ?_
      refine fx_gR (pc := 19) F 0 0 0 8 rfl kC_X0 (by decide) rfl wF_X0_9 dX0_wasDone_19 ?_
      refine fx_aload_n (pc := 22) (t := 8) F 1 rfl rfl dX0_wasDone_22 ?_
      refine fx_iload (pc := 23) F rfl dX0_wasDone_23 ?_
      obtain ⟨v29, e30, e25⟩ := fx_bnd e25
      refine fx_raldI (pc := 25) F e30 dX0_wasDone_25 ?_
      obtain ⟨v31, e32, e25⟩ := fx_bnd e25
      refine fx_raldI (pc := 26) F e32 dX0_wasDone_26 ?_
      refine fx_aload_n (pc := 27) (t := 0) F 0 rfl rfl dX0_wasDone_27 ?_
      refine fx_gR (pc := 28) F 0 0 0 8 rfl kC_X0 (by decide) rfl wF_X0_9 dX0_wasDone_28 ?_
      refine fx_iload_n (pc := 31) F 3 rfl rfl dX0_wasDone_31 ?_
      obtain ⟨v33, e34, e25⟩ := fx_bnd e25
      refine fx_raldI (pc := 32) F e34 dX0_wasDone_32 ?_
      refine fx_neq (pc := 33) F 38 (by decide) dX0_wasDone_33 (fun c35 => ?_) (fun c35 => ?_)
      · have e25 := (if_pos c35).symm.trans e25
        cases e25
        exact hT26 (by decide)
      · have e25 := (if_neg c35).symm.trans e25
        cases e25
        exact hF27 (by decide)
    · have e25 := (if_neg c28).symm.trans e25
      cases e25
      exact hF27 (by decide)
  · have eq22 := (if_neg c23).symm.trans eq22
    cases eq22
    exact ex _ rfl
def s_X0_fine_1 (Fu : Nat) (Λ : fx_L) (this_12 : Int) (kind_13 : Int) (now_14 : Int) (person_15 : Int) (thing_16 : Int) (h : fx_H) : Int × Int × Int × Int → Option ((Int × Int × Int × Int) ⊕ (Int × Int × Int × Int)) := fun (others_8, lesser_9, withRich_10, other_11) =>
  if other_11 < (h this_12 4) then
    Option.bind (
      if other_11 = person_15 then
        some true
      else
        (fx_rd Λ h now_14 other_11).bind fun v24 =>
        (fx_rd Λ h (fx_tg Λ this_12 0) v24).bind fun v26 =>
        (fx_rd Λ h (fx_tg Λ this_12 0) thing_16).bind fun v28 =>
        if ¬ v26 = v28 then
          some true
        else
          (fx_rd Λ h now_14 other_11).bind fun v31 =>
          (f_X0_isFined Fu Λ this_12 kind_13 v31 h).bind fun v33 =>
          if v33 = 0 then
            some true
          else
            some false
    ) fun b19 =>
    if b19 = true then
      some (.inl (others_8, lesser_9, withRich_10, (fx_w (other_11 + 1))))
    else
      Option.bind (
        if other_11 < person_15 then
          some (1 : Int)
        else
          some (0 : Int)
      ) fun v37 =>
      Option.bind (
        if ((¬ withRich_10 = 0) ∨ (other_11 = (h this_12 5))) then
          some (1 : Int)
        else
          some (0 : Int)
      ) fun v41 =>
      some (.inl ((fx_w (others_8 + 1)), (fx_w (lesser_9 + v37)), v41, (fx_w (other_11 + 1))))
  else
    some (.inr (others_8, lesser_9, withRich_10, other_11))
def f_X0_fine (Fu : Nat) (Λ : fx_L) (this_0 : Int) (kind_0 : Int) (now_0 : Int) (ahead_0 : Int) (person_0 : Int) (thing_0 : Int) (h : fx_H) : Option (Int) :=
  (f_X0_isFined Fu Λ this_0 kind_0 thing_0 h).bind fun v1 =>
  if v1 = 0 then
    some 0
  else
    Option.bind (
      if person_0 = (h this_0 5) then
        some (1 : Int)
      else
        some (0 : Int)
    ) fun v4 =>
    Option.bind (fx_loop (s_X0_fine_1 Fu Λ this_0 kind_0 now_0 person_0 thing_0 h) Fu (0, 0, v4, 0)) fun (others_85, lesser_86, withRich_87, other_88) =>
    if kind_0 = 1 ∨ kind_0 = 4 then
      some (fx_w (2 * others_85))
    else
      if kind_0 = 2 then
        Option.bind (
          if ¬ withRich_87 = 0 then
            (f_X0_boughtBy Fu Λ this_0 person_0 others_85 h).bind fun v98 =>
            some v98
          else
            some others_85
        ) fun v94 =>
        some v94
      else
        if kind_0 = 3 then
          some lesser_86
        else
          if kind_0 = 5 then
            Option.bind (
              (f_X0_wasDone Fu Λ this_0 ahead_0 person_0 thing_0 h).bind fun v107 =>
              if ¬ v107 = 0 then
                some (fx_w (lesser_86 + 2))
              else
                some lesser_86
            ) fun v104 =>
            some v104
          else
            some others_85
abbrev rm_X0_fine : Room := { frames := 1, cells := 0, slots := 0, locals := 24 }
set_option maxRecDepth 100000 in
set_option maxHeartbeats 4000000 in
theorem m_X0_fine (Fu : Nat) (Λ : fx_L) (this_0 : Int) (kind_0 : Int) (now_0 : Int) (ahead_0 : Int) (person_0 : Int) (thing_0 : Int) (h : fx_H) (r : Int) (hf : f_X0_fine Fu Λ this_0 kind_0 now_0 ahead_0 person_0 thing_0 h = some r) : fx_Met yX0_fine cX0_fine 10 (some .int) rm_X0_fine Λ [(2, this_0), (0, kind_0), (10, now_0), (10, ahead_0), (0, person_0), (0, thing_0)] h (some (0, r)) h := by
  unfold f_X0_fine at hf
  refine fx_enter (ls := [some (2, this_0), some (0, kind_0), some (10, now_0), some (10, ahead_0), some (0, person_0), some (0, thing_0), none, none, none, none]) (by decide) (Nat.le_of_ble_eq_true rfl) rfl (fun M G F K => ?_)
  refine fx_aload_n (pc := 0) (t := 0) F 0 rfl rfl dX0_fine_0 ?_
  refine fx_iload_n (pc := 1) F 1 rfl rfl dX0_fine_1 ?_
  refine fx_iload (pc := 2) F rfl dX0_fine_2 ?_
  obtain ⟨v1, e2, hf⟩ := fx_bnd hf
  refine fx_cV (pc := 4) F 0 kC_X0 [(0, kind_0), (0, thing_0)] this_0 [] (m_X0_isFined Fu Λ this_0 kind_0 thing_0 h _ e2) kD_X0_isFined kI_X0_isFined rfl wM_X0_81 ⟨rfl, rfl⟩ ⟨by decide, by decide⟩ (Nat.le_of_ble_eq_true rfl) rfl dX0_fine_4 ?_
  refine fx_nzeq (pc := 7) F 12 (by decide) dX0_fine_7 (fun c3 => ?_) (fun c3 => ?_)
  · have hf := (if_pos c3).symm.trans hf
    refine fx_iconst (pc := 10) F ⟨by decide, by decide⟩ dX0_fine_10 ?_
    cases hf
    exact fx_ireturn (pc := 11) F K dX0_fine_11
  · have hf := (if_neg c3).symm.trans hf
    refine fx_iconst (pc := 12) F ⟨by decide, by decide⟩ dX0_fine_12 ?_
    refine fx_istore (pc := 13) (ls' := [some (2, this_0), some (0, kind_0), some (10, now_0), some (10, ahead_0), some (0, person_0), some (0, thing_0), some (0, 0), none, none, none]) F (by decide) rfl rfl dX0_fine_13 ?_
    refine fx_iconst (pc := 15) F ⟨by decide, by decide⟩ dX0_fine_15 ?_
    refine fx_istore (pc := 16) (ls' := [some (2, this_0), some (0, kind_0), some (10, now_0), some (10, ahead_0), some (0, person_0), some (0, thing_0), some (0, 0), some (0, 0), none, none]) F (by decide) rfl rfl dX0_fine_16 ?_
    obtain ⟨v4, e5, hf⟩ := fx_bnd hf
    have hJ6 : fx_J M G Λ 10 32 [some (2, this_0), some (0, kind_0), some (10, now_0), some (10, ahead_0), some (0, person_0), some (0, thing_0), some (0, 0), some (0, 0), none, none] [(0, v4)] h := by
      refine fx_istore (pc := 32) (ls' := [some (2, this_0), some (0, kind_0), some (10, now_0), some (10, ahead_0), some (0, person_0), some (0, thing_0), some (0, 0), some (0, 0), some (0, v4), none]) F (by decide) rfl rfl dX0_fine_32 ?_
      refine fx_iconst (pc := 34) F ⟨by decide, by decide⟩ dX0_fine_34 ?_
      refine fx_istore (pc := 35) (ls' := [some (2, this_0), some (0, kind_0), some (10, now_0), some (10, ahead_0), some (0, person_0), some (0, thing_0), some (0, 0), some (0, 0), some (0, v4), some (0, 0)]) F (by decide) rfl rfl dX0_fine_35 ?_
      obtain ⟨⟨others_85, lesser_86, withRich_87, other_88⟩, e89, hf⟩ := fx_bnd hf
      have hE90 : fx_J M G Λ 10 134 [some (2, this_0), some (0, kind_0), some (10, now_0), some (10, ahead_0), some (0, person_0), some (0, thing_0), some (0, others_85), some (0, lesser_86), some (0, withRich_87), some (0, other_88)] [] h := by
        refine fx_iload_n (pc := 134) F 1 rfl rfl dX0_fine_134 ?_
        by_cases c91 : kind_0 = 1 ∨ kind_0 = 4
        · have hf := (if_pos c91).symm.trans hf
          have hB92 : fx_J M G Λ 10 168 [some (2, this_0), some (0, kind_0), some (10, now_0), some (10, ahead_0), some (0, person_0), some (0, thing_0), some (0, others_85), some (0, lesser_86), some (0, withRich_87), some (0, other_88)] [] h := by
            refine fx_iconst (pc := 168) F ⟨by decide, by decide⟩ dX0_fine_168 ?_
            refine fx_iload (pc := 169) F rfl dX0_fine_169 ?_
            refine fx_imul (pc := 171) F dX0_fine_171 ?_
            cases hf
            exact fx_ireturn (pc := 172) F K dX0_fine_172
          rcases c91 with c91 | c91
          · exact fx_tswI (pc := 135) F 168 0 dX0_fine_135 c91 (by decide) rfl (by decide) hB92
          · exact fx_tswI (pc := 135) F 168 3 dX0_fine_135 c91 (by decide) rfl (by decide) hB92
        · have hf := (if_neg c91).symm.trans hf
          by_cases c93 : kind_0 = 2
          · have hf := (if_pos c93).symm.trans hf
            have hB100 : fx_J M G Λ 10 173 [some (2, this_0), some (0, kind_0), some (10, now_0), some (10, ahead_0), some (0, person_0), some (0, thing_0), some (0, others_85), some (0, lesser_86), some (0, withRich_87), some (0, other_88)] [] h := by
              obtain ⟨v94, e95, hf⟩ := fx_bnd hf
              have hJ96 : fx_J M G Λ 10 191 [some (2, this_0), some (0, kind_0), some (10, now_0), some (10, ahead_0), some (0, person_0), some (0, thing_0), some (0, others_85), some (0, lesser_86), some (0, withRich_87), some (0, other_88)] [(0, v94)] h := by
                cases hf
                exact fx_ireturn (pc := 191) F K dX0_fine_191
              refine fx_iload (pc := 173) F rfl dX0_fine_173 ?_
              refine fx_nzne (pc := 175) F 189 (by decide) dX0_fine_175 (fun c97 => ?_) (fun c97 => ?_)
              · have e95 := (if_pos c97).symm.trans e95
                refine fx_aload_n (pc := 178) (t := 0) F 0 rfl rfl dX0_fine_178 ?_
                refine fx_iload (pc := 179) F rfl dX0_fine_179 ?_
                refine fx_iload (pc := 181) F rfl dX0_fine_181 ?_
                obtain ⟨v98, e99, e95⟩ := fx_bnd e95
                refine fx_cV (pc := 183) F 0 kC_X0 [(0, person_0), (0, others_85)] this_0 [] (m_X0_boughtBy Fu Λ this_0 person_0 others_85 h _ e99) kD_X0_boughtBy kI_X0_boughtBy rfl wM_X0_85 ⟨rfl, rfl⟩ ⟨by decide, by decide⟩ (Nat.le_of_ble_eq_true rfl) rfl dX0_fine_183 ?_
                cases e95
                refine fx_goto (pc := 186) F 191 (by decide) dX0_fine_186 ?_
                exact hJ96
              · have e95 := (if_neg c97).symm.trans e95
                refine fx_iload (pc := 189) F rfl dX0_fine_189 ?_
                cases e95
                exact hJ96
            exact fx_tswI (pc := 135) F 173 1 dX0_fine_135 c93 (by decide) rfl (by decide) hB100
          · have hf := (if_neg c93).symm.trans hf
            by_cases c101 : kind_0 = 3
            · have hf := (if_pos c101).symm.trans hf
              have hB102 : fx_J M G Λ 10 192 [some (2, this_0), some (0, kind_0), some (10, now_0), some (10, ahead_0), some (0, person_0), some (0, thing_0), some (0, others_85), some (0, lesser_86), some (0, withRich_87), some (0, other_88)] [] h := by
                refine fx_iload (pc := 192) F rfl dX0_fine_192 ?_
                cases hf
                exact fx_ireturn (pc := 194) F K dX0_fine_194
              exact fx_tswI (pc := 135) F 192 2 dX0_fine_135 c101 (by decide) rfl (by decide) hB102
            · have hf := (if_neg c101).symm.trans hf
              by_cases c103 : kind_0 = 5
              · have hf := (if_pos c103).symm.trans hf
                have hB110 : fx_J M G Λ 10 195 [some (2, this_0), some (0, kind_0), some (10, now_0), some (10, ahead_0), some (0, person_0), some (0, thing_0), some (0, others_85), some (0, lesser_86), some (0, withRich_87), some (0, other_88)] [] h := by
                  obtain ⟨v104, e105, hf⟩ := fx_bnd hf
                  have hJ106 : fx_J M G Λ 10 216 [some (2, this_0), some (0, kind_0), some (10, now_0), some (10, ahead_0), some (0, person_0), some (0, thing_0), some (0, others_85), some (0, lesser_86), some (0, withRich_87), some (0, other_88)] [(0, v104)] h := by
                    cases hf
                    exact fx_ireturn (pc := 216) F K dX0_fine_216
                  refine fx_aload_n (pc := 195) (t := 0) F 0 rfl rfl dX0_fine_195 ?_
                  refine fx_aload_n (pc := 196) (t := 8) F 3 rfl rfl dX0_fine_196 ?_
                  refine fx_iload (pc := 197) F rfl dX0_fine_197 ?_
                  refine fx_iload (pc := 199) F rfl dX0_fine_199 ?_
                  obtain ⟨v107, e108, e105⟩ := fx_bnd e105
                  refine fx_cV (pc := 201) F 0 kC_X0 [(10, ahead_0), (0, person_0), (0, thing_0)] this_0 [] (m_X0_wasDone Fu Λ this_0 ahead_0 person_0 thing_0 h _ e108) kD_X0_wasDone kI_X0_wasDone rfl wM_X0_88 ⟨rfl, rfl⟩ ⟨by decide, by decide⟩ (Nat.le_of_ble_eq_true rfl) rfl dX0_fine_201 ?_
                  refine fx_nzne (pc := 204) F 214 (by decide) dX0_fine_204 (fun c109 => ?_) (fun c109 => ?_)
                  · have e105 := (if_pos c109).symm.trans e105
                    refine fx_iload (pc := 207) F rfl dX0_fine_207 ?_
                    refine fx_iconst (pc := 209) F ⟨by decide, by decide⟩ dX0_fine_209 ?_
                    refine fx_iadd (pc := 210) F dX0_fine_210 ?_
                    cases e105
                    refine fx_goto (pc := 211) F 216 (by decide) dX0_fine_211 ?_
                    exact hJ106
                  · have e105 := (if_neg c109).symm.trans e105
                    refine fx_iload (pc := 214) F rfl dX0_fine_214 ?_
                    cases e105
                    exact hJ106
                exact fx_tswI (pc := 135) F 195 4 dX0_fine_135 c103 (by decide) rfl (by decide) hB110
              · have hf := (if_neg c103).symm.trans hf
                refine fx_tswO (pc := 135) F 217 dX0_fine_135 (by omega) (by decide) ?_
                refine fx_iload (pc := 217) F rfl dX0_fine_217 ?_
                cases hf
                exact fx_ireturn (pc := 219) F K dX0_fine_219
      refine fx_loop_J (Hd := (fun z : Int × Int × Int × Int => fx_J M G Λ 10 37 [some (2, this_0), some (0, kind_0), some (10, now_0), some (10, ahead_0), some (0, person_0), some (0, thing_0), some (0, z.1), some (0, z.2.1), some (0, z.2.2.1), some (0, z.2.2.2)] [] h)) (Ex := (fun z : Int × Int × Int × Int => fx_J M G Λ 10 134 [some (2, this_0), some (0, kind_0), some (10, now_0), some (10, ahead_0), some (0, person_0), some (0, thing_0), some (0, z.1), some (0, z.2.1), some (0, z.2.2.1), some (0, z.2.2.2)] [] h)) ?_ Fu _ _ e89 hE90
      rintro ⟨others_49, lesser_50, withRich_51, other_52⟩ o9 eq53 ih ex
      unfold s_X0_fine_1 at eq53
      show fx_J M G Λ 10 37 [some (2, this_0), some (0, kind_0), some (10, now_0), some (10, ahead_0), some (0, person_0), some (0, thing_0), some (0, others_49), some (0, lesser_50), some (0, withRich_51), some (0, other_52)] [] h
      refine fx_iload (pc := 37) F rfl dX0_fine_37 ?_
      refine fx_aload_n (pc := 39) (t := 0) F 0 rfl rfl dX0_fine_39 ?_
      refine fx_gI (pc := 40) F 0 4 4 rfl kC_X0 rfl wF_X0_36 dX0_fine_40 ?_
      refine fx_nlt (pc := 43) F 134 (by decide) dX0_fine_43 (fun c54 => ?_) (fun c54 => ?_)
      · have eq53 := (if_pos c54).symm.trans eq53
        obtain ⟨b55, e56, eq53⟩ := fx_bnd eq53
        have hT57 : b55 = true → fx_J M G Λ 10 128 [some (2, this_0), some (0, kind_0), some (10, now_0), some (10, ahead_0), some (0, person_0), some (0, thing_0), some (0, others_49), some (0, lesser_50), some (0, withRich_51), some (0, other_52)] [] h := fun c72 => by
          have eq53 := (if_pos c72).symm.trans eq53
          refine fx_iinc (pc := 128) (ls' := [some (2, this_0), some (0, kind_0), some (10, now_0), some (10, ahead_0), some (0, person_0), some (0, thing_0), some (0, others_49), some (0, lesser_50), some (0, withRich_51), some (0, (fx_w (other_52 + 1)))]) F (by decide) rfl rfl rfl dX0_fine_128 ?_
          refine fx_goto (pc := 131) F 37 (by decide) dX0_fine_131 ?_
          cases eq53
          exact ih _ rfl
        have hF58 : ¬ b55 = true → fx_J M G Λ 10 87 [some (2, this_0), some (0, kind_0), some (10, now_0), some (10, ahead_0), some (0, person_0), some (0, thing_0), some (0, others_49), some (0, lesser_50), some (0, withRich_51), some (0, other_52)] [] h := fun c72 => by
          have eq53 := (if_neg c72).symm.trans eq53
          refine fx_iinc (pc := 87) (ls' := [some (2, this_0), some (0, kind_0), some (10, now_0), some (10, ahead_0), some (0, person_0), some (0, thing_0), some (0, (fx_w (others_49 + 1))), some (0, lesser_50), some (0, withRich_51), some (0, other_52)]) F (by decide) rfl rfl rfl dX0_fine_87 ?_
          refine fx_iload (pc := 90) F rfl dX0_fine_90 ?_
          obtain ⟨v73, e74, eq53⟩ := fx_bnd eq53
          have hJ75 : fx_J M G Λ 10 104 [some (2, this_0), some (0, kind_0), some (10, now_0), some (10, ahead_0), some (0, person_0), some (0, thing_0), some (0, (fx_w (others_49 + 1))), some (0, lesser_50), some (0, withRich_51), some (0, other_52)] [(0, v73), (0, lesser_50)] h := by
            refine fx_iadd (pc := 104) F dX0_fine_104 ?_
            refine fx_istore (pc := 105) (ls' := [some (2, this_0), some (0, kind_0), some (10, now_0), some (10, ahead_0), some (0, person_0), some (0, thing_0), some (0, (fx_w (others_49 + 1))), some (0, (fx_w (lesser_50 + v73))), some (0, withRich_51), some (0, other_52)]) F (by decide) rfl rfl dX0_fine_105 ?_
            obtain ⟨v77, e78, eq53⟩ := fx_bnd eq53
            have hJ79 : fx_J M G Λ 10 126 [some (2, this_0), some (0, kind_0), some (10, now_0), some (10, ahead_0), some (0, person_0), some (0, thing_0), some (0, (fx_w (others_49 + 1))), some (0, (fx_w (lesser_50 + v73))), some (0, withRich_51), some (0, other_52)] [(0, v77)] h := by
              refine fx_istore (pc := 126) (ls' := [some (2, this_0), some (0, kind_0), some (10, now_0), some (10, ahead_0), some (0, person_0), some (0, thing_0), some (0, (fx_w (others_49 + 1))), some (0, (fx_w (lesser_50 + v73))), some (0, v77), some (0, other_52)]) F (by decide) rfl rfl dX0_fine_126 ?_
              refine fx_iinc (pc := 128) (ls' := [some (2, this_0), some (0, kind_0), some (10, now_0), some (10, ahead_0), some (0, person_0), some (0, thing_0), some (0, (fx_w (others_49 + 1))), some (0, (fx_w (lesser_50 + v73))), some (0, v77), some (0, (fx_w (other_52 + 1)))]) F (by decide) rfl rfl rfl dX0_fine_128 ?_
              refine fx_goto (pc := 131) F 37 (by decide) dX0_fine_131 ?_
              cases eq53
              exact ih _ rfl
            refine fx_iload (pc := 107) F rfl dX0_fine_107 ?_
            have hT80 : (((¬ withRich_51 = 0) ∨ (other_52 = (h this_0 5)))) → fx_J M G Λ 10 121 [some (2, this_0), some (0, kind_0), some (10, now_0), some (10, ahead_0), some (0, person_0), some (0, thing_0), some (0, (fx_w (others_49 + 1))), some (0, (fx_w (lesser_50 + v73))), some (0, withRich_51), some (0, other_52)] [] h := fun c84 => by
              have e78 := (if_pos c84).symm.trans e78
              refine fx_iconst (pc := 121) F ⟨by decide, by decide⟩ dX0_fine_121 ?_
              cases e78
              refine fx_goto (pc := 122) F 126 (by decide) dX0_fine_122 ?_
              exact hJ79
            have hF81 : ¬ (((¬ withRich_51 = 0) ∨ (other_52 = (h this_0 5)))) → fx_J M G Λ 10 125 [some (2, this_0), some (0, kind_0), some (10, now_0), some (10, ahead_0), some (0, person_0), some (0, thing_0), some (0, (fx_w (others_49 + 1))), some (0, (fx_w (lesser_50 + v73))), some (0, withRich_51), some (0, other_52)] [] h := fun c84 => by
              have e78 := (if_neg c84).symm.trans e78
              refine fx_iconst (pc := 125) F ⟨by decide, by decide⟩ dX0_fine_125 ?_
              cases e78
              exact hJ79
            refine fx_jzne (pc := 109) F 121 (by decide) dX0_fine_109 (fun c82 => ?_) (fun c82 => ?_)
            · exact hT80 (Or.inl c82)
            · refine fx_iload (pc := 112) F rfl dX0_fine_112 ?_
              refine fx_aload_n (pc := 114) (t := 0) F 0 rfl rfl dX0_fine_114 ?_
              refine fx_gI (pc := 115) F 0 5 5 rfl kC_X0 rfl wF_X0_40 dX0_fine_115 ?_
              refine fx_neq (pc := 118) F 125 (by decide) dX0_fine_118 (fun c83 => ?_) (fun c83 => ?_)
              · exact hT80 (Or.inr c83)
              · exact hF81 (fun q => q.elim c82 c83)
          refine fx_iload (pc := 92) F rfl dX0_fine_92 ?_
          refine fx_iload (pc := 94) F rfl dX0_fine_94 ?_
          refine fx_nlt (pc := 96) F 103 (by decide) dX0_fine_96 (fun c76 => ?_) (fun c76 => ?_)
          · have e74 := (if_pos c76).symm.trans e74
            refine fx_iconst (pc := 99) F ⟨by decide, by decide⟩ dX0_fine_99 ?_
            cases e74
            refine fx_goto (pc := 100) F 104 (by decide) dX0_fine_100 ?_
            exact hJ75
          · have e74 := (if_neg c76).symm.trans e74
            refine fx_iconst (pc := 103) F ⟨by decide, by decide⟩ dX0_fine_103 ?_
            cases e74
            exact hJ75
        refine fx_iload (pc := 46) F rfl dX0_fine_46 ?_
        refine fx_iload (pc := 48) F rfl dX0_fine_48 ?_
        refine fx_jeq (pc := 50) F 128 (by decide) dX0_fine_50 (fun c59 => ?_) (fun c59 => ?_)
        · have e56 := (if_pos c59).symm.trans e56
          cases e56
          exact hT57 (by decide)
        · have e56 := (if_neg c59).symm.trans e56
          refine fx_aload_n (pc := 53) (t := 0) F 0 rfl rfl dX0_fine_53 ?_
          refine fx_gR (pc := 54) F 0 0 0 8 rfl kC_X0 (by decide) rfl wF_X0_9 dX0_fine_54 ?_
          refine fx_aload_n (pc := 57) (t := 8) F 2 rfl rfl dX0_fine_57 ?_
          refine fx_iload (pc := 58) F rfl dX0_fine_58 ?_
          obtain ⟨v60, e61, e56⟩ := fx_bnd e56
          refine fx_raldI (pc := 60) F e61 dX0_fine_60 ?_
          obtain ⟨v62, e63, e56⟩ := fx_bnd e56
          refine fx_raldI (pc := 61) F e63 dX0_fine_61 ?_
          refine fx_aload_n (pc := 62) (t := 0) F 0 rfl rfl dX0_fine_62 ?_
          refine fx_gR (pc := 63) F 0 0 0 8 rfl kC_X0 (by decide) rfl wF_X0_9 dX0_fine_63 ?_
          refine fx_iload (pc := 66) F rfl dX0_fine_66 ?_
          obtain ⟨v64, e65, e56⟩ := fx_bnd e56
          refine fx_raldI (pc := 68) F e65 dX0_fine_68 ?_
          refine fx_jne (pc := 69) F 128 (by decide) dX0_fine_69 (fun c66 => ?_) (fun c66 => ?_)
          · have e56 := (if_pos c66).symm.trans e56
            cases e56
            exact hT57 (by decide)
          · have e56 := (if_neg c66).symm.trans e56
            refine fx_aload_n (pc := 72) (t := 0) F 0 rfl rfl dX0_fine_72 ?_
            refine fx_iload_n (pc := 73) F 1 rfl rfl dX0_fine_73 ?_
            refine fx_aload_n (pc := 74) (t := 8) F 2 rfl rfl dX0_fine_74 ?_
            refine fx_iload (pc := 75) F rfl dX0_fine_75 ?_
            obtain ⟨v67, e68, e56⟩ := fx_bnd e56
            refine fx_raldI (pc := 77) F e68 dX0_fine_77 ?_
            obtain ⟨v69, e70, e56⟩ := fx_bnd e56
            refine fx_cV (pc := 78) F 0 kC_X0 [(0, kind_0), (0, v67)] this_0 [] (m_X0_isFined Fu Λ this_0 kind_0 v67 h _ e70) kD_X0_isFined kI_X0_isFined rfl wM_X0_81 ⟨rfl, rfl⟩ ⟨by decide, by decide⟩ (Nat.le_of_ble_eq_true rfl) rfl dX0_fine_78 ?_
            refine fx_nzeq (pc := 81) F 87 (by decide) dX0_fine_81 (fun c71 => ?_) (fun c71 => ?_)
            · have e56 := (if_pos c71).symm.trans e56
              cases e56
              refine fx_goto (pc := 84) F 128 (by decide) dX0_fine_84 ?_
              exact hT57 (by decide)
            · have e56 := (if_neg c71).symm.trans e56
              cases e56
              exact hF58 (by decide)
      · have eq53 := (if_neg c54).symm.trans eq53
        cases eq53
        exact ex _ rfl
    refine fx_iload (pc := 18) F rfl dX0_fine_18 ?_
    refine fx_aload_n (pc := 20) (t := 0) F 0 rfl rfl dX0_fine_20 ?_
    refine fx_gI (pc := 21) F 0 5 5 rfl kC_X0 rfl wF_X0_40 dX0_fine_21 ?_
    refine fx_neq (pc := 24) F 31 (by decide) dX0_fine_24 (fun c7 => ?_) (fun c7 => ?_)
    · have e5 := (if_pos c7).symm.trans e5
      refine fx_iconst (pc := 27) F ⟨by decide, by decide⟩ dX0_fine_27 ?_
      cases e5
      refine fx_goto (pc := 28) F 32 (by decide) dX0_fine_28 ?_
      exact hJ6
    · have e5 := (if_neg c7).symm.trans e5
      refine fx_iconst (pc := 31) F ⟨by decide, by decide⟩ dX0_fine_31 ?_
      cases e5
      exact hJ6
def f_X4_kindOf (Fu : Nat) (Λ : fx_L) (this_0 : Int) (hour_0 : Int) (h : fx_H) : Option (Int) :=
  Option.bind (
    if ((0 ≤ hour_0) ∧ (hour_0 < (h this_0 3))) then
      (fx_rd Λ h (fx_tg Λ this_0 7) hour_0).bind fun v9 =>
      some v9
    else
      some (0 : Int)
  ) fun v1 =>
  some v1
abbrev rm_X4_kindOf : Room := { frames := 0, cells := 0, slots := 0, locals := 0 }
set_option maxRecDepth 100000 in
set_option maxHeartbeats 4000000 in
theorem m_X4_kindOf (Fu : Nat) (Λ : fx_L) (this_0 : Int) (hour_0 : Int) (h : fx_H) (r : Int) (hf : f_X4_kindOf Fu Λ this_0 hour_0 h = some r) : fx_Met yX4_kindOf cX4_kindOf 2 (some .int) rm_X4_kindOf Λ [(6, this_0), (0, hour_0)] h (some (0, r)) h := by
  unfold f_X4_kindOf at hf
  refine fx_enter (ls := [some (6, this_0), some (0, hour_0)]) (by decide) (Nat.le_of_ble_eq_true rfl) rfl (fun M G F K => ?_)
  obtain ⟨v1, e2, hf⟩ := fx_bnd hf
  have hJ3 : fx_J M G Λ 2 22 [some (6, this_0), some (0, hour_0)] [(0, v1)] h := by
    cases hf
    exact fx_ireturn (pc := 22) F K dX4_kindOf_22
  refine fx_iload_n (pc := 0) F 1 rfl rfl dX4_kindOf_0 ?_
  have hT4 : (((0 ≤ hour_0) ∧ (hour_0 < (h this_0 3)))) → fx_J M G Λ 2 12 [some (6, this_0), some (0, hour_0)] [] h := fun c8 => by
    have e2 := (if_pos c8).symm.trans e2
    refine fx_aload_n (pc := 12) (t := 4) F 0 rfl rfl dX4_kindOf_12 ?_
    refine fx_gR (pc := 13) F 4 7 7 8 rfl kC_X4 (by decide) rfl wF_X4_15 dX4_kindOf_13 ?_
    refine fx_iload_n (pc := 16) F 1 rfl rfl dX4_kindOf_16 ?_
    obtain ⟨v9, e10, e2⟩ := fx_bnd e2
    refine fx_raldI (pc := 17) F e10 dX4_kindOf_17 ?_
    cases e2
    refine fx_goto (pc := 18) F 22 (by decide) dX4_kindOf_18 ?_
    exact hJ3
  have hF5 : ¬ (((0 ≤ hour_0) ∧ (hour_0 < (h this_0 3)))) → fx_J M G Λ 2 21 [some (6, this_0), some (0, hour_0)] [] h := fun c8 => by
    have e2 := (if_neg c8).symm.trans e2
    refine fx_iconst (pc := 21) F ⟨by decide, by decide⟩ dX4_kindOf_21 ?_
    cases e2
    exact hJ3
  refine fx_nzge (pc := 1) F 21 (by decide) dX4_kindOf_1 (fun c6 => ?_) (fun c6 => ?_)
  · refine fx_iload_n (pc := 4) F 1 rfl rfl dX4_kindOf_4 ?_
    refine fx_aload_n (pc := 5) (t := 4) F 0 rfl rfl dX4_kindOf_5 ?_
    refine fx_gI (pc := 6) F 4 3 3 rfl kC_X4 rfl wF_X4_55 dX4_kindOf_6 ?_
    refine fx_nlt (pc := 9) F 21 (by decide) dX4_kindOf_9 (fun c7 => ?_) (fun c7 => ?_)
    · exact hT4 ⟨c6, c7⟩
    · exact hF5 (fun q => c7 q.2)
  · exact hF5 (fun q => c6 q.1)
def f_X0_aheadOf (Fu : Nat) (Λ : fx_L) (this_0 : Int) (day_0 : Int) (hour_0 : Int) (h : fx_H) : Option (Int) :=
  Option.bind (
    (f_X5_within Fu Λ hour_0 1 4 h).bind fun v4 =>
    if ¬ v4 = 0 then
      (fx_rr Λ day_0 (fx_w (hour_0 - 1))).bind fun v7 =>
      some v7
    else
      some (fx_tg Λ this_0 2)
  ) fun v1 =>
  some v1
abbrev rm_X0_aheadOf : Room := { frames := 1, cells := 0, slots := 0, locals := 22 }
set_option maxRecDepth 100000 in
set_option maxHeartbeats 4000000 in
theorem m_X0_aheadOf (Fu : Nat) (Λ : fx_L) (this_0 : Int) (day_0 : Int) (hour_0 : Int) (h : fx_H) (r : Int) (hf : f_X0_aheadOf Fu Λ this_0 day_0 hour_0 h = some r) : fx_Met yX0_aheadOf cX0_aheadOf 3 (some (.array .int)) rm_X0_aheadOf Λ [(2, this_0), (13, day_0), (0, hour_0)] h (some (10, r)) h := by
  unfold f_X0_aheadOf at hf
  refine fx_enter (ls := [some (2, this_0), some (13, day_0), some (0, hour_0)]) (by decide) (Nat.le_of_ble_eq_true rfl) rfl (fun M G F K => ?_)
  obtain ⟨v1, e2, hf⟩ := fx_bnd hf
  have hJ3 : fx_J M G Λ 3 21 [some (2, this_0), some (13, day_0), some (0, hour_0)] [(10, v1)] h := by
    cases hf
    exact fx_areturn (pc := 21) F K dX0_aheadOf_21
  refine fx_iload_n (pc := 0) F 2 rfl rfl dX0_aheadOf_0 ?_
  refine fx_iconst (pc := 1) F ⟨by decide, by decide⟩ dX0_aheadOf_1 ?_
  refine fx_iconst (pc := 2) F ⟨by decide, by decide⟩ dX0_aheadOf_2 ?_
  obtain ⟨v4, e5, e2⟩ := fx_bnd e2
  refine fx_cN (pc := 3) F [(0, hour_0), (0, 1), (0, 4)] [] (m_X5_within Fu Λ hour_0 1 4 h _ e5) kD_X5_within wSt_X5_within (by decide) ⟨rfl, rfl⟩ ⟨by decide, by decide⟩ (Nat.le_of_ble_eq_true rfl) rfl dX0_aheadOf_3 ?_
  refine fx_nzne (pc := 6) F 17 (by decide) dX0_aheadOf_6 (fun c6 => ?_) (fun c6 => ?_)
  · have e2 := (if_pos c6).symm.trans e2
    refine fx_aload_n (pc := 9) (t := 11) F 1 rfl rfl dX0_aheadOf_9 ?_
    refine fx_iload_n (pc := 10) F 2 rfl rfl dX0_aheadOf_10 ?_
    refine fx_iconst (pc := 11) F ⟨by decide, by decide⟩ dX0_aheadOf_11 ?_
    refine fx_isub (pc := 12) F dX0_aheadOf_12 ?_
    obtain ⟨v7, e8, e2⟩ := fx_bnd e2
    refine fx_raldG (pc := 13) F e8 dX0_aheadOf_13 ?_
    cases e2
    refine fx_goto (pc := 14) F 21 (by decide) dX0_aheadOf_14 ?_
    exact hJ3
  · have e2 := (if_neg c6).symm.trans e2
    refine fx_aload_n (pc := 17) (t := 0) F 0 rfl rfl dX0_aheadOf_17 ?_
    refine fx_gR (pc := 18) F 0 2 2 8 rfl kC_X0 (by decide) rfl wF_X0_18 dX0_aheadOf_18 ?_
    cases e2
    exact hJ3
def f_X0_fineIn (Fu : Nat) (Λ : fx_L) (this_0 : Int) (town_0 : Int) (hour_0 : Int) (person_0 : Int) (thing_0 : Int) (h : fx_H) : Option (Int) :=
  (f_X4_kindOf Fu Λ town_0 hour_0 h).bind fun v1 =>
  (fx_rr Λ (fx_tg Λ town_0 8) hour_0).bind fun v3 =>
  (f_X0_aheadOf Fu Λ this_0 (fx_tg Λ town_0 8) hour_0 h).bind fun v5 =>
  (f_X0_fine Fu Λ this_0 v1 v3 v5 person_0 thing_0 h).bind fun v7 =>
  some v7
abbrev rm_X0_fineIn : Room := { frames := 2, cells := 0, slots := 0, locals := 53 }
set_option maxRecDepth 100000 in
set_option maxHeartbeats 4000000 in
theorem m_X0_fineIn (Fu : Nat) (Λ : fx_L) (this_0 : Int) (town_0 : Int) (hour_0 : Int) (person_0 : Int) (thing_0 : Int) (h : fx_H) (r : Int) (hf : f_X0_fineIn Fu Λ this_0 town_0 hour_0 person_0 thing_0 h = some r) : fx_Met yX0_fineIn cX0_fineIn 5 (some .int) rm_X0_fineIn Λ [(2, this_0), (6, town_0), (0, hour_0), (0, person_0), (0, thing_0)] h (some (0, r)) h := by
  unfold f_X0_fineIn at hf
  refine fx_enter (ls := [some (2, this_0), some (6, town_0), some (0, hour_0), some (0, person_0), some (0, thing_0)]) (by decide) (Nat.le_of_ble_eq_true rfl) rfl (fun M G F K => ?_)
  refine fx_aload_n (pc := 0) (t := 0) F 0 rfl rfl dX0_fineIn_0 ?_
  refine fx_aload_n (pc := 1) (t := 4) F 1 rfl rfl dX0_fineIn_1 ?_
  refine fx_iload_n (pc := 2) F 2 rfl rfl dX0_fineIn_2 ?_
  obtain ⟨v1, e2, hf⟩ := fx_bnd hf
  refine fx_cV (pc := 3) F 4 kC_X4 [(0, hour_0)] town_0 [(2, this_0)] (m_X4_kindOf Fu Λ town_0 hour_0 h _ e2) kD_X4_kindOf kI_X4_kindOf rfl wM_X0_51 ⟨rfl, rfl⟩ ⟨by decide, by decide⟩ (Nat.le_of_ble_eq_true rfl) rfl dX0_fineIn_3 ?_
  refine fx_aload_n (pc := 6) (t := 4) F 1 rfl rfl dX0_fineIn_6 ?_
  refine fx_gR (pc := 7) F 4 8 8 11 rfl kC_X4 (by decide) rfl wF_X0_55 dX0_fineIn_7 ?_
  refine fx_iload_n (pc := 10) F 2 rfl rfl dX0_fineIn_10 ?_
  obtain ⟨v3, e4, hf⟩ := fx_bnd hf
  refine fx_raldG (pc := 11) F e4 dX0_fineIn_11 ?_
  refine fx_aload_n (pc := 12) (t := 0) F 0 rfl rfl dX0_fineIn_12 ?_
  refine fx_aload_n (pc := 13) (t := 4) F 1 rfl rfl dX0_fineIn_13 ?_
  refine fx_gR (pc := 14) F 4 8 8 11 rfl kC_X4 (by decide) rfl wF_X0_55 dX0_fineIn_14 ?_
  refine fx_iload_n (pc := 17) F 2 rfl rfl dX0_fineIn_17 ?_
  obtain ⟨v5, e6, hf⟩ := fx_bnd hf
  refine fx_cV (pc := 18) F 0 kC_X0 [(13, (fx_tg Λ town_0 8)), (0, hour_0)] this_0 [(10, v3), (0, v1), (2, this_0)] (m_X0_aheadOf Fu Λ this_0 (fx_tg Λ town_0 8) hour_0 h _ e6) kD_X0_aheadOf kI_X0_aheadOf rfl wM_X0_59 ⟨rfl, rfl⟩ ⟨by decide, by decide⟩ (Nat.le_of_ble_eq_true rfl) rfl dX0_fineIn_18 ?_
  refine fx_iload_n (pc := 21) F 3 rfl rfl dX0_fineIn_21 ?_
  refine fx_iload (pc := 22) F rfl dX0_fineIn_22 ?_
  obtain ⟨v7, e8, hf⟩ := fx_bnd hf
  refine fx_cV (pc := 24) F 0 kC_X0 [(0, v1), (10, v3), (10, v5), (0, person_0), (0, thing_0)] this_0 [] (m_X0_fine Fu Λ this_0 v1 v3 v5 person_0 thing_0 h _ e8) kD_X0_fine kI_X0_fine rfl wM_X0_63 ⟨rfl, rfl⟩ ⟨by decide, by decide⟩ (Nat.le_of_ble_eq_true rfl) rfl dX0_fineIn_24 ?_
  cases hf
  exact fx_ireturn (pc := 27) F K dX0_fineIn_27
def f_X5_pays (Fu : Nat) (Λ : fx_L) (this_0 : Int) (person_0 : Int) (hour_0 : Int) (h : fx_H) : Option (Int × fx_H) :=
  Option.bind (
    (f_X4_hasPerson Fu Λ (fx_tg Λ this_0 0) person_0 h).bind fun v5 =>
    if v5 = 0 then
      some true
    else
      (f_X4_hasHour Fu Λ (fx_tg Λ this_0 0) hour_0 h).bind fun v8 =>
      if v8 = 0 then
        some true
      else
        some false
  ) fun b1 =>
  if b1 = true then
    (f_X5_refuseBad Fu Λ this_0 (-2) h).bind fun (v12, h13) =>
    some (v12, h13)
  else
    (f_X0_sit Fu Λ (fx_tg Λ this_0 5) (fx_tg Λ this_0 0) (h (fx_tg Λ this_0 0) 1) (-1) h).bind fun h15 =>
    (fx_rr Λ (fx_tg Λ (fx_tg Λ this_0 0) 8) hour_0).bind fun v17 =>
    (fx_rd Λ h15 v17 person_0).bind fun v19 =>
    (f_X0_fineIn Fu Λ (fx_tg Λ this_0 5) (fx_tg Λ this_0 0) hour_0 person_0 v19 h15).bind fun v21 =>
    some (v21, h15)
abbrev rm_X5_pays : Room := { frames := 3, cells := 0, slots := 0, locals := 77 }
set_option maxRecDepth 100000 in
set_option maxHeartbeats 4000000 in
theorem m_X5_pays (Fu : Nat) (Λ : fx_L) (this_0 : Int) (person_0 : Int) (hour_0 : Int) (h : fx_H) (r : Int) (ho : fx_H) (hf : f_X5_pays Fu Λ this_0 person_0 hour_0 h = some (r, ho)) : fx_Met yX5_pays cX5_pays 3 (some .int) rm_X5_pays Λ [(7, this_0), (0, person_0), (0, hour_0)] h (some (0, r)) ho := by
  unfold f_X5_pays at hf
  refine fx_enter (ls := [some (7, this_0), some (0, person_0), some (0, hour_0)]) (by decide) (Nat.le_of_ble_eq_true rfl) rfl (fun M G F K => ?_)
  obtain ⟨b1, e2, hf⟩ := fx_bnd hf
  have hT3 : b1 = true → fx_J M G Λ 3 22 [some (7, this_0), some (0, person_0), some (0, hour_0)] [] h := fun c11 => by
    have hf := (if_pos c11).symm.trans hf
    refine fx_aload_n (pc := 22) (t := 5) F 0 rfl rfl dX5_pays_22 ?_
    refine fx_bipush (pc := 23) F ⟨by decide, by decide⟩ (by decide) dX5_pays_23 ?_
    obtain ⟨⟨v12, h13⟩, e14, hf⟩ := fx_bnd hf
    refine fx_cV (pc := 25) F 5 kC_X5 [(0, (-2))] this_0 [] (m_X5_refuseBad Fu Λ this_0 (-2) h _ _ e14) kD_X5_refuseBad kI_X5_refuseBad rfl wM_X5_63 ⟨rfl, rfl⟩ ⟨by decide, by decide⟩ (Nat.le_of_ble_eq_true rfl) rfl dX5_pays_25 ?_
    cases hf
    exact fx_ireturn (pc := 28) F K dX5_pays_28
  have hF4 : ¬ b1 = true → fx_J M G Λ 3 29 [some (7, this_0), some (0, person_0), some (0, hour_0)] [] h := fun c11 => by
    have hf := (if_neg c11).symm.trans hf
    refine fx_aload_n (pc := 29) (t := 5) F 0 rfl rfl dX5_pays_29 ?_
    refine fx_gR (pc := 30) F 5 5 5 0 rfl kC_X5 (by decide) rfl wF_X5_37 dX5_pays_30 ?_
    refine fx_aload_n (pc := 33) (t := 5) F 0 rfl rfl dX5_pays_33 ?_
    refine fx_gR (pc := 34) F 5 0 0 4 rfl kC_X5 (by decide) rfl wF_X5_10 dX5_pays_34 ?_
    refine fx_aload_n (pc := 37) (t := 5) F 0 rfl rfl dX5_pays_37 ?_
    refine fx_gR (pc := 38) F 5 0 0 4 rfl kC_X5 (by decide) rfl wF_X5_10 dX5_pays_38 ?_
    refine fx_gI (pc := 41) F 4 1 1 rfl kC_X4 rfl wF_X5_147 dX5_pays_41 ?_
    refine fx_iconst (pc := 44) F ⟨by decide, by decide⟩ dX5_pays_44 ?_
    obtain ⟨h15, e16, hf⟩ := fx_bnd hf
    refine fx_cVv (pc := 45) F 0 kC_X0 [(6, (fx_tg Λ this_0 0)), (0, (h (fx_tg Λ this_0 0) 1)), (0, (-1))] (fx_tg Λ this_0 5) [] (m_X0_sit Fu Λ (fx_tg Λ this_0 5) (fx_tg Λ this_0 0) (h (fx_tg Λ this_0 0) 1) (-1) h _ e16) kD_X0_sit kI_X0_sit rfl wM_X5_150 ⟨rfl, rfl⟩ ⟨by decide, by decide⟩ (Nat.le_of_ble_eq_true rfl) rfl dX5_pays_45 ?_
    refine fx_aload_n (pc := 48) (t := 5) F 0 rfl rfl dX5_pays_48 ?_
    refine fx_gR (pc := 49) F 5 5 5 0 rfl kC_X5 (by decide) rfl wF_X5_37 dX5_pays_49 ?_
    refine fx_aload_n (pc := 52) (t := 5) F 0 rfl rfl dX5_pays_52 ?_
    refine fx_gR (pc := 53) F 5 0 0 4 rfl kC_X5 (by decide) rfl wF_X5_10 dX5_pays_53 ?_
    refine fx_iload_n (pc := 56) F 2 rfl rfl dX5_pays_56 ?_
    refine fx_iload_n (pc := 57) F 1 rfl rfl dX5_pays_57 ?_
    refine fx_aload_n (pc := 58) (t := 5) F 0 rfl rfl dX5_pays_58 ?_
    refine fx_gR (pc := 59) F 5 0 0 4 rfl kC_X5 (by decide) rfl wF_X5_10 dX5_pays_59 ?_
    refine fx_gR (pc := 62) F 4 8 8 11 rfl kC_X4 (by decide) rfl wF_X5_106 dX5_pays_62 ?_
    refine fx_iload_n (pc := 65) F 2 rfl rfl dX5_pays_65 ?_
    obtain ⟨v17, e18, hf⟩ := fx_bnd hf
    refine fx_raldG (pc := 66) F e18 dX5_pays_66 ?_
    refine fx_iload_n (pc := 67) F 1 rfl rfl dX5_pays_67 ?_
    obtain ⟨v19, e20, hf⟩ := fx_bnd hf
    refine fx_raldI (pc := 68) F e20 dX5_pays_68 ?_
    obtain ⟨v21, e22, hf⟩ := fx_bnd hf
    refine fx_cV (pc := 69) F 0 kC_X0 [(6, (fx_tg Λ this_0 0)), (0, hour_0), (0, person_0), (0, v19)] (fx_tg Λ this_0 5) [] (m_X0_fineIn Fu Λ (fx_tg Λ this_0 5) (fx_tg Λ this_0 0) hour_0 person_0 v19 h15 _ e22) kD_X0_fineIn kI_X0_fineIn rfl wM_X5_158 ⟨rfl, rfl⟩ ⟨by decide, by decide⟩ (Nat.le_of_ble_eq_true rfl) rfl dX5_pays_69 ?_
    cases hf
    exact fx_ireturn (pc := 72) F K dX5_pays_72
  refine fx_aload_n (pc := 0) (t := 5) F 0 rfl rfl dX5_pays_0 ?_
  refine fx_gR (pc := 1) F 5 0 0 4 rfl kC_X5 (by decide) rfl wF_X5_10 dX5_pays_1 ?_
  refine fx_iload_n (pc := 4) F 1 rfl rfl dX5_pays_4 ?_
  obtain ⟨v5, e6, e2⟩ := fx_bnd e2
  refine fx_cV (pc := 5) F 4 kC_X4 [(0, person_0)] (fx_tg Λ this_0 0) [] (m_X4_hasPerson Fu Λ (fx_tg Λ this_0 0) person_0 h _ e6) kD_X4_hasPerson kI_X4_hasPerson rfl wM_X5_100 ⟨rfl, rfl⟩ ⟨by decide, by decide⟩ (Nat.le_of_ble_eq_true rfl) rfl dX5_pays_5 ?_
  refine fx_jzeq (pc := 8) F 22 (by decide) dX5_pays_8 (fun c7 => ?_) (fun c7 => ?_)
  · have e2 := (if_pos c7).symm.trans e2
    cases e2
    exact hT3 (by decide)
  · have e2 := (if_neg c7).symm.trans e2
    refine fx_aload_n (pc := 11) (t := 5) F 0 rfl rfl dX5_pays_11 ?_
    refine fx_gR (pc := 12) F 5 0 0 4 rfl kC_X5 (by decide) rfl wF_X5_10 dX5_pays_12 ?_
    refine fx_iload_n (pc := 15) F 2 rfl rfl dX5_pays_15 ?_
    obtain ⟨v8, e9, e2⟩ := fx_bnd e2
    refine fx_cV (pc := 16) F 4 kC_X4 [(0, hour_0)] (fx_tg Λ this_0 0) [] (m_X4_hasHour Fu Λ (fx_tg Λ this_0 0) hour_0 h _ e9) kD_X4_hasHour kI_X4_hasHour rfl wM_X5_90 ⟨rfl, rfl⟩ ⟨by decide, by decide⟩ (Nat.le_of_ble_eq_true rfl) rfl dX5_pays_16 ?_
    refine fx_nzeq (pc := 19) F 29 (by decide) dX5_pays_19 (fun c10 => ?_) (fun c10 => ?_)
    · have e2 := (if_pos c10).symm.trans e2
      cases e2
      exact hT3 (by decide)
    · have e2 := (if_neg c10).symm.trans e2
      cases e2
      exact hF4 (by decide)
def s_X0_finesOfHour_1 (Fu : Nat) (Λ : fx_L) (this_3 : Int) (kind_4 : Int) (now_5 : Int) (ahead_6 : Int) (h : fx_H) : Int × Int → Option ((Int × Int) ⊕ (Int × Int)) := fun (fines_1, person_2) =>
  if person_2 < (h this_3 4) then
    (fx_rd Λ h now_5 person_2).bind fun v9 =>
    (f_X0_fine Fu Λ this_3 kind_4 now_5 ahead_6 person_2 v9 h).bind fun v11 =>
    some (.inl ((fx_w (fines_1 + v11)), (fx_w (person_2 + 1))))
  else
    some (.inr (fines_1, person_2))
def f_X0_finesOfHour (Fu : Nat) (Λ : fx_L) (this_0 : Int) (kind_0 : Int) (now_0 : Int) (ahead_0 : Int) (h : fx_H) : Option (Int) :=
  Option.bind (fx_loop (s_X0_finesOfHour_1 Fu Λ this_0 kind_0 now_0 ahead_0 h) Fu (0, 0)) fun (fines_21, person_22) =>
  some fines_21
abbrev rm_X0_finesOfHour : Room := { frames := 2, cells := 0, slots := 0, locals := 53 }
set_option maxRecDepth 100000 in
set_option maxHeartbeats 4000000 in
theorem m_X0_finesOfHour (Fu : Nat) (Λ : fx_L) (this_0 : Int) (kind_0 : Int) (now_0 : Int) (ahead_0 : Int) (h : fx_H) (r : Int) (hf : f_X0_finesOfHour Fu Λ this_0 kind_0 now_0 ahead_0 h = some r) : fx_Met yX0_finesOfHour cX0_finesOfHour 6 (some .int) rm_X0_finesOfHour Λ [(2, this_0), (0, kind_0), (10, now_0), (10, ahead_0)] h (some (0, r)) h := by
  unfold f_X0_finesOfHour at hf
  refine fx_enter (ls := [some (2, this_0), some (0, kind_0), some (10, now_0), some (10, ahead_0), none, none]) (by decide) (Nat.le_of_ble_eq_true rfl) rfl (fun M G F K => ?_)
  refine fx_iconst (pc := 0) F ⟨by decide, by decide⟩ dX0_finesOfHour_0 ?_
  refine fx_istore (pc := 1) (ls' := [some (2, this_0), some (0, kind_0), some (10, now_0), some (10, ahead_0), some (0, 0), none]) F (by decide) rfl rfl dX0_finesOfHour_1 ?_
  refine fx_iconst (pc := 3) F ⟨by decide, by decide⟩ dX0_finesOfHour_3 ?_
  refine fx_istore (pc := 4) (ls' := [some (2, this_0), some (0, kind_0), some (10, now_0), some (10, ahead_0), some (0, 0), some (0, 0)]) F (by decide) rfl rfl dX0_finesOfHour_4 ?_
  obtain ⟨⟨fines_21, person_22⟩, e23, hf⟩ := fx_bnd hf
  have hE24 : fx_J M G Λ 6 39 [some (2, this_0), some (0, kind_0), some (10, now_0), some (10, ahead_0), some (0, fines_21), some (0, person_22)] [] h := by
    refine fx_iload (pc := 39) F rfl dX0_finesOfHour_39 ?_
    cases hf
    exact fx_ireturn (pc := 41) F K dX0_finesOfHour_41
  refine fx_loop_J (Hd := (fun z : Int × Int => fx_J M G Λ 6 6 [some (2, this_0), some (0, kind_0), some (10, now_0), some (10, ahead_0), some (0, z.1), some (0, z.2)] [] h)) (Ex := (fun z : Int × Int => fx_J M G Λ 6 39 [some (2, this_0), some (0, kind_0), some (10, now_0), some (10, ahead_0), some (0, z.1), some (0, z.2)] [] h)) ?_ Fu _ _ e23 hE24
  rintro ⟨fines_13, person_14⟩ o9 eq15 ih ex
  unfold s_X0_finesOfHour_1 at eq15
  show fx_J M G Λ 6 6 [some (2, this_0), some (0, kind_0), some (10, now_0), some (10, ahead_0), some (0, fines_13), some (0, person_14)] [] h
  refine fx_iload (pc := 6) F rfl dX0_finesOfHour_6 ?_
  refine fx_aload_n (pc := 8) (t := 0) F 0 rfl rfl dX0_finesOfHour_8 ?_
  refine fx_gI (pc := 9) F 0 4 4 rfl kC_X0 rfl wF_X0_36 dX0_finesOfHour_9 ?_
  refine fx_nlt (pc := 12) F 39 (by decide) dX0_finesOfHour_12 (fun c16 => ?_) (fun c16 => ?_)
  · have eq15 := (if_pos c16).symm.trans eq15
    refine fx_iload (pc := 15) F rfl dX0_finesOfHour_15 ?_
    refine fx_aload_n (pc := 17) (t := 0) F 0 rfl rfl dX0_finesOfHour_17 ?_
    refine fx_iload_n (pc := 18) F 1 rfl rfl dX0_finesOfHour_18 ?_
    refine fx_aload_n (pc := 19) (t := 8) F 2 rfl rfl dX0_finesOfHour_19 ?_
    refine fx_aload_n (pc := 20) (t := 8) F 3 rfl rfl dX0_finesOfHour_20 ?_
    refine fx_iload (pc := 21) F rfl dX0_finesOfHour_21 ?_
    refine fx_aload_n (pc := 23) (t := 8) F 2 rfl rfl dX0_finesOfHour_23 ?_
    refine fx_iload (pc := 24) F rfl dX0_finesOfHour_24 ?_
    obtain ⟨v17, e18, eq15⟩ := fx_bnd eq15
    refine fx_raldI (pc := 26) F e18 dX0_finesOfHour_26 ?_
    obtain ⟨v19, e20, eq15⟩ := fx_bnd eq15
    refine fx_cV (pc := 27) F 0 kC_X0 [(0, kind_0), (10, now_0), (10, ahead_0), (0, person_14), (0, v17)] this_0 [(0, fines_13)] (m_X0_fine Fu Λ this_0 kind_0 now_0 ahead_0 person_14 v17 h _ e20) kD_X0_fine kI_X0_fine rfl wM_X0_63 ⟨rfl, rfl⟩ ⟨by decide, by decide⟩ (Nat.le_of_ble_eq_true rfl) rfl dX0_finesOfHour_27 ?_
    refine fx_iadd (pc := 30) F dX0_finesOfHour_30 ?_
    refine fx_istore (pc := 31) (ls' := [some (2, this_0), some (0, kind_0), some (10, now_0), some (10, ahead_0), some (0, (fx_w (fines_13 + v19))), some (0, person_14)]) F (by decide) rfl rfl dX0_finesOfHour_31 ?_
    refine fx_iinc (pc := 33) (ls' := [some (2, this_0), some (0, kind_0), some (10, now_0), some (10, ahead_0), some (0, (fx_w (fines_13 + v19))), some (0, (fx_w (person_14 + 1)))]) F (by decide) rfl rfl rfl dX0_finesOfHour_33 ?_
    refine fx_goto (pc := 36) F 6 (by decide) dX0_finesOfHour_36 ?_
    cases eq15
    exact ih _ rfl
  · have eq15 := (if_neg c16).symm.trans eq15
    cases eq15
    exact ex _ rfl
def s_X0_finesOf_1 (Fu : Nat) (Λ : fx_L) (this_3 : Int) (town_4 : Int) (day_5 : Int) (hours_6 : Int) (h : fx_H) : Int × Int → Option ((Int × Int) ⊕ (Int × Int)) := fun (fines_1, hour_2) =>
  if hour_2 < hours_6 then
    (f_X4_kindOf Fu Λ town_4 hour_2 h).bind fun v9 =>
    (fx_rr Λ day_5 hour_2).bind fun v11 =>
    (f_X0_aheadOf Fu Λ this_3 day_5 hour_2 h).bind fun v13 =>
    (f_X0_finesOfHour Fu Λ this_3 v9 v11 v13 h).bind fun v15 =>
    some (.inl ((fx_w (fines_1 + v15)), (fx_w (hour_2 + 1))))
  else
    some (.inr (fines_1, hour_2))
def f_X0_finesOf (Fu : Nat) (Λ : fx_L) (this_0 : Int) (town_0 : Int) (day_0 : Int) (hours_0 : Int) (h : fx_H) : Option (Int) :=
  Option.bind (fx_loop (s_X0_finesOf_1 Fu Λ this_0 town_0 day_0 hours_0 h) Fu (0, 0)) fun (fines_29, hour_30) =>
  some fines_29
abbrev rm_X0_finesOf : Room := { frames := 3, cells := 0, slots := 0, locals := 78 }
set_option maxRecDepth 100000 in
set_option maxHeartbeats 4000000 in
theorem m_X0_finesOf (Fu : Nat) (Λ : fx_L) (this_0 : Int) (town_0 : Int) (day_0 : Int) (hours_0 : Int) (h : fx_H) (r : Int) (hf : f_X0_finesOf Fu Λ this_0 town_0 day_0 hours_0 h = some r) : fx_Met yX0_finesOf cX0_finesOf 6 (some .int) rm_X0_finesOf Λ [(2, this_0), (6, town_0), (13, day_0), (0, hours_0)] h (some (0, r)) h := by
  unfold f_X0_finesOf at hf
  refine fx_enter (ls := [some (2, this_0), some (6, town_0), some (13, day_0), some (0, hours_0), none, none]) (by decide) (Nat.le_of_ble_eq_true rfl) rfl (fun M G F K => ?_)
  refine fx_iconst (pc := 0) F ⟨by decide, by decide⟩ dX0_finesOf_0 ?_
  refine fx_istore (pc := 1) (ls' := [some (2, this_0), some (6, town_0), some (13, day_0), some (0, hours_0), some (0, 0), none]) F (by decide) rfl rfl dX0_finesOf_1 ?_
  refine fx_iconst (pc := 3) F ⟨by decide, by decide⟩ dX0_finesOf_3 ?_
  refine fx_istore (pc := 4) (ls' := [some (2, this_0), some (6, town_0), some (13, day_0), some (0, hours_0), some (0, 0), some (0, 0)]) F (by decide) rfl rfl dX0_finesOf_4 ?_
  obtain ⟨⟨fines_29, hour_30⟩, e31, hf⟩ := fx_bnd hf
  have hE32 : fx_J M G Λ 6 44 [some (2, this_0), some (6, town_0), some (13, day_0), some (0, hours_0), some (0, fines_29), some (0, hour_30)] [] h := by
    refine fx_iload (pc := 44) F rfl dX0_finesOf_44 ?_
    cases hf
    exact fx_ireturn (pc := 46) F K dX0_finesOf_46
  refine fx_loop_J (Hd := (fun z : Int × Int => fx_J M G Λ 6 6 [some (2, this_0), some (6, town_0), some (13, day_0), some (0, hours_0), some (0, z.1), some (0, z.2)] [] h)) (Ex := (fun z : Int × Int => fx_J M G Λ 6 44 [some (2, this_0), some (6, town_0), some (13, day_0), some (0, hours_0), some (0, z.1), some (0, z.2)] [] h)) ?_ Fu _ _ e31 hE32
  rintro ⟨fines_17, hour_18⟩ o9 eq19 ih ex
  unfold s_X0_finesOf_1 at eq19
  show fx_J M G Λ 6 6 [some (2, this_0), some (6, town_0), some (13, day_0), some (0, hours_0), some (0, fines_17), some (0, hour_18)] [] h
  refine fx_iload (pc := 6) F rfl dX0_finesOf_6 ?_
  refine fx_iload_n (pc := 8) F 3 rfl rfl dX0_finesOf_8 ?_
  refine fx_nlt (pc := 9) F 44 (by decide) dX0_finesOf_9 (fun c20 => ?_) (fun c20 => ?_)
  · have eq19 := (if_pos c20).symm.trans eq19
    refine fx_iload (pc := 12) F rfl dX0_finesOf_12 ?_
    refine fx_aload_n (pc := 14) (t := 0) F 0 rfl rfl dX0_finesOf_14 ?_
    refine fx_aload_n (pc := 15) (t := 4) F 1 rfl rfl dX0_finesOf_15 ?_
    refine fx_iload (pc := 16) F rfl dX0_finesOf_16 ?_
    obtain ⟨v21, e22, eq19⟩ := fx_bnd eq19
    refine fx_cV (pc := 18) F 4 kC_X4 [(0, hour_18)] town_0 [(2, this_0), (0, fines_17)] (m_X4_kindOf Fu Λ town_0 hour_18 h _ e22) kD_X4_kindOf kI_X4_kindOf rfl wM_X0_51 ⟨rfl, rfl⟩ ⟨by decide, by decide⟩ (Nat.le_of_ble_eq_true rfl) rfl dX0_finesOf_18 ?_
    refine fx_aload_n (pc := 21) (t := 11) F 2 rfl rfl dX0_finesOf_21 ?_
    refine fx_iload (pc := 22) F rfl dX0_finesOf_22 ?_
    obtain ⟨v23, e24, eq19⟩ := fx_bnd eq19
    refine fx_raldG (pc := 24) F e24 dX0_finesOf_24 ?_
    refine fx_aload_n (pc := 25) (t := 0) F 0 rfl rfl dX0_finesOf_25 ?_
    refine fx_aload_n (pc := 26) (t := 11) F 2 rfl rfl dX0_finesOf_26 ?_
    refine fx_iload (pc := 27) F rfl dX0_finesOf_27 ?_
    obtain ⟨v25, e26, eq19⟩ := fx_bnd eq19
    refine fx_cV (pc := 29) F 0 kC_X0 [(13, day_0), (0, hour_18)] this_0 [(10, v23), (0, v21), (2, this_0), (0, fines_17)] (m_X0_aheadOf Fu Λ this_0 day_0 hour_18 h _ e26) kD_X0_aheadOf kI_X0_aheadOf rfl wM_X0_59 ⟨rfl, rfl⟩ ⟨by decide, by decide⟩ (Nat.le_of_ble_eq_true rfl) rfl dX0_finesOf_29 ?_
    obtain ⟨v27, e28, eq19⟩ := fx_bnd eq19
    refine fx_cV (pc := 32) F 0 kC_X0 [(0, v21), (10, v23), (10, v25)] this_0 [(0, fines_17)] (m_X0_finesOfHour Fu Λ this_0 v21 v23 v25 h _ e28) kD_X0_finesOfHour kI_X0_finesOfHour rfl wM_X0_67 ⟨rfl, rfl⟩ ⟨by decide, by decide⟩ (Nat.le_of_ble_eq_true rfl) rfl dX0_finesOf_32 ?_
    refine fx_iadd (pc := 35) F dX0_finesOf_35 ?_
    refine fx_istore (pc := 36) (ls' := [some (2, this_0), some (6, town_0), some (13, day_0), some (0, hours_0), some (0, (fx_w (fines_17 + v27))), some (0, hour_18)]) F (by decide) rfl rfl dX0_finesOf_36 ?_
    refine fx_iinc (pc := 38) (ls' := [some (2, this_0), some (6, town_0), some (13, day_0), some (0, hours_0), some (0, (fx_w (fines_17 + v27))), some (0, (fx_w (hour_18 + 1)))]) F (by decide) rfl rfl rfl dX0_finesOf_38 ?_
    refine fx_goto (pc := 41) F 6 (by decide) dX0_finesOf_41 ?_
    cases eq19
    exact ih _ rfl
  · have eq19 := (if_neg c20).symm.trans eq19
    cases eq19
    exact ex _ rfl
def f_X5_allFines (Fu : Nat) (Λ : fx_L) (this_0 : Int) (freed_0 : Int) (h : fx_H) : Option (Int × fx_H) :=
  (f_X0_sit Fu Λ (fx_tg Λ this_0 5) (fx_tg Λ this_0 0) (h (fx_tg Λ this_0 0) 1) freed_0 h).bind fun h1 =>
  (f_X0_finesOf Fu Λ (fx_tg Λ this_0 5) (fx_tg Λ this_0 0) (fx_tg Λ (fx_tg Λ this_0 0) 8) (h1 (fx_tg Λ this_0 0) 3) h1).bind fun v3 =>
  some (v3, h1)
abbrev rm_X5_allFines : Room := { frames := 4, cells := 0, slots := 0, locals := 103 }
set_option maxRecDepth 100000 in
set_option maxHeartbeats 4000000 in
theorem m_X5_allFines (Fu : Nat) (Λ : fx_L) (this_0 : Int) (freed_0 : Int) (h : fx_H) (r : Int) (ho : fx_H) (hf : f_X5_allFines Fu Λ this_0 freed_0 h = some (r, ho)) : fx_Met yX5_allFines cX5_allFines 2 (some .int) rm_X5_allFines Λ [(7, this_0), (0, freed_0)] h (some (0, r)) ho := by
  unfold f_X5_allFines at hf
  refine fx_enter (ls := [some (7, this_0), some (0, freed_0)]) (by decide) (Nat.le_of_ble_eq_true rfl) rfl (fun M G F K => ?_)
  refine fx_aload_n (pc := 0) (t := 5) F 0 rfl rfl dX5_allFines_0 ?_
  refine fx_gR (pc := 1) F 5 5 5 0 rfl kC_X5 (by decide) rfl wF_X5_37 dX5_allFines_1 ?_
  refine fx_aload_n (pc := 4) (t := 5) F 0 rfl rfl dX5_allFines_4 ?_
  refine fx_gR (pc := 5) F 5 0 0 4 rfl kC_X5 (by decide) rfl wF_X5_10 dX5_allFines_5 ?_
  refine fx_aload_n (pc := 8) (t := 5) F 0 rfl rfl dX5_allFines_8 ?_
  refine fx_gR (pc := 9) F 5 0 0 4 rfl kC_X5 (by decide) rfl wF_X5_10 dX5_allFines_9 ?_
  refine fx_gI (pc := 12) F 4 1 1 rfl kC_X4 rfl wF_X5_147 dX5_allFines_12 ?_
  refine fx_iload_n (pc := 15) F 1 rfl rfl dX5_allFines_15 ?_
  obtain ⟨h1, e2, hf⟩ := fx_bnd hf
  refine fx_cVv (pc := 16) F 0 kC_X0 [(6, (fx_tg Λ this_0 0)), (0, (h (fx_tg Λ this_0 0) 1)), (0, freed_0)] (fx_tg Λ this_0 5) [] (m_X0_sit Fu Λ (fx_tg Λ this_0 5) (fx_tg Λ this_0 0) (h (fx_tg Λ this_0 0) 1) freed_0 h _ e2) kD_X0_sit kI_X0_sit rfl wM_X5_150 ⟨rfl, rfl⟩ ⟨by decide, by decide⟩ (Nat.le_of_ble_eq_true rfl) rfl dX5_allFines_16 ?_
  refine fx_aload_n (pc := 19) (t := 5) F 0 rfl rfl dX5_allFines_19 ?_
  refine fx_gR (pc := 20) F 5 5 5 0 rfl kC_X5 (by decide) rfl wF_X5_37 dX5_allFines_20 ?_
  refine fx_aload_n (pc := 23) (t := 5) F 0 rfl rfl dX5_allFines_23 ?_
  refine fx_gR (pc := 24) F 5 0 0 4 rfl kC_X5 (by decide) rfl wF_X5_10 dX5_allFines_24 ?_
  refine fx_aload_n (pc := 27) (t := 5) F 0 rfl rfl dX5_allFines_27 ?_
  refine fx_gR (pc := 28) F 5 0 0 4 rfl kC_X5 (by decide) rfl wF_X5_10 dX5_allFines_28 ?_
  refine fx_gR (pc := 31) F 4 8 8 11 rfl kC_X4 (by decide) rfl wF_X5_106 dX5_allFines_31 ?_
  refine fx_aload_n (pc := 34) (t := 5) F 0 rfl rfl dX5_allFines_34 ?_
  refine fx_gR (pc := 35) F 5 0 0 4 rfl kC_X5 (by decide) rfl wF_X5_10 dX5_allFines_35 ?_
  refine fx_gI (pc := 38) F 4 3 3 rfl kC_X4 rfl wF_X5_191 dX5_allFines_38 ?_
  obtain ⟨v3, e4, hf⟩ := fx_bnd hf
  refine fx_cV (pc := 41) F 0 kC_X0 [(6, (fx_tg Λ this_0 0)), (13, (fx_tg Λ (fx_tg Λ this_0 0) 8)), (0, (h1 (fx_tg Λ this_0 0) 3))] (fx_tg Λ this_0 5) [] (m_X0_finesOf Fu Λ (fx_tg Λ this_0 5) (fx_tg Λ this_0 0) (fx_tg Λ (fx_tg Λ this_0 0) 8) (h1 (fx_tg Λ this_0 0) 3) h1 _ e4) kD_X0_finesOf kI_X0_finesOf rfl wM_X5_194 ⟨rfl, rfl⟩ ⟨by decide, by decide⟩ (Nat.le_of_ble_eq_true rfl) rfl dX5_allFines_41 ?_
  cases hf
  exact fx_ireturn (pc := 44) F K dX5_allFines_44
def f_X5_all (Fu : Nat) (Λ : fx_L) (this_0 : Int) (h : fx_H) : Option (Int × fx_H) :=
  (f_X5_allFines Fu Λ this_0 (-1) h).bind fun (v1, h2) =>
  some (v1, h2)
abbrev rm_X5_all : Room := { frames := 5, cells := 0, slots := 0, locals := 124 }
set_option maxRecDepth 100000 in
set_option maxHeartbeats 4000000 in
theorem m_X5_all (Fu : Nat) (Λ : fx_L) (this_0 : Int) (h : fx_H) (r : Int) (ho : fx_H) (hf : f_X5_all Fu Λ this_0 h = some (r, ho)) : fx_Met yX5_all cX5_all 1 (some .int) rm_X5_all Λ [(7, this_0)] h (some (0, r)) ho := by
  unfold f_X5_all at hf
  refine fx_enter (ls := [some (7, this_0)]) (by decide) (Nat.le_of_ble_eq_true rfl) rfl (fun M G F K => ?_)
  refine fx_aload_n (pc := 0) (t := 5) F 0 rfl rfl dX5_all_0 ?_
  refine fx_iconst (pc := 1) F ⟨by decide, by decide⟩ dX5_all_1 ?_
  obtain ⟨⟨v1, h2⟩, e3, hf⟩ := fx_bnd hf
  refine fx_cV (pc := 2) F 5 kC_X5 [(0, (-1))] this_0 [] (m_X5_allFines Fu Λ this_0 (-1) h _ _ e3) kD_X5_allFines kI_X5_allFines rfl wM_X5_162 ⟨rfl, rfl⟩ ⟨by decide, by decide⟩ (Nat.le_of_ble_eq_true rfl) rfl dX5_all_2 ?_
  cases hf
  exact fx_ireturn (pc := 5) F K dX5_all_5
def s_X1_writeFirstRow_2 (Fu : Nat) (Λ : fx_L) (this_15 : Int) (town_16 : Int) (person_17 : Int) (hours_18 : Int) (t_19 : Int) : Int × Int × fx_H → Option ((Int × Int × fx_H) ⊕ (Int × Int × fx_H)) := fun (hour_12, i_13, h14) =>
  (fx_rr Λ (fx_tg Λ town_16 9) person_17).bind fun v23 =>
  (fx_rd Λ h14 v23 t_19).bind fun v25 =>
  if ((i_13 < v25) ∧ (hour_12 < hours_18)) then
    (fx_wr Λ h14 (fx_tg Λ this_15 8) hour_12 t_19).bind fun h30 =>
    some (.inl ((fx_w (hour_12 + 1)), (fx_w (i_13 + 1)), h30))
  else
    some (.inr (hour_12, i_13, h14))
def s_X1_writeFirstRow_1 (Fu : Nat) (Λ : fx_L) (this_6 : Int) (town_7 : Int) (person_8 : Int) (hours_9 : Int) : Int × Int × fx_H → Option ((Int × Int × fx_H) ⊕ (Int × Int × fx_H)) := fun (hour_3, t_4, h5) =>
  if t_4 < (h5 town_7 0) then
    Option.bind (fx_loop (s_X1_writeFirstRow_2 Fu Λ this_6 town_7 person_8 hours_9 t_4) Fu (hour_3, 0, h5)) fun (hour_47, i_48, h49) =>
    some (.inl (hour_47, (fx_w (t_4 + 1)), h49))
  else
    some (.inr (hour_3, t_4, h5))
def f_X1_writeFirstRow (Fu : Nat) (Λ : fx_L) (this_0 : Int) (town_0 : Int) (person_0 : Int) (hours_0 : Int) (h : fx_H) : Option (fx_H) :=
  (f_J7_fill_53178 Fu Λ (fx_tg Λ this_0 8) 9 h).bind fun h1 =>
  Option.bind (fx_loop (s_X1_writeFirstRow_1 Fu Λ this_0 town_0 person_0 hours_0) Fu (0, 0, h1)) fun (hour_97, t_98, h99) =>
  some h99
abbrev rm_X1_writeFirstRow : Room := { frames := 1, cells := 0, slots := 0, locals := 23 }
set_option maxRecDepth 100000 in
set_option maxHeartbeats 4000000 in
theorem m_X1_writeFirstRow (Fu : Nat) (Λ : fx_L) (this_0 : Int) (town_0 : Int) (person_0 : Int) (hours_0 : Int) (h : fx_H) (ho : fx_H) (hf : f_X1_writeFirstRow Fu Λ this_0 town_0 person_0 hours_0 h = some ho) : fx_Met yX1_writeFirstRow cX1_writeFirstRow 7 none rm_X1_writeFirstRow Λ [(3, this_0), (6, town_0), (0, person_0), (0, hours_0)] h none ho := by
  unfold f_X1_writeFirstRow at hf
  refine fx_enter (ls := [some (3, this_0), some (6, town_0), some (0, person_0), some (0, hours_0), none, none, none]) (by decide) (Nat.le_of_ble_eq_true rfl) rfl (fun M G F K => ?_)
  refine fx_aload_n (pc := 0) (t := 1) F 0 rfl rfl dX1_writeFirstRow_0 ?_
  refine fx_gR (pc := 1) F 1 8 8 8 rfl kC_X1 (by decide) rfl wF_X1_33 dX1_writeFirstRow_1 ?_
  refine fx_bipush (pc := 4) F ⟨by decide, by decide⟩ (by decide) dX1_writeFirstRow_4 ?_
  obtain ⟨h1, e2, hf⟩ := fx_bnd hf
  refine fx_cSv (pc := 6) F [(10, (fx_tg Λ this_0 8)), (0, 9)] [] (m_J7_fill_53178 Fu Λ (fx_tg Λ this_0 8) 9 h _ e2) kD_J7_fill_53178 wSt_J7_fill_53178 wM_X1_180 ⟨rfl, rfl⟩ ⟨by decide, by decide⟩ (Nat.le_of_ble_eq_true rfl) rfl dX1_writeFirstRow_6 ?_
  refine fx_iconst (pc := 9) F ⟨by decide, by decide⟩ dX1_writeFirstRow_9 ?_
  refine fx_istore (pc := 10) (ls' := [some (3, this_0), some (6, town_0), some (0, person_0), some (0, hours_0), some (0, 0), none, none]) F (by decide) rfl rfl dX1_writeFirstRow_10 ?_
  refine fx_iconst (pc := 12) F ⟨by decide, by decide⟩ dX1_writeFirstRow_12 ?_
  refine fx_istore (pc := 13) (ls' := [some (3, this_0), some (6, town_0), some (0, person_0), some (0, hours_0), some (0, 0), some (0, 0), none]) F (by decide) rfl rfl dX1_writeFirstRow_13 ?_
  obtain ⟨⟨hour_97, t_98, h99⟩, e100, hf⟩ := fx_bnd hf
  have hE101 : fx_J M G Λ 7 71 [some (3, this_0), some (6, town_0), some (0, person_0), some (0, hours_0), some (0, hour_97), some (0, t_98), none] [] h99 := by
    cases hf
    exact fx_vreturn (pc := 71) F K dX1_writeFirstRow_71
  refine fx_loop_J (Hd := (fun z : Int × Int × fx_H => fx_J M G Λ 7 15 [some (3, this_0), some (6, town_0), some (0, person_0), some (0, hours_0), some (0, z.1), some (0, z.2.1), none] [] z.2.2)) (Ex := (fun z : Int × Int × fx_H => fx_J M G Λ 7 71 [some (3, this_0), some (6, town_0), some (0, person_0), some (0, hours_0), some (0, z.1), some (0, z.2.1), none] [] z.2.2)) ?_ Fu _ _ e100 hE101
  rintro ⟨hour_52, t_53, h54⟩ o9 eq55 ih ex
  unfold s_X1_writeFirstRow_1 at eq55
  show fx_J M G Λ 7 15 [some (3, this_0), some (6, town_0), some (0, person_0), some (0, hours_0), some (0, hour_52), some (0, t_53), none] [] h54
  refine fx_iload (pc := 15) F rfl dX1_writeFirstRow_15 ?_
  refine fx_aload_n (pc := 17) (t := 4) F 1 rfl rfl dX1_writeFirstRow_17 ?_
  refine fx_gI (pc := 18) F 4 0 0 rfl kC_X4 rfl wF_X1_142 dX1_writeFirstRow_18 ?_
  refine fx_nlt (pc := 21) F 71 (by decide) dX1_writeFirstRow_21 (fun c56 => ?_) (fun c56 => ?_)
  · have eq55 := (if_pos c56).symm.trans eq55
    refine fx_iconst (pc := 24) F ⟨by decide, by decide⟩ dX1_writeFirstRow_24 ?_
    refine fx_istore (pc := 25) (ls' := [some (3, this_0), some (6, town_0), some (0, person_0), some (0, hours_0), some (0, hour_52), some (0, t_53), some (0, 0)]) F (by decide) rfl rfl dX1_writeFirstRow_25 ?_
    obtain ⟨⟨hour_92, i_93, h94⟩, e95, eq55⟩ := fx_bnd eq55
    have hE96 : fx_J M G Λ 7 65 [some (3, this_0), some (6, town_0), some (0, person_0), some (0, hours_0), some (0, hour_92), some (0, t_53), some (0, i_93)] [] h94 := by
      refine fx_iinc (pc := 65) (ls' := [some (3, this_0), some (6, town_0), some (0, person_0), some (0, hours_0), some (0, hour_92), some (0, (fx_w (t_53 + 1))), some (0, i_93)]) F (by decide) rfl rfl rfl dX1_writeFirstRow_65 ?_
      refine fx_goto (pc := 68) F 15 (by decide) dX1_writeFirstRow_68 ?_
      cases eq55
      refine fx_drop (ls' := [some (3, this_0), some (6, town_0), some (0, person_0), some (0, hours_0), some (0, hour_92), some (0, (fx_w (t_53 + 1))), none]) ⟨rfl, rfl, rfl, rfl, rfl, rfl, trivial⟩ ?_
      exact ih _ rfl
    refine fx_loop_J (Hd := (fun z : Int × Int × fx_H => fx_J M G Λ 7 27 [some (3, this_0), some (6, town_0), some (0, person_0), some (0, hours_0), some (0, z.1), some (0, t_53), some (0, z.2.1)] [] z.2.2)) (Ex := (fun z : Int × Int × fx_H => fx_J M G Λ 7 65 [some (3, this_0), some (6, town_0), some (0, person_0), some (0, hours_0), some (0, z.1), some (0, t_53), some (0, z.2.1)] [] z.2.2)) ?_ Fu _ _ e95 hE96
    rintro ⟨hour_77, i_78, h79⟩ o9 eq80 ih ex
    unfold s_X1_writeFirstRow_2 at eq80
    show fx_J M G Λ 7 27 [some (3, this_0), some (6, town_0), some (0, person_0), some (0, hours_0), some (0, hour_77), some (0, t_53), some (0, i_78)] [] h79
    refine fx_iload (pc := 27) F rfl dX1_writeFirstRow_27 ?_
    refine fx_aload_n (pc := 29) (t := 4) F 1 rfl rfl dX1_writeFirstRow_29 ?_
    refine fx_gR (pc := 30) F 4 9 9 11 rfl kC_X4 (by decide) rfl wF_X1_157 dX1_writeFirstRow_30 ?_
    refine fx_iload_n (pc := 33) F 2 rfl rfl dX1_writeFirstRow_33 ?_
    obtain ⟨v83, e84, eq80⟩ := fx_bnd eq80
    refine fx_raldG (pc := 34) F e84 dX1_writeFirstRow_34 ?_
    refine fx_iload (pc := 35) F rfl dX1_writeFirstRow_35 ?_
    obtain ⟨v85, e86, eq80⟩ := fx_bnd eq80
    refine fx_raldI (pc := 37) F e86 dX1_writeFirstRow_37 ?_
    have hT81 : (((i_78 < v85) ∧ (hour_77 < hours_0))) → fx_J M G Λ 7 47 [some (3, this_0), some (6, town_0), some (0, person_0), some (0, hours_0), some (0, hour_77), some (0, t_53), some (0, i_78)] [] h79 := fun c89 => by
      have eq80 := (if_pos c89).symm.trans eq80
      refine fx_aload_n (pc := 47) (t := 1) F 0 rfl rfl dX1_writeFirstRow_47 ?_
      refine fx_gR (pc := 48) F 1 8 8 8 rfl kC_X1 (by decide) rfl wF_X1_33 dX1_writeFirstRow_48 ?_
      refine fx_iload (pc := 51) F rfl dX1_writeFirstRow_51 ?_
      refine fx_iload (pc := 53) F rfl dX1_writeFirstRow_53 ?_
      obtain ⟨h90, e91, eq80⟩ := fx_bnd eq80
      refine fx_rastI (pc := 55) F e91 dX1_writeFirstRow_55 ?_
      refine fx_iinc (pc := 56) (ls' := [some (3, this_0), some (6, town_0), some (0, person_0), some (0, hours_0), some (0, (fx_w (hour_77 + 1))), some (0, t_53), some (0, i_78)]) F (by decide) rfl rfl rfl dX1_writeFirstRow_56 ?_
      refine fx_iinc (pc := 59) (ls' := [some (3, this_0), some (6, town_0), some (0, person_0), some (0, hours_0), some (0, (fx_w (hour_77 + 1))), some (0, t_53), some (0, (fx_w (i_78 + 1)))]) F (by decide) rfl rfl rfl dX1_writeFirstRow_59 ?_
      refine fx_goto (pc := 62) F 27 (by decide) dX1_writeFirstRow_62 ?_
      cases eq80
      exact ih _ rfl
    have hF82 : ¬ (((i_78 < v85) ∧ (hour_77 < hours_0))) → fx_J M G Λ 7 65 [some (3, this_0), some (6, town_0), some (0, person_0), some (0, hours_0), some (0, hour_77), some (0, t_53), some (0, i_78)] [] h79 := fun c89 => by
      have eq80 := (if_neg c89).symm.trans eq80
      cases eq80
      exact ex _ rfl
    refine fx_nlt (pc := 38) F 65 (by decide) dX1_writeFirstRow_38 (fun c87 => ?_) (fun c87 => ?_)
    · refine fx_iload (pc := 41) F rfl dX1_writeFirstRow_41 ?_
      refine fx_iload_n (pc := 43) F 3 rfl rfl dX1_writeFirstRow_43 ?_
      refine fx_nlt (pc := 44) F 65 (by decide) dX1_writeFirstRow_44 (fun c88 => ?_) (fun c88 => ?_)
      · exact hT81 ⟨c87, c88⟩
      · exact hF82 (fun q => c88 q.2)
    · exact hF82 (fun q => c87 q.1)
  · have eq55 := (if_neg c56).symm.trans eq55
    cases eq55
    exact ex _ rfl
def f_X5_swap (Fu : Nat) (Λ : fx_L) (elements_0 : Int) (i_0 : Int) (j_0 : Int) (h : fx_H) : Option (fx_H) :=
  (fx_rd Λ h elements_0 i_0).bind fun v1 =>
  (fx_rd Λ h elements_0 j_0).bind fun v3 =>
  (fx_wr Λ h elements_0 i_0 v3).bind fun h5 =>
  (fx_wr Λ h5 elements_0 j_0 v1).bind fun h7 =>
  some h7
abbrev rm_X5_swap : Room := { frames := 0, cells := 0, slots := 0, locals := 0 }
set_option maxRecDepth 100000 in
set_option maxHeartbeats 4000000 in
theorem m_X5_swap (Fu : Nat) (Λ : fx_L) (elements_0 : Int) (i_0 : Int) (j_0 : Int) (h : fx_H) (ho : fx_H) (hf : f_X5_swap Fu Λ elements_0 i_0 j_0 h = some ho) : fx_Met yX5_swap cX5_swap 4 none rm_X5_swap Λ [(10, elements_0), (0, i_0), (0, j_0)] h none ho := by
  unfold f_X5_swap at hf
  refine fx_enter (ls := [some (10, elements_0), some (0, i_0), some (0, j_0), none]) (by decide) (Nat.le_of_ble_eq_true rfl) rfl (fun M G F K => ?_)
  refine fx_aload_n (pc := 0) (t := 8) F 0 rfl rfl dX5_swap_0 ?_
  refine fx_iload_n (pc := 1) F 1 rfl rfl dX5_swap_1 ?_
  obtain ⟨v1, e2, hf⟩ := fx_bnd hf
  refine fx_raldI (pc := 2) F e2 dX5_swap_2 ?_
  refine fx_istore_n (pc := 3) (ls' := [some (10, elements_0), some (0, i_0), some (0, j_0), some (0, v1)]) F 3 rfl (by decide) rfl rfl dX5_swap_3 ?_
  refine fx_aload_n (pc := 4) (t := 8) F 0 rfl rfl dX5_swap_4 ?_
  refine fx_iload_n (pc := 5) F 1 rfl rfl dX5_swap_5 ?_
  refine fx_aload_n (pc := 6) (t := 8) F 0 rfl rfl dX5_swap_6 ?_
  refine fx_iload_n (pc := 7) F 2 rfl rfl dX5_swap_7 ?_
  obtain ⟨v3, e4, hf⟩ := fx_bnd hf
  refine fx_raldI (pc := 8) F e4 dX5_swap_8 ?_
  obtain ⟨h5, e6, hf⟩ := fx_bnd hf
  refine fx_rastI (pc := 9) F e6 dX5_swap_9 ?_
  refine fx_aload_n (pc := 10) (t := 8) F 0 rfl rfl dX5_swap_10 ?_
  refine fx_iload_n (pc := 11) F 2 rfl rfl dX5_swap_11 ?_
  refine fx_iload_n (pc := 12) F 3 rfl rfl dX5_swap_12 ?_
  obtain ⟨h7, e8, hf⟩ := fx_bnd hf
  refine fx_rastI (pc := 13) F e8 dX5_swap_13 ?_
  cases hf
  exact fx_vreturn (pc := 14) F K dX5_swap_14
def s_X5_nextOrder_1 (Fu : Nat) (Λ : fx_L) (elements_2 : Int) (h : fx_H) : Int → Option ((Int) ⊕ (Int)) := fun turn_1 =>
  Option.bind (
    if 0 ≤ turn_1 then
      (fx_rd Λ h elements_2 turn_1).bind fun v9 =>
      (fx_rd Λ h elements_2 (fx_w (turn_1 + 1))).bind fun v11 =>
      if v11 ≤ v9 then
        some true
      else
        some false
    else
      some false
  ) fun b4 =>
  if b4 = true then
    some (.inl (fx_w (turn_1 + (-1))))
  else
    some (.inr turn_1)
def s_X5_nextOrder_2 (Fu : Nat) (Λ : fx_L) (elements_33 : Int) (turn_34 : Int) (h : fx_H) : Int → Option ((Int) ⊕ (Int)) := fun greater_32 =>
  Option.bind (
    if (fx_w (turn_34 + 1)) < greater_32 then
      (fx_rd Λ h elements_33 greater_32).bind fun v41 =>
      (fx_rd Λ h elements_33 turn_34).bind fun v43 =>
      if v41 ≤ v43 then
        some true
      else
        some false
    else
      some false
  ) fun b36 =>
  if b36 = true then
    some (.inl (fx_w (greater_32 + (-1))))
  else
    some (.inr greater_32)
def s_X5_nextOrder_3 (Fu : Nat) (Λ : fx_L) (elements_68 : Int) : Int × Int × fx_H → Option ((Int × Int × fx_H) ⊕ (Int × Int × fx_H)) := fun (low_65, high_66, h67) =>
  if low_65 < high_66 then
    (f_X5_swap Fu Λ elements_68 low_65 high_66 h67).bind fun h71 =>
    some (.inl ((fx_w (low_65 + 1)), (fx_w (high_66 + (-1))), h71))
  else
    some (.inr (low_65, high_66, h67))
def f_X5_nextOrder (Fu : Nat) (Λ : fx_L) (elements_0 : Int) (length_0 : Int) (h : fx_H) : Option (Int × fx_H) :=
  Option.bind (fx_loop (s_X5_nextOrder_1 Fu Λ elements_0 h) Fu (fx_w (length_0 - 2))) fun turn_28 =>
  if turn_28 < 0 then
    some (0, h)
  else
    Option.bind (fx_loop (s_X5_nextOrder_2 Fu Λ elements_0 turn_28 h) Fu (fx_w (length_0 - 1))) fun greater_60 =>
    (f_X5_swap Fu Λ elements_0 turn_28 greater_60 h).bind fun h63 =>
    Option.bind (fx_loop (s_X5_nextOrder_3 Fu Λ elements_0) Fu ((fx_w (turn_28 + 1)), (fx_w (length_0 - 1)), h63)) fun (low_80, high_81, h82) =>
    some (1, h82)
abbrev rm_X5_nextOrder : Room := { frames := 1, cells := 0, slots := 0, locals := 23 }
set_option maxRecDepth 100000 in
set_option maxHeartbeats 4000000 in
theorem m_X5_nextOrder (Fu : Nat) (Λ : fx_L) (elements_0 : Int) (length_0 : Int) (h : fx_H) (r : Int) (ho : fx_H) (hf : f_X5_nextOrder Fu Λ elements_0 length_0 h = some (r, ho)) : fx_Met yX5_nextOrder cX5_nextOrder 6 (some .boolean) rm_X5_nextOrder Λ [(10, elements_0), (0, length_0)] h (some (0, r)) ho := by
  unfold f_X5_nextOrder at hf
  refine fx_enter (ls := [some (10, elements_0), some (0, length_0), none, none, none, none]) (by decide) (Nat.le_of_ble_eq_true rfl) rfl (fun M G F K => ?_)
  refine fx_iload_n (pc := 0) F 1 rfl rfl dX5_nextOrder_0 ?_
  refine fx_iconst (pc := 1) F ⟨by decide, by decide⟩ dX5_nextOrder_1 ?_
  refine fx_isub (pc := 2) F dX5_nextOrder_2 ?_
  refine fx_istore_n (pc := 3) (ls' := [some (10, elements_0), some (0, length_0), some (0, (fx_w (length_0 - 2))), none, none, none]) F 2 rfl (by decide) rfl rfl dX5_nextOrder_3 ?_
  obtain ⟨turn_28, e29, hf⟩ := fx_bnd hf
  have hE30 : fx_J M G Λ 6 25 [some (10, elements_0), some (0, length_0), some (0, turn_28), none, none, none] [] h := by
    refine fx_iload_n (pc := 25) F 2 rfl rfl dX5_nextOrder_25 ?_
    refine fx_nzlt (pc := 26) F 31 (by decide) dX5_nextOrder_26 (fun c31 => ?_) (fun c31 => ?_)
    · have hf := (if_pos c31).symm.trans hf
      refine fx_iconst (pc := 29) F ⟨by decide, by decide⟩ dX5_nextOrder_29 ?_
      cases hf
      exact fx_zreturn (pc := 30) F (Or.inl rfl) K dX5_nextOrder_30
    · have hf := (if_neg c31).symm.trans hf
      refine fx_iload_n (pc := 31) F 1 rfl rfl dX5_nextOrder_31 ?_
      refine fx_iconst (pc := 32) F ⟨by decide, by decide⟩ dX5_nextOrder_32 ?_
      refine fx_isub (pc := 33) F dX5_nextOrder_33 ?_
      refine fx_istore_n (pc := 34) (ls' := [some (10, elements_0), some (0, length_0), some (0, turn_28), some (0, (fx_w (length_0 - 1))), none, none]) F 3 rfl (by decide) rfl rfl dX5_nextOrder_34 ?_
      obtain ⟨greater_60, e61, hf⟩ := fx_bnd hf
      have hE62 : fx_J M G Λ 6 57 [some (10, elements_0), some (0, length_0), some (0, turn_28), some (0, greater_60), none, none] [] h := by
        refine fx_aload_n (pc := 57) (t := 8) F 0 rfl rfl dX5_nextOrder_57 ?_
        refine fx_iload_n (pc := 58) F 2 rfl rfl dX5_nextOrder_58 ?_
        refine fx_iload_n (pc := 59) F 3 rfl rfl dX5_nextOrder_59 ?_
        obtain ⟨h63, e64, hf⟩ := fx_bnd hf
        refine fx_cSv (pc := 60) F [(10, elements_0), (0, turn_28), (0, greater_60)] [] (m_X5_swap Fu Λ elements_0 turn_28 greater_60 h _ e64) kD_X5_swap wSt_X5_swap wM_X5_270 ⟨rfl, rfl⟩ ⟨by decide, by decide⟩ (Nat.le_of_ble_eq_true rfl) rfl dX5_nextOrder_60 ?_
        refine fx_iload_n (pc := 63) F 2 rfl rfl dX5_nextOrder_63 ?_
        refine fx_iconst (pc := 64) F ⟨by decide, by decide⟩ dX5_nextOrder_64 ?_
        refine fx_iadd (pc := 65) F dX5_nextOrder_65 ?_
        refine fx_istore (pc := 66) (ls' := [some (10, elements_0), some (0, length_0), some (0, turn_28), some (0, greater_60), some (0, (fx_w (turn_28 + 1))), none]) F (by decide) rfl rfl dX5_nextOrder_66 ?_
        refine fx_iload_n (pc := 68) F 1 rfl rfl dX5_nextOrder_68 ?_
        refine fx_iconst (pc := 69) F ⟨by decide, by decide⟩ dX5_nextOrder_69 ?_
        refine fx_isub (pc := 70) F dX5_nextOrder_70 ?_
        refine fx_istore (pc := 71) (ls' := [some (10, elements_0), some (0, length_0), some (0, turn_28), some (0, greater_60), some (0, (fx_w (turn_28 + 1))), some (0, (fx_w (length_0 - 1)))]) F (by decide) rfl rfl dX5_nextOrder_71 ?_
        obtain ⟨⟨low_80, high_81, h82⟩, e83, hf⟩ := fx_bnd hf
        have hE84 : fx_J M G Λ 6 97 [some (10, elements_0), some (0, length_0), some (0, turn_28), some (0, greater_60), some (0, low_80), some (0, high_81)] [] h82 := by
          refine fx_iconst (pc := 97) F ⟨by decide, by decide⟩ dX5_nextOrder_97 ?_
          cases hf
          exact fx_zreturn (pc := 98) F (Or.inr rfl) K dX5_nextOrder_98
        refine fx_loop_J (Hd := (fun z : Int × Int × fx_H => fx_J M G Λ 6 73 [some (10, elements_0), some (0, length_0), some (0, turn_28), some (0, greater_60), some (0, z.1), some (0, z.2.1)] [] z.2.2)) (Ex := (fun z : Int × Int × fx_H => fx_J M G Λ 6 97 [some (10, elements_0), some (0, length_0), some (0, turn_28), some (0, greater_60), some (0, z.1), some (0, z.2.1)] [] z.2.2)) ?_ Fu _ _ e83 hE84
        rintro ⟨low_73, high_74, h75⟩ o9 eq76 ih ex
        unfold s_X5_nextOrder_3 at eq76
        show fx_J M G Λ 6 73 [some (10, elements_0), some (0, length_0), some (0, turn_28), some (0, greater_60), some (0, low_73), some (0, high_74)] [] h75
        refine fx_iload (pc := 73) F rfl dX5_nextOrder_73 ?_
        refine fx_iload (pc := 75) F rfl dX5_nextOrder_75 ?_
        refine fx_nlt (pc := 77) F 97 (by decide) dX5_nextOrder_77 (fun c77 => ?_) (fun c77 => ?_)
        · have eq76 := (if_pos c77).symm.trans eq76
          refine fx_aload_n (pc := 80) (t := 8) F 0 rfl rfl dX5_nextOrder_80 ?_
          refine fx_iload (pc := 81) F rfl dX5_nextOrder_81 ?_
          refine fx_iload (pc := 83) F rfl dX5_nextOrder_83 ?_
          obtain ⟨h78, e79, eq76⟩ := fx_bnd eq76
          refine fx_cSv (pc := 85) F [(10, elements_0), (0, low_73), (0, high_74)] [] (m_X5_swap Fu Λ elements_0 low_73 high_74 h75 _ e79) kD_X5_swap wSt_X5_swap wM_X5_270 ⟨rfl, rfl⟩ ⟨by decide, by decide⟩ (Nat.le_of_ble_eq_true rfl) rfl dX5_nextOrder_85 ?_
          refine fx_iinc (pc := 88) (ls' := [some (10, elements_0), some (0, length_0), some (0, turn_28), some (0, greater_60), some (0, (fx_w (low_73 + 1))), some (0, high_74)]) F (by decide) rfl rfl rfl dX5_nextOrder_88 ?_
          refine fx_iinc (pc := 91) (ls' := [some (10, elements_0), some (0, length_0), some (0, turn_28), some (0, greater_60), some (0, (fx_w (low_73 + 1))), some (0, (fx_w (high_74 + (-1))))]) F (by decide) rfl rfl rfl dX5_nextOrder_91 ?_
          refine fx_goto (pc := 94) F 73 (by decide) dX5_nextOrder_94 ?_
          cases eq76
          exact ih _ rfl
        · have eq76 := (if_neg c77).symm.trans eq76
          cases eq76
          exact ex _ rfl
      refine fx_loop_J (Hd := (fun z : Int => fx_J M G Λ 6 35 [some (10, elements_0), some (0, length_0), some (0, turn_28), some (0, z), none, none] [] h)) (Ex := (fun z : Int => fx_J M G Λ 6 57 [some (10, elements_0), some (0, length_0), some (0, turn_28), some (0, z), none, none] [] h)) ?_ Fu _ _ e61 hE62
      rintro greater_47 o9 eq48 ih ex
      unfold s_X5_nextOrder_2 at eq48
      show fx_J M G Λ 6 35 [some (10, elements_0), some (0, length_0), some (0, turn_28), some (0, greater_47), none, none] [] h
      obtain ⟨b49, e50, eq48⟩ := fx_bnd eq48
      have hT51 : b49 = true → fx_J M G Λ 6 51 [some (10, elements_0), some (0, length_0), some (0, turn_28), some (0, greater_47), none, none] [] h := fun c59 => by
        have eq48 := (if_pos c59).symm.trans eq48
        refine fx_iinc (pc := 51) (ls' := [some (10, elements_0), some (0, length_0), some (0, turn_28), some (0, (fx_w (greater_47 + (-1)))), none, none]) F (by decide) rfl rfl rfl dX5_nextOrder_51 ?_
        refine fx_goto (pc := 54) F 35 (by decide) dX5_nextOrder_54 ?_
        cases eq48
        exact ih _ rfl
      have hF52 : ¬ b49 = true → fx_J M G Λ 6 57 [some (10, elements_0), some (0, length_0), some (0, turn_28), some (0, greater_47), none, none] [] h := fun c59 => by
        have eq48 := (if_neg c59).symm.trans eq48
        cases eq48
        exact ex _ rfl
      refine fx_iload_n (pc := 35) F 3 rfl rfl dX5_nextOrder_35 ?_
      refine fx_iload_n (pc := 36) F 2 rfl rfl dX5_nextOrder_36 ?_
      refine fx_iconst (pc := 37) F ⟨by decide, by decide⟩ dX5_nextOrder_37 ?_
      refine fx_iadd (pc := 38) F dX5_nextOrder_38 ?_
      refine fx_ngt (pc := 39) F 57 (by decide) dX5_nextOrder_39 (fun c53 => ?_) (fun c53 => ?_)
      · have e50 := (if_pos c53).symm.trans e50
        refine fx_aload_n (pc := 42) (t := 8) F 0 rfl rfl dX5_nextOrder_42 ?_
        refine fx_iload_n (pc := 43) F 3 rfl rfl dX5_nextOrder_43 ?_
        obtain ⟨v54, e55, e50⟩ := fx_bnd e50
        refine fx_raldI (pc := 44) F e55 dX5_nextOrder_44 ?_
        refine fx_aload_n (pc := 45) (t := 8) F 0 rfl rfl dX5_nextOrder_45 ?_
        refine fx_iload_n (pc := 46) F 2 rfl rfl dX5_nextOrder_46 ?_
        obtain ⟨v56, e57, e50⟩ := fx_bnd e50
        refine fx_raldI (pc := 47) F e57 dX5_nextOrder_47 ?_
        refine fx_nle (pc := 48) F 57 (by decide) dX5_nextOrder_48 (fun c58 => ?_) (fun c58 => ?_)
        · have e50 := (if_pos c58).symm.trans e50
          cases e50
          exact hT51 (by decide)
        · have e50 := (if_neg c58).symm.trans e50
          cases e50
          exact hF52 (by decide)
      · have e50 := (if_neg c53).symm.trans e50
        cases e50
        exact hF52 (by decide)
  refine fx_loop_J (Hd := (fun z : Int => fx_J M G Λ 6 4 [some (10, elements_0), some (0, length_0), some (0, z), none, none, none] [] h)) (Ex := (fun z : Int => fx_J M G Λ 6 25 [some (10, elements_0), some (0, length_0), some (0, z), none, none, none] [] h)) ?_ Fu _ _ e29 hE30
  rintro turn_15 o9 eq16 ih ex
  unfold s_X5_nextOrder_1 at eq16
  show fx_J M G Λ 6 4 [some (10, elements_0), some (0, length_0), some (0, turn_15), none, none, none] [] h
  obtain ⟨b17, e18, eq16⟩ := fx_bnd eq16
  have hT19 : b17 = true → fx_J M G Λ 6 19 [some (10, elements_0), some (0, length_0), some (0, turn_15), none, none, none] [] h := fun c27 => by
    have eq16 := (if_pos c27).symm.trans eq16
    refine fx_iinc (pc := 19) (ls' := [some (10, elements_0), some (0, length_0), some (0, (fx_w (turn_15 + (-1)))), none, none, none]) F (by decide) rfl rfl rfl dX5_nextOrder_19 ?_
    refine fx_goto (pc := 22) F 4 (by decide) dX5_nextOrder_22 ?_
    cases eq16
    exact ih _ rfl
  have hF20 : ¬ b17 = true → fx_J M G Λ 6 25 [some (10, elements_0), some (0, length_0), some (0, turn_15), none, none, none] [] h := fun c27 => by
    have eq16 := (if_neg c27).symm.trans eq16
    cases eq16
    exact ex _ rfl
  refine fx_iload_n (pc := 4) F 2 rfl rfl dX5_nextOrder_4 ?_
  refine fx_nzge (pc := 5) F 25 (by decide) dX5_nextOrder_5 (fun c21 => ?_) (fun c21 => ?_)
  · have e18 := (if_pos c21).symm.trans e18
    refine fx_aload_n (pc := 8) (t := 8) F 0 rfl rfl dX5_nextOrder_8 ?_
    refine fx_iload_n (pc := 9) F 2 rfl rfl dX5_nextOrder_9 ?_
    obtain ⟨v22, e23, e18⟩ := fx_bnd e18
    refine fx_raldI (pc := 10) F e23 dX5_nextOrder_10 ?_
    refine fx_aload_n (pc := 11) (t := 8) F 0 rfl rfl dX5_nextOrder_11 ?_
    refine fx_iload_n (pc := 12) F 2 rfl rfl dX5_nextOrder_12 ?_
    refine fx_iconst (pc := 13) F ⟨by decide, by decide⟩ dX5_nextOrder_13 ?_
    refine fx_iadd (pc := 14) F dX5_nextOrder_14 ?_
    obtain ⟨v24, e25, e18⟩ := fx_bnd e18
    refine fx_raldI (pc := 15) F e25 dX5_nextOrder_15 ?_
    refine fx_nge (pc := 16) F 25 (by decide) dX5_nextOrder_16 (fun c26 => ?_) (fun c26 => ?_)
    · have e18 := (if_pos c26).symm.trans e18
      cases e18
      exact hT19 (by decide)
    · have e18 := (if_neg c26).symm.trans e18
      cases e18
      exact hF20 (by decide)
  · have e18 := (if_neg c21).symm.trans e18
    cases e18
    exact hF20 (by decide)
def s_X1_writeRowsOf_1 (Fu : Nat) (Λ : fx_L) (this_5 : Int) (person_6 : Int) (hours_7 : Int) : Int × fx_H → Option ((Int × fx_H) ⊕ ((Int × fx_H) ⊕ (fx_H))) := fun (r_3, h4) =>
  if r_3 < 120 then
    (fx_rr Λ (fx_tg Λ this_5 6) person_6).bind fun v10 =>
    (fx_cp Λ h4 (fx_tg Λ this_5 8) 0 v10 (fx_w (r_3 * 5)) hours_7).bind fun h12 =>
    (fx_rd Λ h12 (fx_tg Λ this_5 7) person_6).bind fun v14 =>
    (fx_wr Λ h12 (fx_tg Λ this_5 7) person_6 (fx_w (v14 + 1))).bind fun h16 =>
    (f_X5_nextOrder Fu Λ (fx_tg Λ this_5 8) hours_7 h16).bind fun (v18, h19) =>
    if v18 = 0 then
      some (.inr (.inr h19))
    else
      some (.inl ((fx_w (r_3 + 1)), h19))
  else
    some (.inr (.inl (r_3, h4)))
def f_X1_writeRowsOf (Fu : Nat) (Λ : fx_L) (this_0 : Int) (town_0 : Int) (person_0 : Int) (hours_0 : Int) (h : fx_H) : Option (fx_H) :=
  (f_X1_writeFirstRow Fu Λ this_0 town_0 person_0 hours_0 h).bind fun h1 =>
  Option.bind (fx_loop (s_X1_writeRowsOf_1 Fu Λ this_0 person_0 hours_0) Fu (0, h1)) fun x9 =>
  match x9 with
  | .inl (r_38, h39) =>
    some h39
  | .inr r9 => some r9
abbrev rm_X1_writeRowsOf : Room := { frames := 2, cells := 0, slots := 0, locals := 49 }
set_option maxRecDepth 100000 in
set_option maxHeartbeats 4000000 in
theorem m_X1_writeRowsOf (Fu : Nat) (Λ : fx_L) (this_0 : Int) (town_0 : Int) (person_0 : Int) (hours_0 : Int) (h : fx_H) (ho : fx_H) (hf : f_X1_writeRowsOf Fu Λ this_0 town_0 person_0 hours_0 h = some ho) : fx_Met yX1_writeRowsOf cX1_writeRowsOf 5 none rm_X1_writeRowsOf Λ [(3, this_0), (6, town_0), (0, person_0), (0, hours_0)] h none ho := by
  unfold f_X1_writeRowsOf at hf
  refine fx_enter (ls := [some (3, this_0), some (6, town_0), some (0, person_0), some (0, hours_0), none]) (by decide) (Nat.le_of_ble_eq_true rfl) rfl (fun M G F K => ?_)
  refine fx_aload_n (pc := 0) (t := 1) F 0 rfl rfl dX1_writeRowsOf_0 ?_
  refine fx_aload_n (pc := 1) (t := 4) F 1 rfl rfl dX1_writeRowsOf_1 ?_
  refine fx_iload_n (pc := 2) F 2 rfl rfl dX1_writeRowsOf_2 ?_
  refine fx_iload_n (pc := 3) F 3 rfl rfl dX1_writeRowsOf_3 ?_
  obtain ⟨h1, e2, hf⟩ := fx_bnd hf
  refine fx_cVv (pc := 4) F 1 kC_X1 [(6, town_0), (0, person_0), (0, hours_0)] this_0 [] (m_X1_writeFirstRow Fu Λ this_0 town_0 person_0 hours_0 h _ e2) kD_X1_writeFirstRow kI_X1_writeFirstRow rfl wM_X1_177 ⟨rfl, rfl⟩ ⟨by decide, by decide⟩ (Nat.le_of_ble_eq_true rfl) rfl dX1_writeRowsOf_4 ?_
  refine fx_iconst (pc := 7) F ⟨by decide, by decide⟩ dX1_writeRowsOf_7 ?_
  refine fx_istore (pc := 8) (ls' := [some (3, this_0), some (6, town_0), some (0, person_0), some (0, hours_0), some (0, 0)]) F (by decide) rfl rfl dX1_writeRowsOf_8 ?_
  obtain ⟨x9, e40, hf⟩ := fx_bnd hf
  have hE41 : (fun y : (Int × fx_H) ⊕ (fx_H) => match y with | .inl z => fx_J M G Λ 5 64 [some (3, this_0), some (6, town_0), some (0, person_0), some (0, hours_0), some (0, z.1)] [] z.2 | .inr r9 => some r9 = some ho) x9 := by
    cases x9 with
    | inr r9 => exact hf
    | inl y9 =>
      obtain ⟨r_38, h39⟩ := y9
      show fx_J M G Λ 5 64 [some (3, this_0), some (6, town_0), some (0, person_0), some (0, hours_0), some (0, r_38)] [] h39
      cases hf
      exact fx_vreturn (pc := 64) F K dX1_writeRowsOf_64
  refine fx_loop_J (Hd := (fun z : Int × fx_H => fx_J M G Λ 5 10 [some (3, this_0), some (6, town_0), some (0, person_0), some (0, hours_0), some (0, z.1)] [] z.2)) (Ex := (fun y : (Int × fx_H) ⊕ (fx_H) => match y with | .inl z => fx_J M G Λ 5 64 [some (3, this_0), some (6, town_0), some (0, person_0), some (0, hours_0), some (0, z.1)] [] z.2 | .inr r9 => some r9 = some ho)) ?_ Fu _ _ e40 hE41
  rintro ⟨r_22, h23⟩ o9 eq24 ih ex
  unfold s_X1_writeRowsOf_1 at eq24
  show fx_J M G Λ 5 10 [some (3, this_0), some (6, town_0), some (0, person_0), some (0, hours_0), some (0, r_22)] [] h23
  refine fx_iload (pc := 10) F rfl dX1_writeRowsOf_10 ?_
  refine fx_bipush (pc := 12) F ⟨by decide, by decide⟩ (by decide) dX1_writeRowsOf_12 ?_
  refine fx_nlt (pc := 14) F 64 (by decide) dX1_writeRowsOf_14 (fun c25 => ?_) (fun c25 => ?_)
  · have eq24 := (if_pos c25).symm.trans eq24
    refine fx_aload_n (pc := 17) (t := 1) F 0 rfl rfl dX1_writeRowsOf_17 ?_
    refine fx_gR (pc := 18) F 1 8 8 8 rfl kC_X1 (by decide) rfl wF_X1_33 dX1_writeRowsOf_18 ?_
    refine fx_iconst (pc := 21) F ⟨by decide, by decide⟩ dX1_writeRowsOf_21 ?_
    refine fx_aload_n (pc := 22) (t := 1) F 0 rfl rfl dX1_writeRowsOf_22 ?_
    refine fx_gR (pc := 23) F 1 6 6 11 rfl kC_X1 (by decide) rfl wF_X1_26 dX1_writeRowsOf_23 ?_
    refine fx_iload_n (pc := 26) F 2 rfl rfl dX1_writeRowsOf_26 ?_
    obtain ⟨v26, e27, eq24⟩ := fx_bnd eq24
    refine fx_raldG (pc := 27) F e27 dX1_writeRowsOf_27 ?_
    refine fx_iload (pc := 28) F rfl dX1_writeRowsOf_28 ?_
    refine fx_iconst (pc := 30) F ⟨by decide, by decide⟩ dX1_writeRowsOf_30 ?_
    refine fx_imul (pc := 31) F dX1_writeRowsOf_31 ?_
    refine fx_iload_n (pc := 32) F 3 rfl rfl dX1_writeRowsOf_32 ?_
    obtain ⟨h28, e29, eq24⟩ := fx_bnd eq24
    refine fx_racopy (pc := 33) F e29 wM_X1_164 wNa_arraycopy wSt_arraycopy wI_J10 (by decide) (Nat.le_of_ble_eq_true rfl) dX1_writeRowsOf_33 ?_
    refine fx_aload_n (pc := 36) (t := 1) F 0 rfl rfl dX1_writeRowsOf_36 ?_
    refine fx_gR (pc := 37) F 1 7 7 8 rfl kC_X1 (by decide) rfl wF_X1_29 dX1_writeRowsOf_37 ?_
    refine fx_iload_n (pc := 40) F 2 rfl rfl dX1_writeRowsOf_40 ?_
    refine fx_dup2 (pc := 41) F (show (0 : Nat) ≠ 1 by decide) (show (10 : Nat) ≠ 1 by decide) dX1_writeRowsOf_41 ?_
    obtain ⟨v30, e31, eq24⟩ := fx_bnd eq24
    refine fx_raldI (pc := 42) F e31 dX1_writeRowsOf_42 ?_
    refine fx_iconst (pc := 43) F ⟨by decide, by decide⟩ dX1_writeRowsOf_43 ?_
    refine fx_iadd (pc := 44) F dX1_writeRowsOf_44 ?_
    obtain ⟨h32, e33, eq24⟩ := fx_bnd eq24
    refine fx_rastI (pc := 45) F e33 dX1_writeRowsOf_45 ?_
    refine fx_aload_n (pc := 46) (t := 1) F 0 rfl rfl dX1_writeRowsOf_46 ?_
    refine fx_gR (pc := 47) F 1 8 8 8 rfl kC_X1 (by decide) rfl wF_X1_33 dX1_writeRowsOf_47 ?_
    refine fx_iload_n (pc := 50) F 3 rfl rfl dX1_writeRowsOf_50 ?_
    obtain ⟨⟨v34, h35⟩, e36, eq24⟩ := fx_bnd eq24
    refine fx_cN (pc := 51) F [(10, (fx_tg Λ this_0 8)), (0, hours_0)] [] (m_X5_nextOrder Fu Λ (fx_tg Λ this_0 8) hours_0 h32 _ _ e36) kD_X5_nextOrder wSt_X5_nextOrder (by decide) ⟨rfl, rfl⟩ ⟨by decide, by decide⟩ (Nat.le_of_ble_eq_true rfl) rfl dX1_writeRowsOf_51 ?_
    refine fx_nzeq (pc := 54) F 58 (by decide) dX1_writeRowsOf_54 (fun c37 => ?_) (fun c37 => ?_)
    · have eq24 := (if_pos c37).symm.trans eq24
      cases eq24
      have q9 := ex _ rfl
      cases q9
      exact fx_vreturn (pc := 57) F K dX1_writeRowsOf_57
    · have eq24 := (if_neg c37).symm.trans eq24
      refine fx_iinc (pc := 58) (ls' := [some (3, this_0), some (6, town_0), some (0, person_0), some (0, hours_0), some (0, (fx_w (r_22 + 1)))]) F (by decide) rfl rfl rfl dX1_writeRowsOf_58 ?_
      refine fx_goto (pc := 61) F 10 (by decide) dX1_writeRowsOf_61 ?_
      cases eq24
      exact ih _ rfl
  · have eq24 := (if_neg c25).symm.trans eq24
    cases eq24
    exact ex _ rfl
def s_X1_writeRows_1 (Fu : Nat) (Λ : fx_L) (this_3 : Int) (town_4 : Int) (hours_5 : Int) : Int × fx_H → Option ((Int × fx_H) ⊕ (Int × fx_H)) := fun (person_1, h2) =>
  if person_1 < (h2 town_4 2) then
    (fx_wr Λ h2 (fx_tg Λ this_3 7) person_1 0).bind fun h8 =>
    (f_X4_needed Fu Λ town_4 person_1 h8).bind fun v10 =>
    if v10 ≤ hours_5 then
      (f_X1_writeRowsOf Fu Λ this_3 town_4 person_1 hours_5 h8).bind fun h13 =>
      some (.inl ((fx_w (person_1 + 1)), h13))
    else
      some (.inl ((fx_w (person_1 + 1)), h8))
  else
    some (.inr (person_1, h2))
def f_X1_writeRows (Fu : Nat) (Λ : fx_L) (this_0 : Int) (town_0 : Int) (hours_0 : Int) (h : fx_H) : Option (fx_H) :=
  Option.bind (fx_loop (s_X1_writeRows_1 Fu Λ this_0 town_0 hours_0) Fu (0, h)) fun (person_26, h27) =>
  some h27
abbrev rm_X1_writeRows : Room := { frames := 3, cells := 0, slots := 0, locals := 73 }
set_option maxRecDepth 100000 in
set_option maxHeartbeats 4000000 in
theorem m_X1_writeRows (Fu : Nat) (Λ : fx_L) (this_0 : Int) (town_0 : Int) (hours_0 : Int) (h : fx_H) (ho : fx_H) (hf : f_X1_writeRows Fu Λ this_0 town_0 hours_0 h = some ho) : fx_Met yX1_writeRows cX1_writeRows 4 none rm_X1_writeRows Λ [(3, this_0), (6, town_0), (0, hours_0)] h none ho := by
  unfold f_X1_writeRows at hf
  refine fx_enter (ls := [some (3, this_0), some (6, town_0), some (0, hours_0), none]) (by decide) (Nat.le_of_ble_eq_true rfl) rfl (fun M G F K => ?_)
  refine fx_iconst (pc := 0) F ⟨by decide, by decide⟩ dX1_writeRows_0 ?_
  refine fx_istore_n (pc := 1) (ls' := [some (3, this_0), some (6, town_0), some (0, hours_0), some (0, 0)]) F 3 rfl (by decide) rfl rfl dX1_writeRows_1 ?_
  obtain ⟨⟨person_26, h27⟩, e28, hf⟩ := fx_bnd hf
  have hE29 : fx_J M G Λ 4 39 [some (3, this_0), some (6, town_0), some (0, hours_0), some (0, person_26)] [] h27 := by
    cases hf
    exact fx_vreturn (pc := 39) F K dX1_writeRows_39
  refine fx_loop_J (Hd := (fun z : Int × fx_H => fx_J M G Λ 4 2 [some (3, this_0), some (6, town_0), some (0, hours_0), some (0, z.1)] [] z.2)) (Ex := (fun z : Int × fx_H => fx_J M G Λ 4 39 [some (3, this_0), some (6, town_0), some (0, hours_0), some (0, z.1)] [] z.2)) ?_ Fu _ _ e28 hE29
  rintro ⟨person_15, h16⟩ o9 eq17 ih ex
  unfold s_X1_writeRows_1 at eq17
  show fx_J M G Λ 4 2 [some (3, this_0), some (6, town_0), some (0, hours_0), some (0, person_15)] [] h16
  refine fx_iload_n (pc := 2) F 3 rfl rfl dX1_writeRows_2 ?_
  refine fx_aload_n (pc := 3) (t := 4) F 1 rfl rfl dX1_writeRows_3 ?_
  refine fx_gI (pc := 4) F 4 2 2 rfl kC_X4 rfl wF_X1_87 dX1_writeRows_4 ?_
  refine fx_nlt (pc := 7) F 39 (by decide) dX1_writeRows_7 (fun c18 => ?_) (fun c18 => ?_)
  · have eq17 := (if_pos c18).symm.trans eq17
    refine fx_aload_n (pc := 10) (t := 1) F 0 rfl rfl dX1_writeRows_10 ?_
    refine fx_gR (pc := 11) F 1 7 7 8 rfl kC_X1 (by decide) rfl wF_X1_29 dX1_writeRows_11 ?_
    refine fx_iload_n (pc := 14) F 3 rfl rfl dX1_writeRows_14 ?_
    refine fx_iconst (pc := 15) F ⟨by decide, by decide⟩ dX1_writeRows_15 ?_
    obtain ⟨h19, e20, eq17⟩ := fx_bnd eq17
    refine fx_rastI (pc := 16) F e20 dX1_writeRows_16 ?_
    refine fx_aload_n (pc := 17) (t := 4) F 1 rfl rfl dX1_writeRows_17 ?_
    refine fx_iload_n (pc := 18) F 3 rfl rfl dX1_writeRows_18 ?_
    obtain ⟨v21, e22, eq17⟩ := fx_bnd eq17
    refine fx_cV (pc := 19) F 4 kC_X4 [(0, person_15)] town_0 [] (m_X4_needed Fu Λ town_0 person_15 h19 _ e22) kD_X4_needed kI_X4_needed rfl wM_X1_170 ⟨rfl, rfl⟩ ⟨by decide, by decide⟩ (Nat.le_of_ble_eq_true rfl) rfl dX1_writeRows_19 ?_
    refine fx_iload_n (pc := 22) F 2 rfl rfl dX1_writeRows_22 ?_
    refine fx_nle (pc := 23) F 33 (by decide) dX1_writeRows_23 (fun c23 => ?_) (fun c23 => ?_)
    · have eq17 := (if_pos c23).symm.trans eq17
      refine fx_aload_n (pc := 26) (t := 1) F 0 rfl rfl dX1_writeRows_26 ?_
      refine fx_aload_n (pc := 27) (t := 4) F 1 rfl rfl dX1_writeRows_27 ?_
      refine fx_iload_n (pc := 28) F 3 rfl rfl dX1_writeRows_28 ?_
      refine fx_iload_n (pc := 29) F 2 rfl rfl dX1_writeRows_29 ?_
      obtain ⟨h24, e25, eq17⟩ := fx_bnd eq17
      refine fx_cVv (pc := 30) F 1 kC_X1 [(6, town_0), (0, person_15), (0, hours_0)] this_0 [] (m_X1_writeRowsOf Fu Λ this_0 town_0 person_15 hours_0 h19 _ e25) kD_X1_writeRowsOf kI_X1_writeRowsOf rfl wM_X1_173 ⟨rfl, rfl⟩ ⟨by decide, by decide⟩ (Nat.le_of_ble_eq_true rfl) rfl dX1_writeRows_30 ?_
      refine fx_iinc (pc := 33) (ls' := [some (3, this_0), some (6, town_0), some (0, hours_0), some (0, (fx_w (person_15 + 1)))]) F (by decide) rfl rfl rfl dX1_writeRows_33 ?_
      refine fx_goto (pc := 36) F 2 (by decide) dX1_writeRows_36 ?_
      cases eq17
      exact ih _ rfl
    · have eq17 := (if_neg c23).symm.trans eq17
      refine fx_iinc (pc := 33) (ls' := [some (3, this_0), some (6, town_0), some (0, hours_0), some (0, (fx_w (person_15 + 1)))]) F (by decide) rfl rfl rfl dX1_writeRows_33 ?_
      refine fx_goto (pc := 36) F 2 (by decide) dX1_writeRows_36 ?_
      cases eq17
      exact ih _ rfl
  · have eq17 := (if_neg c18).symm.trans eq17
    cases eq17
    exact ex _ rfl
def s_X1_waysTogether_1 (Fu : Nat) (Λ : fx_L) (this_3 : Int) (town_4 : Int) (h : fx_H) : Int × Int → Option ((Int × Int) ⊕ (Int × Int)) := fun (ways_1, person_2) =>
  if person_2 < (h town_4 2) then
    (fx_rd Λ h (fx_tg Λ this_3 7) person_2).bind fun v7 =>
    some (.inl ((fx_wl (ways_1 * v7)), (fx_w (person_2 + 1))))
  else
    some (.inr (ways_1, person_2))
def f_X1_waysTogether (Fu : Nat) (Λ : fx_L) (this_0 : Int) (town_0 : Int) (h : fx_H) : Option (Int) :=
  Option.bind (fx_loop (s_X1_waysTogether_1 Fu Λ this_0 town_0 h) Fu (1, 0)) fun (ways_15, person_16) =>
  some ways_15
abbrev rm_X1_waysTogether : Room := { frames := 0, cells := 0, slots := 0, locals := 0 }
set_option maxRecDepth 100000 in
set_option maxHeartbeats 4000000 in
theorem m_X1_waysTogether (Fu : Nat) (Λ : fx_L) (this_0 : Int) (town_0 : Int) (h : fx_H) (r : Int) (hf : f_X1_waysTogether Fu Λ this_0 town_0 h = some r) : fx_Met yX1_waysTogether cX1_waysTogether 5 (some .long) rm_X1_waysTogether Λ [(3, this_0), (6, town_0)] h (some (1, r)) h := by
  unfold f_X1_waysTogether at hf
  refine fx_enter (ls := [some (3, this_0), some (6, town_0), none, none, none]) (by decide) (Nat.le_of_ble_eq_true rfl) rfl (fun M G F K => ?_)
  refine fx_lconst (pc := 0) (z := 1) F rfl ⟨by decide, by decide⟩ (by decide) dX1_waysTogether_0 ?_
  refine fx_lstore_n (pc := 1) (ls' := [some (3, this_0), some (6, town_0), some (1, 1), none, none]) F 2 rfl (by decide) rfl rfl dX1_waysTogether_1 ?_
  refine fx_iconst (pc := 2) F ⟨by decide, by decide⟩ dX1_waysTogether_2 ?_
  refine fx_istore (pc := 3) (ls' := [some (3, this_0), some (6, town_0), some (1, 1), none, some (0, 0)]) F (by decide) rfl rfl dX1_waysTogether_3 ?_
  obtain ⟨⟨ways_15, person_16⟩, e17, hf⟩ := fx_bnd hf
  have hE18 : fx_J M G Λ 5 31 [some (3, this_0), some (6, town_0), some (1, ways_15), none, some (0, person_16)] [] h := by
    refine fx_lload_n (pc := 31) F 2 rfl rfl dX1_waysTogether_31 ?_
    cases hf
    exact fx_lreturn (pc := 32) F K dX1_waysTogether_32
  refine fx_loop_J (Hd := (fun z : Int × Int => fx_J M G Λ 5 5 [some (3, this_0), some (6, town_0), some (1, z.1), none, some (0, z.2)] [] h)) (Ex := (fun z : Int × Int => fx_J M G Λ 5 31 [some (3, this_0), some (6, town_0), some (1, z.1), none, some (0, z.2)] [] h)) ?_ Fu _ _ e17 hE18
  rintro ⟨ways_9, person_10⟩ o9 eq11 ih ex
  unfold s_X1_waysTogether_1 at eq11
  show fx_J M G Λ 5 5 [some (3, this_0), some (6, town_0), some (1, ways_9), none, some (0, person_10)] [] h
  refine fx_iload (pc := 5) F rfl dX1_waysTogether_5 ?_
  refine fx_aload_n (pc := 7) (t := 4) F 1 rfl rfl dX1_waysTogether_7 ?_
  refine fx_gI (pc := 8) F 4 2 2 rfl kC_X4 rfl wF_X1_87 dX1_waysTogether_8 ?_
  refine fx_nlt (pc := 11) F 31 (by decide) dX1_waysTogether_11 (fun c12 => ?_) (fun c12 => ?_)
  · have eq11 := (if_pos c12).symm.trans eq11
    refine fx_lload_n (pc := 14) F 2 rfl rfl dX1_waysTogether_14 ?_
    refine fx_aload_n (pc := 15) (t := 1) F 0 rfl rfl dX1_waysTogether_15 ?_
    refine fx_gR (pc := 16) F 1 7 7 8 rfl kC_X1 (by decide) rfl wF_X1_29 dX1_waysTogether_16 ?_
    refine fx_iload (pc := 19) F rfl dX1_waysTogether_19 ?_
    obtain ⟨v13, e14, eq11⟩ := fx_bnd eq11
    refine fx_raldI (pc := 21) F e14 dX1_waysTogether_21 ?_
    refine fx_ri2l (pc := 22) F dX1_waysTogether_22 ?_
    refine fx_lmul (pc := 23) F dX1_waysTogether_23 ?_
    refine fx_lstore_n (pc := 24) (ls' := [some (3, this_0), some (6, town_0), some (1, (fx_wl (ways_9 * v13))), none, some (0, person_10)]) F 2 rfl (by decide) rfl rfl dX1_waysTogether_24 ?_
    refine fx_iinc (pc := 25) (ls' := [some (3, this_0), some (6, town_0), some (1, (fx_wl (ways_9 * v13))), none, some (0, (fx_w (person_10 + 1)))]) F (by decide) rfl rfl rfl dX1_waysTogether_25 ?_
    refine fx_goto (pc := 28) F 5 (by decide) dX1_waysTogether_28 ?_
    cases eq11
    exact ih _ rfl
  · have eq11 := (if_neg c12).symm.trans eq11
    cases eq11
    exact ex _ rfl
def s_X1_liftRow_1 (Fu : Nat) (Λ : fx_L) (this_3 : Int) (person_4 : Int) : Int × fx_H → Option ((Int × fx_H) ⊕ (Int × fx_H)) := fun (hour_1, h2) =>
  if hour_1 < 5 then
    (fx_rr Λ (fx_tg Λ this_3 0) hour_1).bind fun v7 =>
    (fx_wr Λ h2 v7 person_4 9).bind fun h9 =>
    some (.inl ((fx_w (hour_1 + 1)), h9))
  else
    some (.inr (hour_1, h2))
def f_X1_liftRow (Fu : Nat) (Λ : fx_L) (this_0 : Int) (person_0 : Int) (h : fx_H) : Option (fx_H) :=
  Option.bind (fx_loop (s_X1_liftRow_1 Fu Λ this_0 person_0) Fu (0, h)) fun (hour_19, h20) =>
  some h20
abbrev rm_X1_liftRow : Room := { frames := 0, cells := 0, slots := 0, locals := 0 }
set_option maxRecDepth 100000 in
set_option maxHeartbeats 4000000 in
theorem m_X1_liftRow (Fu : Nat) (Λ : fx_L) (this_0 : Int) (person_0 : Int) (h : fx_H) (ho : fx_H) (hf : f_X1_liftRow Fu Λ this_0 person_0 h = some ho) : fx_Met yX1_liftRow cX1_liftRow 3 none rm_X1_liftRow Λ [(3, this_0), (0, person_0)] h none ho := by
  unfold f_X1_liftRow at hf
  refine fx_enter (ls := [some (3, this_0), some (0, person_0), none]) (by decide) (Nat.le_of_ble_eq_true rfl) rfl (fun M G F K => ?_)
  refine fx_iconst (pc := 0) F ⟨by decide, by decide⟩ dX1_liftRow_0 ?_
  refine fx_istore_n (pc := 1) (ls' := [some (3, this_0), some (0, person_0), some (0, 0)]) F 2 rfl (by decide) rfl rfl dX1_liftRow_1 ?_
  obtain ⟨⟨hour_19, h20⟩, e21, hf⟩ := fx_bnd hf
  have hE22 : fx_J M G Λ 3 23 [some (3, this_0), some (0, person_0), some (0, hour_19)] [] h20 := by
    cases hf
    exact fx_vreturn (pc := 23) F K dX1_liftRow_23
  refine fx_loop_J (Hd := (fun z : Int × fx_H => fx_J M G Λ 3 2 [some (3, this_0), some (0, person_0), some (0, z.1)] [] z.2)) (Ex := (fun z : Int × fx_H => fx_J M G Λ 3 23 [some (3, this_0), some (0, person_0), some (0, z.1)] [] z.2)) ?_ Fu _ _ e21 hE22
  rintro ⟨hour_11, h12⟩ o9 eq13 ih ex
  unfold s_X1_liftRow_1 at eq13
  show fx_J M G Λ 3 2 [some (3, this_0), some (0, person_0), some (0, hour_11)] [] h12
  refine fx_iload_n (pc := 2) F 2 rfl rfl dX1_liftRow_2 ?_
  refine fx_iconst (pc := 3) F ⟨by decide, by decide⟩ dX1_liftRow_3 ?_
  refine fx_nlt (pc := 4) F 23 (by decide) dX1_liftRow_4 (fun c14 => ?_) (fun c14 => ?_)
  · have eq13 := (if_pos c14).symm.trans eq13
    refine fx_aload_n (pc := 7) (t := 1) F 0 rfl rfl dX1_liftRow_7 ?_
    refine fx_gR (pc := 8) F 1 0 0 11 rfl kC_X1 (by decide) rfl wF_X1_11 dX1_liftRow_8 ?_
    refine fx_iload_n (pc := 11) F 2 rfl rfl dX1_liftRow_11 ?_
    obtain ⟨v15, e16, eq13⟩ := fx_bnd eq13
    refine fx_raldG (pc := 12) F e16 dX1_liftRow_12 ?_
    refine fx_iload_n (pc := 13) F 1 rfl rfl dX1_liftRow_13 ?_
    refine fx_bipush (pc := 14) F ⟨by decide, by decide⟩ (by decide) dX1_liftRow_14 ?_
    obtain ⟨h17, e18, eq13⟩ := fx_bnd eq13
    refine fx_rastI (pc := 16) F e18 dX1_liftRow_16 ?_
    refine fx_iinc (pc := 17) (ls' := [some (3, this_0), some (0, person_0), some (0, (fx_w (hour_11 + 1)))]) F (by decide) rfl rfl rfl dX1_liftRow_17 ?_
    refine fx_goto (pc := 20) F 2 (by decide) dX1_liftRow_20 ?_
    cases eq13
    exact ih _ rfl
  · have eq13 := (if_neg c14).symm.trans eq13
    cases eq13
    exact ex _ rfl
def s_X1_clearDay_1 (Fu : Nat) (Λ : fx_L) (this_3 : Int) : Int × fx_H → Option ((Int × fx_H) ⊕ (Int × fx_H)) := fun (person_1, h2) =>
  if person_1 < 5 then
    (f_X1_liftRow Fu Λ this_3 person_1 h2).bind fun h6 =>
    some (.inl ((fx_w (person_1 + 1)), h6))
  else
    some (.inr (person_1, h2))
def f_X1_clearDay (Fu : Nat) (Λ : fx_L) (this_0 : Int) (h : fx_H) : Option (fx_H) :=
  Option.bind (fx_loop (s_X1_clearDay_1 Fu Λ this_0) Fu (0, h)) fun (person_14, h15) =>
  some h15
abbrev rm_X1_clearDay : Room := { frames := 1, cells := 0, slots := 0, locals := 22 }
set_option maxRecDepth 100000 in
set_option maxHeartbeats 4000000 in
theorem m_X1_clearDay (Fu : Nat) (Λ : fx_L) (this_0 : Int) (h : fx_H) (ho : fx_H) (hf : f_X1_clearDay Fu Λ this_0 h = some ho) : fx_Met yX1_clearDay cX1_clearDay 2 none rm_X1_clearDay Λ [(3, this_0)] h none ho := by
  unfold f_X1_clearDay at hf
  refine fx_enter (ls := [some (3, this_0), none]) (by decide) (Nat.le_of_ble_eq_true rfl) rfl (fun M G F K => ?_)
  refine fx_iconst (pc := 0) F ⟨by decide, by decide⟩ dX1_clearDay_0 ?_
  refine fx_istore_n (pc := 1) (ls' := [some (3, this_0), some (0, 0)]) F 1 rfl (by decide) rfl rfl dX1_clearDay_1 ?_
  obtain ⟨⟨person_14, h15⟩, e16, hf⟩ := fx_bnd hf
  have hE17 : fx_J M G Λ 2 18 [some (3, this_0), some (0, person_14)] [] h15 := by
    cases hf
    exact fx_vreturn (pc := 18) F K dX1_clearDay_18
  refine fx_loop_J (Hd := (fun z : Int × fx_H => fx_J M G Λ 2 2 [some (3, this_0), some (0, z.1)] [] z.2)) (Ex := (fun z : Int × fx_H => fx_J M G Λ 2 18 [some (3, this_0), some (0, z.1)] [] z.2)) ?_ Fu _ _ e16 hE17
  rintro ⟨person_8, h9⟩ o9 eq10 ih ex
  unfold s_X1_clearDay_1 at eq10
  show fx_J M G Λ 2 2 [some (3, this_0), some (0, person_8)] [] h9
  refine fx_iload_n (pc := 2) F 1 rfl rfl dX1_clearDay_2 ?_
  refine fx_iconst (pc := 3) F ⟨by decide, by decide⟩ dX1_clearDay_3 ?_
  refine fx_nlt (pc := 4) F 18 (by decide) dX1_clearDay_4 (fun c11 => ?_) (fun c11 => ?_)
  · have eq10 := (if_pos c11).symm.trans eq10
    refine fx_aload_n (pc := 7) (t := 1) F 0 rfl rfl dX1_clearDay_7 ?_
    refine fx_iload_n (pc := 8) F 1 rfl rfl dX1_clearDay_8 ?_
    obtain ⟨h12, e13, eq10⟩ := fx_bnd eq10
    refine fx_cVv (pc := 9) F 1 kC_X1 [(0, person_8)] this_0 [] (m_X1_liftRow Fu Λ this_0 person_8 h9 _ e13) kD_X1_liftRow kI_X1_liftRow rfl wM_X1_153 ⟨rfl, rfl⟩ ⟨by decide, by decide⟩ (Nat.le_of_ble_eq_true rfl) rfl dX1_clearDay_9 ?_
    refine fx_iinc (pc := 12) (ls' := [some (3, this_0), some (0, (fx_w (person_8 + 1)))]) F (by decide) rfl rfl rfl dX1_clearDay_12 ?_
    refine fx_goto (pc := 15) F 2 (by decide) dX1_clearDay_15 ?_
    cases eq10
    exact ih _ rfl
  · have eq10 := (if_neg c11).symm.trans eq10
    cases eq10
    exact ex _ rfl
def s_X0_othersWith_1 (Fu : Nat) (Λ : fx_L) (this_3 : Int) (kind_4 : Int) (now_5 : Int) (person_6 : Int) (thing_7 : Int) (h : fx_H) : Int × Int → Option ((Int × Int) ⊕ (Int × Int)) := fun (others_1, other_2) =>
  Option.bind (
    if other_2 < (h this_3 4) then
      (f_X0_isFined Fu Λ this_3 kind_4 thing_7 h).bind fun v14 =>
      if ¬ v14 = 0 then
        some true
      else
        some false
    else
      some false
  ) fun b9 =>
  if b9 = true then
    Option.bind (
      if ¬ other_2 = person_6 then
        (fx_rd Λ h now_5 other_2).bind fun v23 =>
        (fx_rd Λ h (fx_tg Λ this_3 0) v23).bind fun v25 =>
        (fx_rd Λ h (fx_tg Λ this_3 0) thing_7).bind fun v27 =>
        if v25 = v27 then
          (fx_rd Λ h now_5 other_2).bind fun v30 =>
          (f_X0_isFined Fu Λ this_3 kind_4 v30 h).bind fun v32 =>
          if ¬ v32 = 0 then
            some true
          else
            some false
        else
          some false
      else
        some false
    ) fun b18 =>
    if b18 = true then
      some (.inl ((fx_w (others_1 + 1)), (fx_w (other_2 + 1))))
    else
      some (.inl (others_1, (fx_w (other_2 + 1))))
  else
    some (.inr (others_1, other_2))
def f_X0_othersWith (Fu : Nat) (Λ : fx_L) (this_0 : Int) (kind_0 : Int) (now_0 : Int) (person_0 : Int) (thing_0 : Int) (h : fx_H) : Option (Int) :=
  Option.bind (fx_loop (s_X0_othersWith_1 Fu Λ this_0 kind_0 now_0 person_0 thing_0 h) Fu (0, 0)) fun (others_66, other_67) =>
  some others_66
abbrev rm_X0_othersWith : Room := { frames := 1, cells := 0, slots := 0, locals := 22 }
set_option maxRecDepth 100000 in
set_option maxHeartbeats 4000000 in
theorem m_X0_othersWith (Fu : Nat) (Λ : fx_L) (this_0 : Int) (kind_0 : Int) (now_0 : Int) (person_0 : Int) (thing_0 : Int) (h : fx_H) (r : Int) (hf : f_X0_othersWith Fu Λ this_0 kind_0 now_0 person_0 thing_0 h = some r) : fx_Met yX0_othersWith cX0_othersWith 7 (some .int) rm_X0_othersWith Λ [(2, this_0), (0, kind_0), (10, now_0), (0, person_0), (0, thing_0)] h (some (0, r)) h := by
  unfold f_X0_othersWith at hf
  refine fx_enter (ls := [some (2, this_0), some (0, kind_0), some (10, now_0), some (0, person_0), some (0, thing_0), none, none]) (by decide) (Nat.le_of_ble_eq_true rfl) rfl (fun M G F K => ?_)
  refine fx_iconst (pc := 0) F ⟨by decide, by decide⟩ dX0_othersWith_0 ?_
  refine fx_istore (pc := 1) (ls' := [some (2, this_0), some (0, kind_0), some (10, now_0), some (0, person_0), some (0, thing_0), some (0, 0), none]) F (by decide) rfl rfl dX0_othersWith_1 ?_
  refine fx_iconst (pc := 3) F ⟨by decide, by decide⟩ dX0_othersWith_3 ?_
  refine fx_istore (pc := 4) (ls' := [some (2, this_0), some (0, kind_0), some (10, now_0), some (0, person_0), some (0, thing_0), some (0, 0), some (0, 0)]) F (by decide) rfl rfl dX0_othersWith_4 ?_
  obtain ⟨⟨others_66, other_67⟩, e68, hf⟩ := fx_bnd hf
  have hE69 : fx_J M G Λ 7 71 [some (2, this_0), some (0, kind_0), some (10, now_0), some (0, person_0), some (0, thing_0), some (0, others_66), some (0, other_67)] [] h := by
    refine fx_iload (pc := 71) F rfl dX0_othersWith_71 ?_
    cases hf
    exact fx_ireturn (pc := 73) F K dX0_othersWith_73
  refine fx_loop_J (Hd := (fun z : Int × Int => fx_J M G Λ 7 6 [some (2, this_0), some (0, kind_0), some (10, now_0), some (0, person_0), some (0, thing_0), some (0, z.1), some (0, z.2)] [] h)) (Ex := (fun z : Int × Int => fx_J M G Λ 7 71 [some (2, this_0), some (0, kind_0), some (10, now_0), some (0, person_0), some (0, thing_0), some (0, z.1), some (0, z.2)] [] h)) ?_ Fu _ _ e68 hE69
  rintro ⟨others_36, other_37⟩ o9 eq38 ih ex
  unfold s_X0_othersWith_1 at eq38
  show fx_J M G Λ 7 6 [some (2, this_0), some (0, kind_0), some (10, now_0), some (0, person_0), some (0, thing_0), some (0, others_36), some (0, other_37)] [] h
  obtain ⟨b39, e40, eq38⟩ := fx_bnd eq38
  have hT41 : b39 = true → fx_J M G Λ 7 25 [some (2, this_0), some (0, kind_0), some (10, now_0), some (0, person_0), some (0, thing_0), some (0, others_36), some (0, other_37)] [] h := fun c47 => by
    have eq38 := (if_pos c47).symm.trans eq38
    obtain ⟨b48, e49, eq38⟩ := fx_bnd eq38
    have hT50 : b48 = true → fx_J M G Λ 7 62 [some (2, this_0), some (0, kind_0), some (10, now_0), some (0, person_0), some (0, thing_0), some (0, others_36), some (0, other_37)] [] h := fun c65 => by
      have eq38 := (if_pos c65).symm.trans eq38
      refine fx_iinc (pc := 62) (ls' := [some (2, this_0), some (0, kind_0), some (10, now_0), some (0, person_0), some (0, thing_0), some (0, (fx_w (others_36 + 1))), some (0, other_37)]) F (by decide) rfl rfl rfl dX0_othersWith_62 ?_
      refine fx_iinc (pc := 65) (ls' := [some (2, this_0), some (0, kind_0), some (10, now_0), some (0, person_0), some (0, thing_0), some (0, (fx_w (others_36 + 1))), some (0, (fx_w (other_37 + 1)))]) F (by decide) rfl rfl rfl dX0_othersWith_65 ?_
      refine fx_goto (pc := 68) F 6 (by decide) dX0_othersWith_68 ?_
      cases eq38
      exact ih _ rfl
    have hF51 : ¬ b48 = true → fx_J M G Λ 7 65 [some (2, this_0), some (0, kind_0), some (10, now_0), some (0, person_0), some (0, thing_0), some (0, others_36), some (0, other_37)] [] h := fun c65 => by
      have eq38 := (if_neg c65).symm.trans eq38
      refine fx_iinc (pc := 65) (ls' := [some (2, this_0), some (0, kind_0), some (10, now_0), some (0, person_0), some (0, thing_0), some (0, others_36), some (0, (fx_w (other_37 + 1)))]) F (by decide) rfl rfl rfl dX0_othersWith_65 ?_
      refine fx_goto (pc := 68) F 6 (by decide) dX0_othersWith_68 ?_
      cases eq38
      exact ih _ rfl
    refine fx_iload (pc := 25) F rfl dX0_othersWith_25 ?_
    refine fx_iload_n (pc := 27) F 3 rfl rfl dX0_othersWith_27 ?_
    refine fx_nne (pc := 28) F 65 (by decide) dX0_othersWith_28 (fun c52 => ?_) (fun c52 => ?_)
    · have e49 := (if_pos c52).symm.trans e49
      refine fx_aload_n (pc := 31) (t := 0) F 0 rfl rfl dX0_othersWith_31 ?_
      refine fx_gR (pc := 32) F 0 0 0 8 rfl kC_X0 (by decide) rfl wF_X0_9 dX0_othersWith_32 ?_
      refine fx_aload_n (pc := 35) (t := 8) F 2 rfl rfl dX0_othersWith_35 ?_
      refine fx_iload (pc := 36) F rfl dX0_othersWith_36 ?_
      obtain ⟨v53, e54, e49⟩ := fx_bnd e49
      refine fx_raldI (pc := 38) F e54 dX0_othersWith_38 ?_
      obtain ⟨v55, e56, e49⟩ := fx_bnd e49
      refine fx_raldI (pc := 39) F e56 dX0_othersWith_39 ?_
      refine fx_aload_n (pc := 40) (t := 0) F 0 rfl rfl dX0_othersWith_40 ?_
      refine fx_gR (pc := 41) F 0 0 0 8 rfl kC_X0 (by decide) rfl wF_X0_9 dX0_othersWith_41 ?_
      refine fx_iload (pc := 44) F rfl dX0_othersWith_44 ?_
      obtain ⟨v57, e58, e49⟩ := fx_bnd e49
      refine fx_raldI (pc := 46) F e58 dX0_othersWith_46 ?_
      refine fx_neq (pc := 47) F 65 (by decide) dX0_othersWith_47 (fun c59 => ?_) (fun c59 => ?_)
      · have e49 := (if_pos c59).symm.trans e49
        refine fx_aload_n (pc := 50) (t := 0) F 0 rfl rfl dX0_othersWith_50 ?_
        refine fx_iload_n (pc := 51) F 1 rfl rfl dX0_othersWith_51 ?_
        refine fx_aload_n (pc := 52) (t := 8) F 2 rfl rfl dX0_othersWith_52 ?_
        refine fx_iload (pc := 53) F rfl dX0_othersWith_53 ?_
        obtain ⟨v60, e61, e49⟩ := fx_bnd e49
        refine fx_raldI (pc := 55) F e61 dX0_othersWith_55 ?_
        obtain ⟨v62, e63, e49⟩ := fx_bnd e49
        refine fx_cV (pc := 56) F 0 kC_X0 [(0, kind_0), (0, v60)] this_0 [] (m_X0_isFined Fu Λ this_0 kind_0 v60 h _ e63) kD_X0_isFined kI_X0_isFined rfl wM_X0_81 ⟨rfl, rfl⟩ ⟨by decide, by decide⟩ (Nat.le_of_ble_eq_true rfl) rfl dX0_othersWith_56 ?_
        refine fx_nzne (pc := 59) F 65 (by decide) dX0_othersWith_59 (fun c64 => ?_) (fun c64 => ?_)
        · have e49 := (if_pos c64).symm.trans e49
          cases e49
          exact hT50 (by decide)
        · have e49 := (if_neg c64).symm.trans e49
          cases e49
          exact hF51 (by decide)
      · have e49 := (if_neg c59).symm.trans e49
        cases e49
        exact hF51 (by decide)
    · have e49 := (if_neg c52).symm.trans e49
      cases e49
      exact hF51 (by decide)
  have hF42 : ¬ b39 = true → fx_J M G Λ 7 71 [some (2, this_0), some (0, kind_0), some (10, now_0), some (0, person_0), some (0, thing_0), some (0, others_36), some (0, other_37)] [] h := fun c47 => by
    have eq38 := (if_neg c47).symm.trans eq38
    cases eq38
    exact ex _ rfl
  refine fx_iload (pc := 6) F rfl dX0_othersWith_6 ?_
  refine fx_aload_n (pc := 8) (t := 0) F 0 rfl rfl dX0_othersWith_8 ?_
  refine fx_gI (pc := 9) F 0 4 4 rfl kC_X0 rfl wF_X0_36 dX0_othersWith_9 ?_
  refine fx_nlt (pc := 12) F 71 (by decide) dX0_othersWith_12 (fun c43 => ?_) (fun c43 => ?_)
  · have e40 := (if_pos c43).symm.trans e40
    refine fx_aload_n (pc := 15) (t := 0) F 0 rfl rfl dX0_othersWith_15 ?_
    refine fx_iload_n (pc := 16) F 1 rfl rfl dX0_othersWith_16 ?_
    refine fx_iload (pc := 17) F rfl dX0_othersWith_17 ?_
    obtain ⟨v44, e45, e40⟩ := fx_bnd e40
    refine fx_cV (pc := 19) F 0 kC_X0 [(0, kind_0), (0, thing_0)] this_0 [] (m_X0_isFined Fu Λ this_0 kind_0 thing_0 h _ e45) kD_X0_isFined kI_X0_isFined rfl wM_X0_81 ⟨rfl, rfl⟩ ⟨by decide, by decide⟩ (Nat.le_of_ble_eq_true rfl) rfl dX0_othersWith_19 ?_
    refine fx_nzne (pc := 22) F 71 (by decide) dX0_othersWith_22 (fun c46 => ?_) (fun c46 => ?_)
    · have e40 := (if_pos c46).symm.trans e40
      cases e40
      exact hT41 (by decide)
    · have e40 := (if_neg c46).symm.trans e40
      cases e40
      exact hF42 (by decide)
  · have e40 := (if_neg c43).symm.trans e40
    cases e40
    exact hF42 (by decide)
