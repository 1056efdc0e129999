def s_X6_layLine_1 (Fu : Nat) (Λ : fx_L) (this_3 : Int) (free_4 : Int) : Int × fx_H → Option ((Int × fx_H) ⊕ (Int × fx_H)) := fun (t_1, h2) =>
  (f_X6_things Fu Λ this_3 h2).bind fun v6 =>
  if t_1 < v6 then
    Option.bind (
      if t_1 = free_4 then
        some (-1)
      else
        (fx_rd Λ h2 (fx_tg Λ this_3 0) (fx_w (1 + t_1))).bind fun v13 =>
        some v13
    ) fun v9 =>
    (fx_wr Λ h2 (fx_tg Λ this_3 6) t_1 v9).bind fun h15 =>
    some (.inl ((fx_w (t_1 + 1)), h15))
  else
    some (.inr (t_1, h2))
def s_X6_layLine_3 (Fu : Nat) (Λ : fx_L) (this_47 : Int) (line_48 : Int) (h : fx_H) : Int × Int → Option ((Int × Int) ⊕ (Int × Int)) := fun (is_45, d_46) =>
  if line_48 < d_46 then
    (fx_rd Λ h (fx_tg Λ this_47 6) is_45).bind fun v51 =>
    some (.inl (v51, (fx_w (d_46 + (-1)))))
  else
    some (.inr (is_45, d_46))
def s_X6_layLine_2 (Fu : Nat) (Λ : fx_L) (this_37 : Int) (line_38 : Int) : Int × fx_H → Option ((Int × fx_H) ⊕ (Int × fx_H)) := fun (t_35, h36) =>
  (f_X6_things Fu Λ this_37 h36).bind fun v40 =>
  if t_35 < v40 then
    (f_X6_depth Fu Λ this_37 t_35 h36).bind fun v43 =>
    Option.bind (fx_loop (s_X6_layLine_3 Fu Λ this_37 line_38 h36) Fu (t_35, v43)) fun (is_59, d_60) =>
    (fx_wr Λ h36 (fx_tg Λ this_37 7) t_35 is_59).bind fun h63 =>
    some (.inl ((fx_w (t_35 + 1)), h63))
  else
    some (.inr (t_35, h36))
def f_X6_layLine (Fu : Nat) (Λ : fx_L) (this_0 : Int) (line_0 : Int) (free_0 : Int) (h : fx_H) : Option (fx_H) :=
  Option.bind (fx_loop (s_X6_layLine_1 Fu Λ this_0 free_0) Fu (0, h)) fun (t_31, h32) =>
  Option.bind (fx_loop (s_X6_layLine_2 Fu Λ this_0 line_0) Fu (0, h32)) fun (t_93, h94) =>
  some h94
abbrev rm_X6_layLine : Room := { frames := 1, cells := 0, slots := 0, locals := 23 }
set_option maxRecDepth 100000 in
set_option maxHeartbeats 4000000 in
theorem m_X6_layLine (Fu : Nat) (Λ : fx_L) (this_0 : Int) (line_0 : Int) (free_0 : Int) (h : fx_H) (ho : fx_H) (hf : f_X6_layLine Fu Λ this_0 line_0 free_0 h = some ho) : fx_Met yX6_layLine cX6_layLine 6 none rm_X6_layLine Λ [(8, this_0), (0, line_0), (0, free_0)] h none ho := by
  unfold f_X6_layLine at hf
  refine fx_enter (ls := [some (8, this_0), some (0, line_0), some (0, free_0), none, none, none]) (by decide) (Nat.le_of_ble_eq_true rfl) rfl (fun M G F K => ?_)
  refine fx_iconst (pc := 0) F ⟨by decide, by decide⟩ dX6_layLine_0 ?_
  refine fx_istore_n (pc := 1) (ls' := [some (8, this_0), some (0, line_0), some (0, free_0), some (0, 0), none, none]) F 3 rfl (by decide) rfl rfl dX6_layLine_1 ?_
  obtain ⟨⟨t_31, h32⟩, e33, hf⟩ := fx_bnd hf
  have hE34 : fx_J M G Λ 6 39 [some (8, this_0), some (0, line_0), some (0, free_0), some (0, t_31), none, none] [] h32 := by
    refine fx_iconst (pc := 39) F ⟨by decide, by decide⟩ dX6_layLine_39 ?_
    refine fx_istore_n (pc := 40) (ls' := [some (8, this_0), some (0, line_0), some (0, free_0), some (0, 0), none, none]) F 3 rfl (by decide) rfl rfl dX6_layLine_40 ?_
    obtain ⟨⟨t_93, h94⟩, e95, hf⟩ := fx_bnd hf
    have hE96 : fx_J M G Λ 6 94 [some (8, this_0), some (0, line_0), some (0, free_0), some (0, t_93), none, none] [] h94 := by
      cases hf
      exact fx_vreturn (pc := 94) F K dX6_layLine_94
    refine fx_loop_J (Hd := (fun z : Int × fx_H => fx_J M G Λ 6 41 [some (8, this_0), some (0, line_0), some (0, free_0), some (0, z.1), none, none] [] z.2)) (Ex := (fun z : Int × fx_H => fx_J M G Λ 6 94 [some (8, this_0), some (0, line_0), some (0, free_0), some (0, z.1), none, none] [] z.2)) ?_ Fu _ _ e95 hE96
    rintro ⟨t_65, h66⟩ o9 eq67 ih ex
    unfold s_X6_layLine_2 at eq67
    show fx_J M G Λ 6 41 [some (8, this_0), some (0, line_0), some (0, free_0), some (0, t_65), none, none] [] h66
    refine fx_iload_n (pc := 41) F 3 rfl rfl dX6_layLine_41 ?_
    refine fx_aload_n (pc := 42) (t := 6) F 0 rfl rfl dX6_layLine_42 ?_
    obtain ⟨v68, e69, eq67⟩ := fx_bnd eq67
    refine fx_cV (pc := 43) F 6 kC_X6 [] this_0 [(0, t_65)] (m_X6_things Fu Λ this_0 h66 _ e69) kD_X6_things kI_X6_things rfl wM_X6_70 ⟨rfl, rfl⟩ ⟨by decide, by decide⟩ (Nat.le_of_ble_eq_true rfl) rfl dX6_layLine_43 ?_
    refine fx_nlt (pc := 46) F 94 (by decide) dX6_layLine_46 (fun c70 => ?_) (fun c70 => ?_)
    · have eq67 := (if_pos c70).symm.trans eq67
      refine fx_iload_n (pc := 49) F 3 rfl rfl dX6_layLine_49 ?_
      refine fx_istore (pc := 50) (ls' := [some (8, this_0), some (0, line_0), some (0, free_0), some (0, t_65), some (0, t_65), none]) F (by decide) rfl rfl dX6_layLine_50 ?_
      refine fx_aload_n (pc := 52) (t := 6) F 0 rfl rfl dX6_layLine_52 ?_
      refine fx_iload_n (pc := 53) F 3 rfl rfl dX6_layLine_53 ?_
      obtain ⟨v71, e72, eq67⟩ := fx_bnd eq67
      refine fx_cV (pc := 54) F 6 kC_X6 [(0, t_65)] this_0 [] (m_X6_depth Fu Λ this_0 t_65 h66 _ e72) kD_X6_depth kI_X6_depth rfl wM_X6_112 ⟨rfl, rfl⟩ ⟨by decide, by decide⟩ (Nat.le_of_ble_eq_true rfl) rfl dX6_layLine_54 ?_
      refine fx_istore (pc := 57) (ls' := [some (8, this_0), some (0, line_0), some (0, free_0), some (0, t_65), some (0, t_65), some (0, v71)]) F (by decide) rfl rfl dX6_layLine_57 ?_
      obtain ⟨⟨is_87, d_88⟩, e89, eq67⟩ := fx_bnd eq67
      have hE90 : fx_J M G Λ 6 80 [some (8, this_0), some (0, line_0), some (0, free_0), some (0, t_65), some (0, is_87), some (0, d_88)] [] h66 := by
        refine fx_aload_n (pc := 80) (t := 6) F 0 rfl rfl dX6_layLine_80 ?_
        refine fx_gR (pc := 81) F 6 7 7 8 rfl kC_X6 (by decide) rfl wF_X6_30 dX6_layLine_81 ?_
        refine fx_iload_n (pc := 84) F 3 rfl rfl dX6_layLine_84 ?_
        refine fx_iload (pc := 85) F rfl dX6_layLine_85 ?_
        obtain ⟨h91, e92, eq67⟩ := fx_bnd eq67
        refine fx_rastI (pc := 87) F e92 dX6_layLine_87 ?_
        refine fx_iinc (pc := 88) (ls' := [some (8, this_0), some (0, line_0), some (0, free_0), some (0, (fx_w (t_65 + 1))), some (0, is_87), some (0, d_88)]) F (by decide) rfl rfl rfl dX6_layLine_88 ?_
        refine fx_goto (pc := 91) F 41 (by decide) dX6_layLine_91 ?_
        cases eq67
        refine fx_drop (ls' := [some (8, this_0), some (0, line_0), some (0, free_0), some (0, (fx_w (t_65 + 1))), none, none]) ⟨rfl, rfl, rfl, rfl, trivial⟩ ?_
        exact ih _ rfl
      refine fx_loop_J (Hd := (fun z : Int × Int => fx_J M G Λ 6 59 [some (8, this_0), some (0, line_0), some (0, free_0), some (0, t_65), some (0, z.1), some (0, z.2)] [] h66)) (Ex := (fun z : Int × Int => fx_J M G Λ 6 80 [some (8, this_0), some (0, line_0), some (0, free_0), some (0, t_65), some (0, z.1), some (0, z.2)] [] h66)) ?_ Fu _ _ e89 hE90
      rintro ⟨is_81, d_82⟩ o9 eq83 ih ex
      unfold s_X6_layLine_3 at eq83
      show fx_J M G Λ 6 59 [some (8, this_0), some (0, line_0), some (0, free_0), some (0, t_65), some (0, is_81), some (0, d_82)] [] h66
      refine fx_iload (pc := 59) F rfl dX6_layLine_59 ?_
      refine fx_iload_n (pc := 61) F 1 rfl rfl dX6_layLine_61 ?_
      refine fx_ngt (pc := 62) F 80 (by decide) dX6_layLine_62 (fun c84 => ?_) (fun c84 => ?_)
      · have eq83 := (if_pos c84).symm.trans eq83
        refine fx_aload_n (pc := 65) (t := 6) F 0 rfl rfl dX6_layLine_65 ?_
        refine fx_gR (pc := 66) F 6 6 6 8 rfl kC_X6 (by decide) rfl wF_X6_27 dX6_layLine_66 ?_
        refine fx_iload (pc := 69) F rfl dX6_layLine_69 ?_
        obtain ⟨v85, e86, eq83⟩ := fx_bnd eq83
        refine fx_raldI (pc := 71) F e86 dX6_layLine_71 ?_
        refine fx_istore (pc := 72) (ls' := [some (8, this_0), some (0, line_0), some (0, free_0), some (0, t_65), some (0, v85), some (0, d_82)]) F (by decide) rfl rfl dX6_layLine_72 ?_
        refine fx_iinc (pc := 74) (ls' := [some (8, this_0), some (0, line_0), some (0, free_0), some (0, t_65), some (0, v85), some (0, (fx_w (d_82 + (-1))))]) F (by decide) rfl rfl rfl dX6_layLine_74 ?_
        refine fx_goto (pc := 77) F 59 (by decide) dX6_layLine_77 ?_
        cases eq83
        exact ih _ rfl
      · have eq83 := (if_neg c84).symm.trans eq83
        cases eq83
        exact ex _ rfl
    · have eq67 := (if_neg c70).symm.trans eq67
      cases eq67
      exact ex _ rfl
  refine fx_loop_J (Hd := (fun z : Int × fx_H => fx_J M G Λ 6 2 [some (8, this_0), some (0, line_0), some (0, free_0), some (0, z.1), none, none] [] z.2)) (Ex := (fun z : Int × fx_H => fx_J M G Λ 6 39 [some (8, this_0), some (0, line_0), some (0, free_0), some (0, z.1), none, none] [] z.2)) ?_ Fu _ _ e33 hE34
  rintro ⟨t_17, h18⟩ o9 eq19 ih ex
  unfold s_X6_layLine_1 at eq19
  show fx_J M G Λ 6 2 [some (8, this_0), some (0, line_0), some (0, free_0), some (0, t_17), none, none] [] h18
  refine fx_iload_n (pc := 2) F 3 rfl rfl dX6_layLine_2 ?_
  refine fx_aload_n (pc := 3) (t := 6) F 0 rfl rfl dX6_layLine_3 ?_
  obtain ⟨v20, e21, eq19⟩ := fx_bnd eq19
  refine fx_cV (pc := 4) F 6 kC_X6 [] this_0 [(0, t_17)] (m_X6_things Fu Λ this_0 h18 _ e21) kD_X6_things kI_X6_things rfl wM_X6_70 ⟨rfl, rfl⟩ ⟨by decide, by decide⟩ (Nat.le_of_ble_eq_true rfl) rfl dX6_layLine_4 ?_
  refine fx_nlt (pc := 7) F 39 (by decide) dX6_layLine_7 (fun c22 => ?_) (fun c22 => ?_)
  · have eq19 := (if_pos c22).symm.trans eq19
    refine fx_aload_n (pc := 10) (t := 6) F 0 rfl rfl dX6_layLine_10 ?_
    refine fx_gR (pc := 11) F 6 6 6 8 rfl kC_X6 (by decide) rfl wF_X6_27 dX6_layLine_11 ?_
    refine fx_iload_n (pc := 14) F 3 rfl rfl dX6_layLine_14 ?_
    obtain ⟨v23, e24, eq19⟩ := fx_bnd eq19
    have hJ25 : fx_J M G Λ 6 32 [some (8, this_0), some (0, line_0), some (0, free_0), some (0, t_17), none, none] [(0, v23), (0, t_17), (10, (fx_tg Λ this_0 6))] h18 := by
      obtain ⟨h29, e30, eq19⟩ := fx_bnd eq19
      refine fx_rastI (pc := 32) F e30 dX6_layLine_32 ?_
      refine fx_iinc (pc := 33) (ls' := [some (8, this_0), some (0, line_0), some (0, free_0), some (0, (fx_w (t_17 + 1))), none, none]) F (by decide) rfl rfl rfl dX6_layLine_33 ?_
      refine fx_goto (pc := 36) F 2 (by decide) dX6_layLine_36 ?_
      cases eq19
      exact ih _ rfl
    refine fx_iload_n (pc := 15) F 3 rfl rfl dX6_layLine_15 ?_
    refine fx_iload_n (pc := 16) F 2 rfl rfl dX6_layLine_16 ?_
    refine fx_neq (pc := 17) F 24 (by decide) dX6_layLine_17 (fun c26 => ?_) (fun c26 => ?_)
    · have e24 := (if_pos c26).symm.trans e24
      refine fx_iconst (pc := 20) F ⟨by decide, by decide⟩ dX6_layLine_20 ?_
      cases e24
      refine fx_goto (pc := 21) F 32 (by decide) dX6_layLine_21 ?_
      exact hJ25
    · have e24 := (if_neg c26).symm.trans e24
      refine fx_aload_n (pc := 24) (t := 6) F 0 rfl rfl dX6_layLine_24 ?_
      refine fx_gR (pc := 25) F 6 0 0 8 rfl kC_X6 (by decide) rfl wF_X6_7 dX6_layLine_25 ?_
      refine fx_iconst (pc := 28) F ⟨by decide, by decide⟩ dX6_layLine_28 ?_
      refine fx_iload_n (pc := 29) F 3 rfl rfl dX6_layLine_29 ?_
      refine fx_iadd (pc := 30) F dX6_layLine_30 ?_
      obtain ⟨v27, e28, e24⟩ := fx_bnd e24
      refine fx_raldI (pc := 31) F e28 dX6_layLine_31 ?_
      cases e24
      exact hJ25
  · have eq19 := (if_neg c22).symm.trans eq19
    cases eq19
    exact ex _ rfl
def f_X6_layNow (Fu : Nat) (Λ : fx_L) (this_0 : Int) (h : fx_H) : Option (fx_H) :=
  (fx_rd Λ h (fx_tg Λ this_0 0) 12).bind fun v1 =>
  (f_X6_layLine Fu Λ this_0 v1 (-1) h).bind fun h3 =>
  some h3
abbrev rm_X6_layNow : Room := { frames := 2, cells := 0, slots := 0, locals := 48 }
set_option maxRecDepth 100000 in
set_option maxHeartbeats 4000000 in
theorem m_X6_layNow (Fu : Nat) (Λ : fx_L) (this_0 : Int) (h : fx_H) (ho : fx_H) (hf : f_X6_layNow Fu Λ this_0 h = some ho) : fx_Met yX6_layNow cX6_layNow 1 none rm_X6_layNow Λ [(8, this_0)] h none ho := by
  unfold f_X6_layNow at hf
  refine fx_enter (ls := [some (8, this_0)]) (by decide) (Nat.le_of_ble_eq_true rfl) rfl (fun M G F K => ?_)
  refine fx_aload_n (pc := 0) (t := 6) F 0 rfl rfl dX6_layNow_0 ?_
  refine fx_aload_n (pc := 1) (t := 6) F 0 rfl rfl dX6_layNow_1 ?_
  refine fx_gR (pc := 2) F 6 0 0 8 rfl kC_X6 (by decide) rfl wF_X6_7 dX6_layNow_2 ?_
  refine fx_bipush (pc := 5) F ⟨by decide, by decide⟩ (by decide) dX6_layNow_5 ?_
  obtain ⟨v1, e2, hf⟩ := fx_bnd hf
  refine fx_raldI (pc := 7) F e2 dX6_layNow_7 ?_
  refine fx_iconst (pc := 8) F ⟨by decide, by decide⟩ dX6_layNow_8 ?_
  obtain ⟨h3, e4, hf⟩ := fx_bnd hf
  refine fx_cVv (pc := 9) F 6 kC_X6 [(0, v1), (0, (-1))] this_0 [] (m_X6_layLine Fu Λ this_0 v1 (-1) h _ e4) kD_X6_layLine kI_X6_layLine rfl wM_X6_115 ⟨rfl, rfl⟩ ⟨by decide, by decide⟩ (Nat.le_of_ble_eq_true rfl) rfl dX6_layNow_9 ?_
  cases hf
  exact fx_vreturn (pc := 12) F K dX6_layNow_12
def f_X6_at (Fu : Nat) (Λ : fx_L) (this_0 : Int) (thing_0 : Int) (h : fx_H) : Option (Int × fx_H) :=
  (f_X6_isThing Fu Λ this_0 thing_0 h).bind fun v1 =>
  if v1 = 0 then
    (f_X6_bad Fu Λ this_0 (-2) h).bind fun (v4, h5) =>
    some (v4, h5)
  else
    (f_X6_layNow Fu Λ this_0 h).bind fun h7 =>
    (fx_rd Λ h7 (fx_tg Λ this_0 7) thing_0).bind fun v9 =>
    some (v9, h7)
abbrev rm_X6_at : Room := { frames := 3, cells := 0, slots := 0, locals := 68 }
set_option maxRecDepth 100000 in
set_option maxHeartbeats 4000000 in
theorem m_X6_at (Fu : Nat) (Λ : fx_L) (this_0 : Int) (thing_0 : Int) (h : fx_H) (r : Int) (ho : fx_H) (hf : f_X6_at Fu Λ this_0 thing_0 h = some (r, ho)) : fx_Met yX6_at cX6_at 2 (some .int) rm_X6_at Λ [(8, this_0), (0, thing_0)] h (some (0, r)) ho := by
  unfold f_X6_at at hf
  refine fx_enter (ls := [some (8, this_0), some (0, thing_0)]) (by decide) (Nat.le_of_ble_eq_true rfl) rfl (fun M G F K => ?_)
  refine fx_aload_n (pc := 0) (t := 6) F 0 rfl rfl dX6_at_0 ?_
  refine fx_iload_n (pc := 1) F 1 rfl rfl dX6_at_1 ?_
  obtain ⟨v1, e2, hf⟩ := fx_bnd hf
  refine fx_cV (pc := 2) F 6 kC_X6 [(0, thing_0)] this_0 [] (m_X6_isThing Fu Λ this_0 thing_0 h _ e2) kD_X6_isThing kI_X6_isThing rfl wM_X6_84 ⟨rfl, rfl⟩ ⟨by decide, by decide⟩ (Nat.le_of_ble_eq_true rfl) rfl dX6_at_2 ?_
  refine fx_nzeq (pc := 5) F 15 (by decide) dX6_at_5 (fun c3 => ?_) (fun c3 => ?_)
  · have hf := (if_pos c3).symm.trans hf
    refine fx_aload_n (pc := 8) (t := 6) F 0 rfl rfl dX6_at_8 ?_
    refine fx_bipush (pc := 9) F ⟨by decide, by decide⟩ (by decide) dX6_at_9 ?_
    obtain ⟨⟨v4, h5⟩, e6, hf⟩ := fx_bnd hf
    refine fx_cV (pc := 11) F 6 kC_X6 [(0, (-2))] this_0 [] (m_X6_bad Fu Λ this_0 (-2) h _ _ e6) kD_X6_bad kI_X6_bad rfl wM_X6_88 ⟨rfl, rfl⟩ ⟨by decide, by decide⟩ (Nat.le_of_ble_eq_true rfl) rfl dX6_at_11 ?_
    cases hf
    exact fx_ireturn (pc := 14) F K dX6_at_14
  · have hf := (if_neg c3).symm.trans hf
    refine fx_aload_n (pc := 15) (t := 6) F 0 rfl rfl dX6_at_15 ?_
    obtain ⟨h7, e8, hf⟩ := fx_bnd hf
    refine fx_cVv (pc := 16) F 6 kC_X6 [] this_0 [] (m_X6_layNow Fu Λ this_0 h _ e8) kD_X6_layNow kI_X6_layNow rfl wM_X6_119 ⟨rfl, rfl⟩ ⟨by decide, by decide⟩ (Nat.le_of_ble_eq_true rfl) rfl dX6_at_16 ?_
    refine fx_aload_n (pc := 19) (t := 6) F 0 rfl rfl dX6_at_19 ?_
    refine fx_gR (pc := 20) F 6 7 7 8 rfl kC_X6 (by decide) rfl wF_X6_30 dX6_at_20 ?_
    refine fx_iload_n (pc := 23) F 1 rfl rfl dX6_at_23 ?_
    obtain ⟨v9, e10, hf⟩ := fx_bnd hf
    refine fx_raldI (pc := 24) F e10 dX6_at_24 ?_
    cases hf
    exact fx_ireturn (pc := 25) F K dX6_at_25
def s_X6_takeDone_1 (Fu : Nat) (Λ : fx_L) (this_3 : Int) : Int × fx_H → Option ((Int × fx_H) ⊕ (Int × fx_H)) := fun (k_1, h2) =>
  if k_1 < 25 then
    (fx_rd Λ h2 (fx_tg Λ this_3 0) (fx_w (19 + k_1))).bind fun v6 =>
    (fx_wr Λ h2 (fx_tg Λ this_3 8) k_1 v6).bind fun h8 =>
    some (.inl ((fx_w (k_1 + 1)), h8))
  else
    some (.inr (k_1, h2))
def f_X6_takeDone (Fu : Nat) (Λ : fx_L) (this_0 : Int) (h : fx_H) : Option (fx_H) :=
  Option.bind (fx_loop (s_X6_takeDone_1 Fu Λ this_0) Fu (0, h)) fun (k_18, h19) =>
  some h19
abbrev rm_X6_takeDone : Room := { frames := 0, cells := 0, slots := 0, locals := 0 }
set_option maxRecDepth 100000 in
set_option maxHeartbeats 4000000 in
theorem m_X6_takeDone (Fu : Nat) (Λ : fx_L) (this_0 : Int) (h : fx_H) (ho : fx_H) (hf : f_X6_takeDone Fu Λ this_0 h = some ho) : fx_Met yX6_takeDone cX6_takeDone 2 none rm_X6_takeDone Λ [(8, this_0)] h none ho := by
  unfold f_X6_takeDone at hf
  refine fx_enter (ls := [some (8, this_0), none]) (by decide) (Nat.le_of_ble_eq_true rfl) rfl (fun M G F K => ?_)
  refine fx_iconst (pc := 0) F ⟨by decide, by decide⟩ dX6_takeDone_0 ?_
  refine fx_istore_n (pc := 1) (ls' := [some (8, this_0), some (0, 0)]) F 1 rfl (by decide) rfl rfl dX6_takeDone_1 ?_
  obtain ⟨⟨k_18, h19⟩, e20, hf⟩ := fx_bnd hf
  have hE21 : fx_J M G Λ 2 29 [some (8, this_0), some (0, k_18)] [] h19 := by
    cases hf
    exact fx_vreturn (pc := 29) F K dX6_takeDone_29
  refine fx_loop_J (Hd := (fun z : Int × fx_H => fx_J M G Λ 2 2 [some (8, this_0), some (0, z.1)] [] z.2)) (Ex := (fun z : Int × fx_H => fx_J M G Λ 2 29 [some (8, this_0), some (0, z.1)] [] z.2)) ?_ Fu _ _ e20 hE21
  rintro ⟨k_10, h11⟩ o9 eq12 ih ex
  unfold s_X6_takeDone_1 at eq12
  show fx_J M G Λ 2 2 [some (8, this_0), some (0, k_10)] [] h11
  refine fx_iload_n (pc := 2) F 1 rfl rfl dX6_takeDone_2 ?_
  refine fx_bipush (pc := 3) F ⟨by decide, by decide⟩ (by decide) dX6_takeDone_3 ?_
  refine fx_nlt (pc := 5) F 29 (by decide) dX6_takeDone_5 (fun c13 => ?_) (fun c13 => ?_)
  · have eq12 := (if_pos c13).symm.trans eq12
    refine fx_aload_n (pc := 8) (t := 6) F 0 rfl rfl dX6_takeDone_8 ?_
    refine fx_gR (pc := 9) F 6 8 8 8 rfl kC_X6 (by decide) rfl wF_X6_33 dX6_takeDone_9 ?_
    refine fx_iload_n (pc := 12) F 1 rfl rfl dX6_takeDone_12 ?_
    refine fx_aload_n (pc := 13) (t := 6) F 0 rfl rfl dX6_takeDone_13 ?_
    refine fx_gR (pc := 14) F 6 0 0 8 rfl kC_X6 (by decide) rfl wF_X6_7 dX6_takeDone_14 ?_
    refine fx_bipush (pc := 17) F ⟨by decide, by decide⟩ (by decide) dX6_takeDone_17 ?_
    refine fx_iload_n (pc := 19) F 1 rfl rfl dX6_takeDone_19 ?_
    refine fx_iadd (pc := 20) F dX6_takeDone_20 ?_
    obtain ⟨v14, e15, eq12⟩ := fx_bnd eq12
    refine fx_raldI (pc := 21) F e15 dX6_takeDone_21 ?_
    obtain ⟨h16, e17, eq12⟩ := fx_bnd eq12
    refine fx_rastI (pc := 22) F e17 dX6_takeDone_22 ?_
    refine fx_iinc (pc := 23) (ls' := [some (8, this_0), some (0, (fx_w (k_10 + 1)))]) F (by decide) rfl rfl rfl dX6_takeDone_23 ?_
    refine fx_goto (pc := 26) F 2 (by decide) dX6_takeDone_26 ?_
    cases eq12
    exact ih _ rfl
  · have eq12 := (if_neg c13).symm.trans eq12
    cases eq12
    exact ex _ rfl
def s_X6_takeNothing_1 (Fu : Nat) (Λ : fx_L) (this_3 : Int) : Int × fx_H → Option ((Int × fx_H) ⊕ (Int × fx_H)) := fun (k_1, h2) =>
  if k_1 < 25 then
    (fx_wr Λ h2 (fx_tg Λ this_3 8) k_1 (-1)).bind fun h6 =>
    some (.inl ((fx_w (k_1 + 1)), h6))
  else
    some (.inr (k_1, h2))
def f_X6_takeNothing (Fu : Nat) (Λ : fx_L) (this_0 : Int) (h : fx_H) : Option (fx_H) :=
  Option.bind (fx_loop (s_X6_takeNothing_1 Fu Λ this_0) Fu (0, h)) fun (k_14, h15) =>
  some h15
abbrev rm_X6_takeNothing : Room := { frames := 0, cells := 0, slots := 0, locals := 0 }
set_option maxRecDepth 100000 in
set_option maxHeartbeats 4000000 in
theorem m_X6_takeNothing (Fu : Nat) (Λ : fx_L) (this_0 : Int) (h : fx_H) (ho : fx_H) (hf : f_X6_takeNothing Fu Λ this_0 h = some ho) : fx_Met yX6_takeNothing cX6_takeNothing 2 none rm_X6_takeNothing Λ [(8, this_0)] h none ho := by
  unfold f_X6_takeNothing at hf
  refine fx_enter (ls := [some (8, this_0), none]) (by decide) (Nat.le_of_ble_eq_true rfl) rfl (fun M G F K => ?_)
  refine fx_iconst (pc := 0) F ⟨by decide, by decide⟩ dX6_takeNothing_0 ?_
  refine fx_istore_n (pc := 1) (ls' := [some (8, this_0), some (0, 0)]) F 1 rfl (by decide) rfl rfl dX6_takeNothing_1 ?_
  obtain ⟨⟨k_14, h15⟩, e16, hf⟩ := fx_bnd hf
  have hE17 : fx_J M G Λ 2 21 [some (8, this_0), some (0, k_14)] [] h15 := by
    cases hf
    exact fx_vreturn (pc := 21) F K dX6_takeNothing_21
  refine fx_loop_J (Hd := (fun z : Int × fx_H => fx_J M G Λ 2 2 [some (8, this_0), some (0, z.1)] [] z.2)) (Ex := (fun z : Int × fx_H => fx_J M G Λ 2 21 [some (8, this_0), some (0, z.1)] [] z.2)) ?_ Fu _ _ e16 hE17
  rintro ⟨k_8, h9⟩ o9 eq10 ih ex
  unfold s_X6_takeNothing_1 at eq10
  show fx_J M G Λ 2 2 [some (8, this_0), some (0, k_8)] [] h9
  refine fx_iload_n (pc := 2) F 1 rfl rfl dX6_takeNothing_2 ?_
  refine fx_bipush (pc := 3) F ⟨by decide, by decide⟩ (by decide) dX6_takeNothing_3 ?_
  refine fx_nlt (pc := 5) F 21 (by decide) dX6_takeNothing_5 (fun c11 => ?_) (fun c11 => ?_)
  · have eq10 := (if_pos c11).symm.trans eq10
    refine fx_aload_n (pc := 8) (t := 6) F 0 rfl rfl dX6_takeNothing_8 ?_
    refine fx_gR (pc := 9) F 6 8 8 8 rfl kC_X6 (by decide) rfl wF_X6_33 dX6_takeNothing_9 ?_
    refine fx_iload_n (pc := 12) F 1 rfl rfl dX6_takeNothing_12 ?_
    refine fx_iconst (pc := 13) F ⟨by decide, by decide⟩ dX6_takeNothing_13 ?_
    obtain ⟨h12, e13, eq10⟩ := fx_bnd eq10
    refine fx_rastI (pc := 14) F e13 dX6_takeNothing_14 ?_
    refine fx_iinc (pc := 15) (ls' := [some (8, this_0), some (0, (fx_w (k_8 + 1)))]) F (by decide) rfl rfl rfl dX6_takeNothing_15 ?_
    refine fx_goto (pc := 18) F 2 (by decide) dX6_takeNothing_18 ?_
    cases eq10
    exact ih _ rfl
  · have eq10 := (if_neg c11).symm.trans eq10
    cases eq10
    exact ex _ rfl
def f_X6_doing (Fu : Nat) (Λ : fx_L) (this_0 : Int) (p_0 : Int) (h_0 : Int) (h : fx_H) : Option (Int) :=
  (fx_rd Λ h (fx_tg Λ this_0 8) (fx_w ((fx_w (5 * p_0)) + h_0))).bind fun v1 =>
  some v1
abbrev rm_X6_doing : Room := { frames := 0, cells := 0, slots := 0, locals := 0 }
set_option maxRecDepth 100000 in
set_option maxHeartbeats 4000000 in
theorem m_X6_doing (Fu : Nat) (Λ : fx_L) (this_0 : Int) (p_0 : Int) (h_0 : Int) (h : fx_H) (r : Int) (hf : f_X6_doing Fu Λ this_0 p_0 h_0 h = some r) : fx_Met yX6_doing cX6_doing 3 (some .int) rm_X6_doing Λ [(8, this_0), (0, p_0), (0, h_0)] h (some (0, r)) h := by
  unfold f_X6_doing at hf
  refine fx_enter (ls := [some (8, this_0), some (0, p_0), some (0, h_0)]) (by decide) (Nat.le_of_ble_eq_true rfl) rfl (fun M G F K => ?_)
  refine fx_aload_n (pc := 0) (t := 6) F 0 rfl rfl dX6_doing_0 ?_
  refine fx_gR (pc := 1) F 6 8 8 8 rfl kC_X6 (by decide) rfl wF_X6_33 dX6_doing_1 ?_
  refine fx_iconst (pc := 4) F ⟨by decide, by decide⟩ dX6_doing_4 ?_
  refine fx_iload_n (pc := 5) F 1 rfl rfl dX6_doing_5 ?_
  refine fx_imul (pc := 6) F dX6_doing_6 ?_
  refine fx_iload_n (pc := 7) F 2 rfl rfl dX6_doing_7 ?_
  refine fx_iadd (pc := 8) F dX6_doing_8 ?_
  obtain ⟨v1, e2, hf⟩ := fx_bnd hf
  refine fx_raldI (pc := 9) F e2 dX6_doing_9 ?_
  cases hf
  exact fx_ireturn (pc := 10) F K dX6_doing_10
def f_X6_isWith (Fu : Nat) (Λ : fx_L) (this_0 : Int) (q_0 : Int) (p_0 : Int) (h_0 : Int) (idle_0 : Int) (h : fx_H) : Option (Int) :=
  (f_X6_doing Fu Λ this_0 p_0 h_0 h).bind fun v1 =>
  (f_X6_doing Fu Λ this_0 q_0 h_0 h).bind fun v3 =>
  Option.bind (
    Option.bind (
      if ¬ v3 = (-1) then
        (fx_rd Λ h (fx_tg Λ this_0 7) v1).bind fun v13 =>
        (fx_rd Λ h (fx_tg Λ this_0 7) v3).bind fun v15 =>
        if v13 = v15 then
          if ¬ idle_0 = 0 then
            if v3 = 0 then
              some false
            else
              some true
          else
            some true
        else
          some false
      else
        some false
    ) fun b8 =>
    if b8 = true then
      some 1
    else
      some 0
  ) fun v5 =>
  (fx_zb v5).bind fun z21 =>
  some z21
abbrev rm_X6_isWith : Room := { frames := 1, cells := 0, slots := 0, locals := 22 }
set_option maxRecDepth 100000 in
set_option maxHeartbeats 4000000 in
theorem m_X6_isWith (Fu : Nat) (Λ : fx_L) (this_0 : Int) (q_0 : Int) (p_0 : Int) (h_0 : Int) (idle_0 : Int) (h : fx_H) (r : Int) (hf : f_X6_isWith Fu Λ this_0 q_0 p_0 h_0 idle_0 h = some r) : fx_Met yX6_isWith cX6_isWith 7 (some .boolean) rm_X6_isWith Λ [(8, this_0), (0, q_0), (0, p_0), (0, h_0), (0, idle_0)] h (some (0, r)) h := by
  unfold f_X6_isWith at hf
  refine fx_enter (ls := [some (8, this_0), some (0, q_0), some (0, p_0), some (0, h_0), some (0, idle_0), none, none]) (by decide) (Nat.le_of_ble_eq_true rfl) rfl (fun M G F K => ?_)
  refine fx_aload_n (pc := 0) (t := 6) F 0 rfl rfl dX6_isWith_0 ?_
  refine fx_iload_n (pc := 1) F 2 rfl rfl dX6_isWith_1 ?_
  refine fx_iload_n (pc := 2) F 3 rfl rfl dX6_isWith_2 ?_
  obtain ⟨v1, e2, hf⟩ := fx_bnd hf
  refine fx_cV (pc := 3) F 6 kC_X6 [(0, p_0), (0, h_0)] this_0 [] (m_X6_doing Fu Λ this_0 p_0 h_0 h _ e2) kD_X6_doing kI_X6_doing rfl wM_X6_122 ⟨rfl, rfl⟩ ⟨by decide, by decide⟩ (Nat.le_of_ble_eq_true rfl) rfl dX6_isWith_3 ?_
  refine fx_istore (pc := 6) (ls' := [some (8, this_0), some (0, q_0), some (0, p_0), some (0, h_0), some (0, idle_0), some (0, v1), none]) F (by decide) rfl rfl dX6_isWith_6 ?_
  refine fx_aload_n (pc := 8) (t := 6) F 0 rfl rfl dX6_isWith_8 ?_
  refine fx_iload_n (pc := 9) F 1 rfl rfl dX6_isWith_9 ?_
  refine fx_iload_n (pc := 10) F 3 rfl rfl dX6_isWith_10 ?_
  obtain ⟨v3, e4, hf⟩ := fx_bnd hf
  refine fx_cV (pc := 11) F 6 kC_X6 [(0, q_0), (0, h_0)] this_0 [] (m_X6_doing Fu Λ this_0 q_0 h_0 h _ e4) kD_X6_doing kI_X6_doing rfl wM_X6_122 ⟨rfl, rfl⟩ ⟨by decide, by decide⟩ (Nat.le_of_ble_eq_true rfl) rfl dX6_isWith_11 ?_
  refine fx_istore (pc := 14) (ls' := [some (8, this_0), some (0, q_0), some (0, p_0), some (0, h_0), some (0, idle_0), some (0, v1), some (0, v3)]) F (by decide) rfl rfl dX6_isWith_14 ?_
  obtain ⟨v5, e6, hf⟩ := fx_bnd hf
  have hJ7 : fx_J M G Λ 7 54 [some (8, this_0), some (0, q_0), some (0, p_0), some (0, h_0), some (0, idle_0), some (0, v1), some (0, v3)] [(0, v5)] h := by
    obtain ⟨z21, e22, hf⟩ := fx_bnd hf
    obtain ⟨e22, hzz21⟩ := fx_zb_use e22
    refine fx_top (X := fx_X) e22 ?_
    cases hf
    exact fx_zreturn (pc := 54) F hzz21 K dX6_isWith_54
  obtain ⟨b8, e9, e6⟩ := fx_bnd e6
  have hT10 : b8 = true → fx_J M G Λ 7 49 [some (8, this_0), some (0, q_0), some (0, p_0), some (0, h_0), some (0, idle_0), some (0, v1), some (0, v3)] [] h := fun c20 => by
    have e6 := (if_pos c20).symm.trans e6
    refine fx_iconst (pc := 49) F ⟨by decide, by decide⟩ dX6_isWith_49 ?_
    cases e6
    refine fx_goto (pc := 50) F 54 (by decide) dX6_isWith_50 ?_
    exact hJ7
  have hF11 : ¬ b8 = true → fx_J M G Λ 7 53 [some (8, this_0), some (0, q_0), some (0, p_0), some (0, h_0), some (0, idle_0), some (0, v1), some (0, v3)] [] h := fun c20 => by
    have e6 := (if_neg c20).symm.trans e6
    refine fx_iconst (pc := 53) F ⟨by decide, by decide⟩ dX6_isWith_53 ?_
    cases e6
    exact hJ7
  refine fx_iload (pc := 16) F rfl dX6_isWith_16 ?_
  refine fx_iconst (pc := 18) F ⟨by decide, by decide⟩ dX6_isWith_18 ?_
  refine fx_nne (pc := 19) F 53 (by decide) dX6_isWith_19 (fun c12 => ?_) (fun c12 => ?_)
  · have e9 := (if_pos c12).symm.trans e9
    refine fx_aload_n (pc := 22) (t := 6) F 0 rfl rfl dX6_isWith_22 ?_
    refine fx_gR (pc := 23) F 6 7 7 8 rfl kC_X6 (by decide) rfl wF_X6_30 dX6_isWith_23 ?_
    refine fx_iload (pc := 26) F rfl dX6_isWith_26 ?_
    obtain ⟨v13, e14, e9⟩ := fx_bnd e9
    refine fx_raldI (pc := 28) F e14 dX6_isWith_28 ?_
    refine fx_aload_n (pc := 29) (t := 6) F 0 rfl rfl dX6_isWith_29 ?_
    refine fx_gR (pc := 30) F 6 7 7 8 rfl kC_X6 (by decide) rfl wF_X6_30 dX6_isWith_30 ?_
    refine fx_iload (pc := 33) F rfl dX6_isWith_33 ?_
    obtain ⟨v15, e16, e9⟩ := fx_bnd e9
    refine fx_raldI (pc := 35) F e16 dX6_isWith_35 ?_
    refine fx_neq (pc := 36) F 53 (by decide) dX6_isWith_36 (fun c17 => ?_) (fun c17 => ?_)
    · have e9 := (if_pos c17).symm.trans e9
      refine fx_iload (pc := 39) F rfl dX6_isWith_39 ?_
      refine fx_nzne (pc := 41) F 49 (by decide) dX6_isWith_41 (fun c18 => ?_) (fun c18 => ?_)
      · have e9 := (if_pos c18).symm.trans e9
        refine fx_iload (pc := 44) F rfl dX6_isWith_44 ?_
        refine fx_jzeq (pc := 46) F 53 (by decide) dX6_isWith_46 (fun c19 => ?_) (fun c19 => ?_)
        · have e9 := (if_pos c19).symm.trans e9
          cases e9
          exact hF11 (by decide)
        · have e9 := (if_neg c19).symm.trans e9
          cases e9
          exact hT10 (by decide)
      · have e9 := (if_neg c18).symm.trans e9
        cases e9
        exact hT10 (by decide)
    · have e9 := (if_neg c17).symm.trans e9
      cases e9
      exact hF11 (by decide)
  · have e9 := (if_neg c12).symm.trans e9
    cases e9
    exact hF11 (by decide)
def s_X6_wasDone_1 (Fu : Nat) (Λ : fx_L) (this_3 : Int) (p_4 : Int) (h_5 : Int) (h : fx_H) : Int × Int → Option ((Int × Int) ⊕ (Int × Int)) := fun (was_1, q_2) =>
  (f_X6_people Fu Λ this_3 h).bind fun v9 =>
  if ((q_2 < v9) ∧ (0 < h_5)) then
    Option.bind (
      if q_2 = p_4 then
        some (-1)
      else
        (f_X6_doing Fu Λ this_3 q_2 (fx_w (h_5 - 1)) h).bind fun v18 =>
        some v18
    ) fun v14 =>
    Option.bind (
      Option.bind (
        if ¬ was_1 = 0 then
          some true
        else
          if ¬ v14 = (-1) then
            (fx_rd Λ h (fx_tg Λ this_3 7) v14).bind fun v29 =>
            (f_X6_doing Fu Λ this_3 p_4 h_5 h).bind fun v31 =>
            (fx_rd Λ h (fx_tg Λ this_3 7) v31).bind fun v33 =>
            if v29 = v33 then
              some true
            else
              some false
          else
            some false
      ) fun b23 =>
      if b23 = true then
        some 1
      else
        some 0
    ) fun v20 =>
    some (.inl (v20, (fx_w (q_2 + 1))))
  else
    some (.inr (was_1, q_2))
def f_X6_wasDone (Fu : Nat) (Λ : fx_L) (this_0 : Int) (p_0 : Int) (h_0 : Int) (h : fx_H) : Option (Int) :=
  Option.bind (fx_loop (s_X6_wasDone_1 Fu Λ this_0 p_0 h_0 h) Fu (0, 0)) fun (was_70, q_71) =>
  (fx_zb was_70).bind fun z74 =>
  some z74
abbrev rm_X6_wasDone : Room := { frames := 1, cells := 0, slots := 0, locals := 22 }
set_option maxRecDepth 100000 in
set_option maxHeartbeats 4000000 in
theorem m_X6_wasDone (Fu : Nat) (Λ : fx_L) (this_0 : Int) (p_0 : Int) (h_0 : Int) (h : fx_H) (r : Int) (hf : f_X6_wasDone Fu Λ this_0 p_0 h_0 h = some r) : fx_Met yX6_wasDone cX6_wasDone 6 (some .boolean) rm_X6_wasDone Λ [(8, this_0), (0, p_0), (0, h_0)] h (some (0, r)) h := by
  unfold f_X6_wasDone at hf
  refine fx_enter (ls := [some (8, this_0), some (0, p_0), some (0, h_0), none, none, none]) (by decide) (Nat.le_of_ble_eq_true rfl) rfl (fun M G F K => ?_)
  refine fx_iconst (pc := 0) F ⟨by decide, by decide⟩ dX6_wasDone_0 ?_
  refine fx_istore_n (pc := 1) (ls' := [some (8, this_0), some (0, p_0), some (0, h_0), some (0, 0), none, none]) F 3 rfl (by decide) rfl rfl dX6_wasDone_1 ?_
  refine fx_iconst (pc := 2) F ⟨by decide, by decide⟩ dX6_wasDone_2 ?_
  refine fx_istore (pc := 3) (ls' := [some (8, this_0), some (0, p_0), some (0, h_0), some (0, 0), some (0, 0), none]) F (by decide) rfl rfl dX6_wasDone_3 ?_
  obtain ⟨⟨was_70, q_71⟩, e72, hf⟩ := fx_bnd hf
  have hE73 : fx_J M G Λ 6 82 [some (8, this_0), some (0, p_0), some (0, h_0), some (0, was_70), some (0, q_71), none] [] h := by
    refine fx_iload_n (pc := 82) F 3 rfl rfl dX6_wasDone_82 ?_
    obtain ⟨z74, e75, hf⟩ := fx_bnd hf
    obtain ⟨e75, hzz74⟩ := fx_zb_use e75
    refine fx_top (X := fx_X) e75 ?_
    cases hf
    exact fx_zreturn (pc := 83) F hzz74 K dX6_wasDone_83
  refine fx_loop_J (Hd := (fun z : Int × Int => fx_J M G Λ 6 5 [some (8, this_0), some (0, p_0), some (0, h_0), some (0, z.1), some (0, z.2), none] [] h)) (Ex := (fun z : Int × Int => fx_J M G Λ 6 82 [some (8, this_0), some (0, p_0), some (0, h_0), some (0, z.1), some (0, z.2), none] [] h)) ?_ Fu _ _ e72 hE73
  rintro ⟨was_37, q_38⟩ o9 eq39 ih ex
  unfold s_X6_wasDone_1 at eq39
  show fx_J M G Λ 6 5 [some (8, this_0), some (0, p_0), some (0, h_0), some (0, was_37), some (0, q_38), none] [] h
  refine fx_iload (pc := 5) F rfl dX6_wasDone_5 ?_
  refine fx_aload_n (pc := 7) (t := 6) F 0 rfl rfl dX6_wasDone_7 ?_
  obtain ⟨v42, e43, eq39⟩ := fx_bnd eq39
  refine fx_cV (pc := 8) F 6 kC_X6 [] this_0 [(0, q_38)] (m_X6_people Fu Λ this_0 h _ e43) kD_X6_people kI_X6_people rfl wM_X6_78 ⟨rfl, rfl⟩ ⟨by decide, by decide⟩ (Nat.le_of_ble_eq_true rfl) rfl dX6_wasDone_8 ?_
  have hT40 : (((q_38 < v42) ∧ (0 < h_0))) → fx_J M G Λ 6 18 [some (8, this_0), some (0, p_0), some (0, h_0), some (0, was_37), some (0, q_38), none] [] h := fun c46 => by
    have eq39 := (if_pos c46).symm.trans eq39
    obtain ⟨v47, e48, eq39⟩ := fx_bnd eq39
    have hJ49 : fx_J M G Λ 6 37 [some (8, this_0), some (0, p_0), some (0, h_0), some (0, was_37), some (0, q_38), none] [(0, v47)] h := by
      refine fx_istore (pc := 37) (ls' := [some (8, this_0), some (0, p_0), some (0, h_0), some (0, was_37), some (0, q_38), some (0, v47)]) F (by decide) rfl rfl dX6_wasDone_37 ?_
      obtain ⟨v53, e54, eq39⟩ := fx_bnd eq39
      have hJ55 : fx_J M G Λ 6 75 [some (8, this_0), some (0, p_0), some (0, h_0), some (0, was_37), some (0, q_38), some (0, v47)] [(0, v53)] h := by
        refine fx_istore_n (pc := 75) (ls' := [some (8, this_0), some (0, p_0), some (0, h_0), some (0, v53), some (0, q_38), some (0, v47)]) F 3 rfl (by decide) rfl rfl dX6_wasDone_75 ?_
        refine fx_iinc (pc := 76) (ls' := [some (8, this_0), some (0, p_0), some (0, h_0), some (0, v53), some (0, (fx_w (q_38 + 1))), some (0, v47)]) F (by decide) rfl rfl rfl dX6_wasDone_76 ?_
        refine fx_goto (pc := 79) F 5 (by decide) dX6_wasDone_79 ?_
        cases eq39
        refine fx_drop (ls' := [some (8, this_0), some (0, p_0), some (0, h_0), some (0, v53), some (0, (fx_w (q_38 + 1))), none]) ⟨rfl, rfl, rfl, rfl, rfl, trivial⟩ ?_
        exact ih _ rfl
      obtain ⟨b56, e57, e54⟩ := fx_bnd e54
      have hT58 : b56 = true → fx_J M G Λ 6 70 [some (8, this_0), some (0, p_0), some (0, h_0), some (0, was_37), some (0, q_38), some (0, v47)] [] h := fun c69 => by
        have e54 := (if_pos c69).symm.trans e54
        refine fx_iconst (pc := 70) F ⟨by decide, by decide⟩ dX6_wasDone_70 ?_
        cases e54
        refine fx_goto (pc := 71) F 75 (by decide) dX6_wasDone_71 ?_
        exact hJ55
      have hF59 : ¬ b56 = true → fx_J M G Λ 6 74 [some (8, this_0), some (0, p_0), some (0, h_0), some (0, was_37), some (0, q_38), some (0, v47)] [] h := fun c69 => by
        have e54 := (if_neg c69).symm.trans e54
        refine fx_iconst (pc := 74) F ⟨by decide, by decide⟩ dX6_wasDone_74 ?_
        cases e54
        exact hJ55
      refine fx_iload_n (pc := 39) F 3 rfl rfl dX6_wasDone_39 ?_
      refine fx_jzne (pc := 40) F 70 (by decide) dX6_wasDone_40 (fun c60 => ?_) (fun c60 => ?_)
      · have e57 := (if_pos c60).symm.trans e57
        cases e57
        exact hT58 (by decide)
      · have e57 := (if_neg c60).symm.trans e57
        refine fx_iload (pc := 43) F rfl dX6_wasDone_43 ?_
        refine fx_iconst (pc := 45) F ⟨by decide, by decide⟩ dX6_wasDone_45 ?_
        refine fx_nne (pc := 46) F 74 (by decide) dX6_wasDone_46 (fun c61 => ?_) (fun c61 => ?_)
        · have e57 := (if_pos c61).symm.trans e57
          refine fx_aload_n (pc := 49) (t := 6) F 0 rfl rfl dX6_wasDone_49 ?_
          refine fx_gR (pc := 50) F 6 7 7 8 rfl kC_X6 (by decide) rfl wF_X6_30 dX6_wasDone_50 ?_
          refine fx_iload (pc := 53) F rfl dX6_wasDone_53 ?_
          obtain ⟨v62, e63, e57⟩ := fx_bnd e57
          refine fx_raldI (pc := 55) F e63 dX6_wasDone_55 ?_
          refine fx_aload_n (pc := 56) (t := 6) F 0 rfl rfl dX6_wasDone_56 ?_
          refine fx_gR (pc := 57) F 6 7 7 8 rfl kC_X6 (by decide) rfl wF_X6_30 dX6_wasDone_57 ?_
          refine fx_aload_n (pc := 60) (t := 6) F 0 rfl rfl dX6_wasDone_60 ?_
          refine fx_iload_n (pc := 61) F 1 rfl rfl dX6_wasDone_61 ?_
          refine fx_iload_n (pc := 62) F 2 rfl rfl dX6_wasDone_62 ?_
          obtain ⟨v64, e65, e57⟩ := fx_bnd e57
          refine fx_cV (pc := 63) F 6 kC_X6 [(0, p_0), (0, h_0)] this_0 [(10, (fx_tg Λ this_0 7)), (0, v62)] (m_X6_doing Fu Λ this_0 p_0 h_0 h _ e65) kD_X6_doing kI_X6_doing rfl wM_X6_122 ⟨rfl, rfl⟩ ⟨by decide, by decide⟩ (Nat.le_of_ble_eq_true rfl) rfl dX6_wasDone_63 ?_
          obtain ⟨v66, e67, e57⟩ := fx_bnd e57
          refine fx_raldI (pc := 66) F e67 dX6_wasDone_66 ?_
          refine fx_neq (pc := 67) F 74 (by decide) dX6_wasDone_67 (fun c68 => ?_) (fun c68 => ?_)
          · have e57 := (if_pos c68).symm.trans e57
            cases e57
            exact hT58 (by decide)
          · have e57 := (if_neg c68).symm.trans e57
            cases e57
            exact hF59 (by decide)
        · have e57 := (if_neg c61).symm.trans e57
          cases e57
          exact hF59 (by decide)
    refine fx_iload (pc := 18) F rfl dX6_wasDone_18 ?_
    refine fx_iload_n (pc := 20) F 1 rfl rfl dX6_wasDone_20 ?_
    refine fx_neq (pc := 21) F 28 (by decide) dX6_wasDone_21 (fun c50 => ?_) (fun c50 => ?_)
    · have e48 := (if_pos c50).symm.trans e48
      refine fx_iconst (pc := 24) F ⟨by decide, by decide⟩ dX6_wasDone_24 ?_
      cases e48
      refine fx_goto (pc := 25) F 37 (by decide) dX6_wasDone_25 ?_
      exact hJ49
    · have e48 := (if_neg c50).symm.trans e48
      refine fx_aload_n (pc := 28) (t := 6) F 0 rfl rfl dX6_wasDone_28 ?_
      refine fx_iload (pc := 29) F rfl dX6_wasDone_29 ?_
      refine fx_iload_n (pc := 31) F 2 rfl rfl dX6_wasDone_31 ?_
      refine fx_iconst (pc := 32) F ⟨by decide, by decide⟩ dX6_wasDone_32 ?_
      refine fx_isub (pc := 33) F dX6_wasDone_33 ?_
      obtain ⟨v51, e52, e48⟩ := fx_bnd e48
      refine fx_cV (pc := 34) F 6 kC_X6 [(0, q_38), (0, (fx_w (h_0 - 1)))] this_0 [] (m_X6_doing Fu Λ this_0 q_38 (fx_w (h_0 - 1)) h _ e52) kD_X6_doing kI_X6_doing rfl wM_X6_122 ⟨rfl, rfl⟩ ⟨by decide, by decide⟩ (Nat.le_of_ble_eq_true rfl) rfl dX6_wasDone_34 ?_
      cases e48
      exact hJ49
  have hF41 : ¬ (((q_38 < v42) ∧ (0 < h_0))) → fx_J M G Λ 6 82 [some (8, this_0), some (0, p_0), some (0, h_0), some (0, was_37), some (0, q_38), none] [] h := fun c46 => by
    have eq39 := (if_neg c46).symm.trans eq39
    cases eq39
    exact ex _ rfl
  refine fx_nlt (pc := 11) F 82 (by decide) dX6_wasDone_11 (fun c44 => ?_) (fun c44 => ?_)
  · refine fx_iload_n (pc := 14) F 2 rfl rfl dX6_wasDone_14 ?_
    refine fx_nzgt (pc := 15) F 82 (by decide) dX6_wasDone_15 (fun c45 => ?_) (fun c45 => ?_)
    · exact hT40 ⟨c44, c45⟩
    · exact hF41 (fun q => c45 q.2)
  · exact hF41 (fun q => c44 q.1)
def s_X6_paysOf_1 (Fu : Nat) (Λ : fx_L) (this_15 : Int) (p_16 : Int) (h_17 : Int) (kind_18 : Int) (h : fx_H) : Int × Int × Int × Int → Option ((Int × Int × Int × Int) ⊕ (Int × Int × Int × Int)) := fun (g_11, lesser_12, rich_13, q_14) =>
  (f_X6_people Fu Λ this_15 h).bind fun v20 =>
  if q_14 < v20 then
    Option.bind (
      if kind_18 = 4 then
        some 1
      else
        some 0
    ) fun v23 =>
    (f_X6_isWith Fu Λ this_15 q_14 p_16 h_17 v23 h).bind fun v27 =>
    Option.bind (
      if ¬ v27 = 0 then
        some 1
      else
        some 0
    ) fun v29 =>
    Option.bind (
      if ((¬ v27 = 0) ∧ (q_14 < p_16)) then
        some 1
      else
        some 0
    ) fun v33 =>
    Option.bind (
      Option.bind (
        if ¬ rich_13 = 0 then
          some true
        else
          if ¬ v27 = 0 then
            (fx_rd Λ h (fx_tg Λ this_15 0) 13).bind fun v50 =>
            if q_14 = v50 then
              some true
            else
              some false
          else
            some false
      ) fun b44 =>
      if b44 = true then
        some 1
      else
        some 0
    ) fun v41 =>
    some (.inl ((fx_w (g_11 + v29)), (fx_w (lesser_12 + v33)), v41, (fx_w (q_14 + 1))))
  else
    some (.inr (g_11, lesser_12, rich_13, q_14))
def f_X6_paysOf (Fu : Nat) (Λ : fx_L) (this_0 : Int) (p_0 : Int) (h_0 : Int) (h : fx_H) : Option (Int) :=
  (f_X6_doing Fu Λ this_0 p_0 h_0 h).bind fun v1 =>
  (fx_rd Λ h (fx_tg Λ this_0 0) (fx_w (14 + h_0))).bind fun v3 =>
  if ((v1 = (-1)) ∨ ((v3 = 4) ∧ (v1 = 0))) then
    some 0
  else
    Option.bind (fx_loop (s_X6_paysOf_1 Fu Λ this_0 p_0 h_0 v3 h) Fu (0, 0, 0, 0)) fun (g_93, lesser_94, rich_95, q_96) =>
    if v3 = 1 ∨ v3 = 4 then
      some (fx_w (2 * (fx_w (g_93 - 1))))
    else
      if v3 = 2 then
        Option.bind (
          if rich_95 = 0 then
            some (fx_w (g_93 - 1))
          else
            Option.bind (
              (fx_rd Λ h (fx_tg Λ this_0 0) 13).bind fun v109 =>
              if p_0 = v109 then
                some (fx_w (g_93 * (fx_w (g_93 - 1))))
              else
                some 0
            ) fun v106 =>
            some v106
        ) fun v102 =>
        some v102
      else
        if v3 = 3 then
          some lesser_94
        else
          if v3 = 5 then
            Option.bind (
              (f_X6_wasDone Fu Λ this_0 p_0 h_0 h).bind fun v119 =>
              if ¬ v119 = 0 then
                some 2
              else
                some 0
            ) fun v116 =>
            some (fx_w (lesser_94 + v116))
          else
            some (fx_w (g_93 - 1))
abbrev rm_X6_paysOf : Room := { frames := 2, cells := 0, slots := 0, locals := 48 }
set_option maxRecDepth 100000 in
set_option maxHeartbeats 4000000 in
theorem m_X6_paysOf (Fu : Nat) (Λ : fx_L) (this_0 : Int) (p_0 : Int) (h_0 : Int) (h : fx_H) (r : Int) (hf : f_X6_paysOf Fu Λ this_0 p_0 h_0 h = some r) : fx_Met yX6_paysOf cX6_paysOf 10 (some .int) rm_X6_paysOf Λ [(8, this_0), (0, p_0), (0, h_0)] h (some (0, r)) h := by
  unfold f_X6_paysOf at hf
  refine fx_enter (ls := [some (8, this_0), some (0, p_0), some (0, h_0), none, none, none, none, none, none, none]) (by decide) (Nat.le_of_ble_eq_true rfl) rfl (fun M G F K => ?_)
  refine fx_aload_n (pc := 0) (t := 6) F 0 rfl rfl dX6_paysOf_0 ?_
  refine fx_iload_n (pc := 1) F 1 rfl rfl dX6_paysOf_1 ?_
  refine fx_iload_n (pc := 2) F 2 rfl rfl dX6_paysOf_2 ?_
  obtain ⟨v1, e2, hf⟩ := fx_bnd hf
  refine fx_cV (pc := 3) F 6 kC_X6 [(0, p_0), (0, h_0)] this_0 [] (m_X6_doing Fu Λ this_0 p_0 h_0 h _ e2) kD_X6_doing kI_X6_doing rfl wM_X6_122 ⟨rfl, rfl⟩ ⟨by decide, by decide⟩ (Nat.le_of_ble_eq_true rfl) rfl dX6_paysOf_3 ?_
  refine fx_istore_n (pc := 6) (ls' := [some (8, this_0), some (0, p_0), some (0, h_0), some (0, v1), none, none, none, none, none, none]) F 3 rfl (by decide) rfl rfl dX6_paysOf_6 ?_
  refine fx_aload_n (pc := 7) (t := 6) F 0 rfl rfl dX6_paysOf_7 ?_
  refine fx_gR (pc := 8) F 6 0 0 8 rfl kC_X6 (by decide) rfl wF_X6_7 dX6_paysOf_8 ?_
  refine fx_bipush (pc := 11) F ⟨by decide, by decide⟩ (by decide) dX6_paysOf_11 ?_
  refine fx_iload_n (pc := 13) F 2 rfl rfl dX6_paysOf_13 ?_
  refine fx_iadd (pc := 14) F dX6_paysOf_14 ?_
  obtain ⟨v3, e4, hf⟩ := fx_bnd hf
  refine fx_raldI (pc := 15) F e4 dX6_paysOf_15 ?_
  refine fx_istore (pc := 16) (ls' := [some (8, this_0), some (0, p_0), some (0, h_0), some (0, v1), some (0, v3), none, none, none, none, none]) F (by decide) rfl rfl dX6_paysOf_16 ?_
  refine fx_iload_n (pc := 18) F 3 rfl rfl dX6_paysOf_18 ?_
  refine fx_iconst (pc := 19) F ⟨by decide, by decide⟩ dX6_paysOf_19 ?_
  have hT5 : (((v1 = (-1)) ∨ ((v3 = 4) ∧ (v1 = 0)))) → fx_J M G Λ 10 33 [some (8, this_0), some (0, p_0), some (0, h_0), some (0, v1), some (0, v3), none, none, none, none, none] [] h := fun c10 => by
    have hf := (if_pos c10).symm.trans hf
    refine fx_iconst (pc := 33) F ⟨by decide, by decide⟩ dX6_paysOf_33 ?_
    cases hf
    exact fx_ireturn (pc := 34) F K dX6_paysOf_34
  have hF6 : ¬ (((v1 = (-1)) ∨ ((v3 = 4) ∧ (v1 = 0)))) → fx_J M G Λ 10 35 [some (8, this_0), some (0, p_0), some (0, h_0), some (0, v1), some (0, v3), none, none, none, none, none] [] h := fun c10 => by
    have hf := (if_neg c10).symm.trans hf
    refine fx_iconst (pc := 35) F ⟨by decide, by decide⟩ dX6_paysOf_35 ?_
    refine fx_istore (pc := 36) (ls' := [some (8, this_0), some (0, p_0), some (0, h_0), some (0, v1), some (0, v3), some (0, 0), none, none, none, none]) F (by decide) rfl rfl dX6_paysOf_36 ?_
    refine fx_iconst (pc := 38) F ⟨by decide, by decide⟩ dX6_paysOf_38 ?_
    refine fx_istore (pc := 39) (ls' := [some (8, this_0), some (0, p_0), some (0, h_0), some (0, v1), some (0, v3), some (0, 0), some (0, 0), none, none, none]) F (by decide) rfl rfl dX6_paysOf_39 ?_
    refine fx_iconst (pc := 41) F ⟨by decide, by decide⟩ dX6_paysOf_41 ?_
    refine fx_istore (pc := 42) (ls' := [some (8, this_0), some (0, p_0), some (0, h_0), some (0, v1), some (0, v3), some (0, 0), some (0, 0), some (0, 0), none, none]) F (by decide) rfl rfl dX6_paysOf_42 ?_
    refine fx_iconst (pc := 44) F ⟨by decide, by decide⟩ dX6_paysOf_44 ?_
    refine fx_istore (pc := 45) (ls' := [some (8, this_0), some (0, p_0), some (0, h_0), some (0, v1), some (0, v3), some (0, 0), some (0, 0), some (0, 0), some (0, 0), none]) F (by decide) rfl rfl dX6_paysOf_45 ?_
    obtain ⟨⟨g_93, lesser_94, rich_95, q_96⟩, e97, hf⟩ := fx_bnd hf
    have hE98 : fx_J M G Λ 10 148 [some (8, this_0), some (0, p_0), some (0, h_0), some (0, v1), some (0, v3), some (0, g_93), some (0, lesser_94), some (0, rich_95), some (0, q_96), none] [] h := by
      refine fx_iload (pc := 148) F rfl dX6_paysOf_148 ?_
      by_cases c99 : v3 = 1 ∨ v3 = 4
      · have hf := (if_pos c99).symm.trans hf
        have hB100 : fx_J M G Λ 10 184 [some (8, this_0), some (0, p_0), some (0, h_0), some (0, v1), some (0, v3), some (0, g_93), some (0, lesser_94), some (0, rich_95), some (0, q_96), none] [] h := by
          refine fx_iconst (pc := 184) F ⟨by decide, by decide⟩ dX6_paysOf_184 ?_
          refine fx_iload (pc := 185) F rfl dX6_paysOf_185 ?_
          refine fx_iconst (pc := 187) F ⟨by decide, by decide⟩ dX6_paysOf_187 ?_
          refine fx_isub (pc := 188) F dX6_paysOf_188 ?_
          refine fx_imul (pc := 189) F dX6_paysOf_189 ?_
          cases hf
          exact fx_ireturn (pc := 190) F K dX6_paysOf_190
        rcases c99 with c99 | c99
        · exact fx_tswI (pc := 150) F 184 0 dX6_paysOf_150 c99 (by decide) rfl (by decide) hB100
        · exact fx_tswI (pc := 150) F 184 3 dX6_paysOf_150 c99 (by decide) rfl (by decide) hB100
      · have hf := (if_neg c99).symm.trans hf
        by_cases c101 : v3 = 2
        · have hf := (if_pos c101).symm.trans hf
          have hB112 : fx_J M G Λ 10 191 [some (8, this_0), some (0, p_0), some (0, h_0), some (0, v1), some (0, v3), some (0, g_93), some (0, lesser_94), some (0, rich_95), some (0, q_96), none] [] h := by
            obtain ⟨v102, e103, hf⟩ := fx_bnd hf
            have hJ104 : fx_J M G Λ 10 225 [some (8, this_0), some (0, p_0), some (0, h_0), some (0, v1), some (0, v3), some (0, g_93), some (0, lesser_94), some (0, rich_95), some (0, q_96), none] [(0, v102)] h := by
              cases hf
              exact fx_ireturn (pc := 225) F K dX6_paysOf_225
            refine fx_iload (pc := 191) F rfl dX6_paysOf_191 ?_
            refine fx_nzeq (pc := 193) F 203 (by decide) dX6_paysOf_193 (fun c105 => ?_) (fun c105 => ?_)
            · have e103 := (if_pos c105).symm.trans e103
              refine fx_iload (pc := 196) F rfl dX6_paysOf_196 ?_
              refine fx_iconst (pc := 198) F ⟨by decide, by decide⟩ dX6_paysOf_198 ?_
              refine fx_isub (pc := 199) F dX6_paysOf_199 ?_
              cases e103
              refine fx_goto (pc := 200) F 225 (by decide) dX6_paysOf_200 ?_
              exact hJ104
            · have e103 := (if_neg c105).symm.trans e103
              obtain ⟨v106, e107, e103⟩ := fx_bnd e103
              have hJ108 : fx_J M G Λ 10 225 [some (8, this_0), some (0, p_0), some (0, h_0), some (0, v1), some (0, v3), some (0, g_93), some (0, lesser_94), some (0, rich_95), some (0, q_96), none] [(0, v106)] h := by
                cases e103
                exact hJ104
              refine fx_iload_n (pc := 203) F 1 rfl rfl dX6_paysOf_203 ?_
              refine fx_aload_n (pc := 204) (t := 6) F 0 rfl rfl dX6_paysOf_204 ?_
              refine fx_gR (pc := 205) F 6 0 0 8 rfl kC_X6 (by decide) rfl wF_X6_7 dX6_paysOf_205 ?_
              refine fx_bipush (pc := 208) F ⟨by decide, by decide⟩ (by decide) dX6_paysOf_208 ?_
              obtain ⟨v109, e110, e107⟩ := fx_bnd e107
              refine fx_raldI (pc := 210) F e110 dX6_paysOf_210 ?_
              refine fx_neq (pc := 211) F 224 (by decide) dX6_paysOf_211 (fun c111 => ?_) (fun c111 => ?_)
              · have e107 := (if_pos c111).symm.trans e107
                refine fx_iload (pc := 214) F rfl dX6_paysOf_214 ?_
                refine fx_iload (pc := 216) F rfl dX6_paysOf_216 ?_
                refine fx_iconst (pc := 218) F ⟨by decide, by decide⟩ dX6_paysOf_218 ?_
                refine fx_isub (pc := 219) F dX6_paysOf_219 ?_
                refine fx_imul (pc := 220) F dX6_paysOf_220 ?_
                cases e107
                refine fx_goto (pc := 221) F 225 (by decide) dX6_paysOf_221 ?_
                exact hJ108
              · have e107 := (if_neg c111).symm.trans e107
                refine fx_iconst (pc := 224) F ⟨by decide, by decide⟩ dX6_paysOf_224 ?_
                cases e107
                exact hJ108
          exact fx_tswI (pc := 150) F 191 1 dX6_paysOf_150 c101 (by decide) rfl (by decide) hB112
        · have hf := (if_neg c101).symm.trans hf
          by_cases c113 : v3 = 3
          · have hf := (if_pos c113).symm.trans hf
            have hB114 : fx_J M G Λ 10 226 [some (8, this_0), some (0, p_0), some (0, h_0), some (0, v1), some (0, v3), some (0, g_93), some (0, lesser_94), some (0, rich_95), some (0, q_96), none] [] h := by
              refine fx_iload (pc := 226) F rfl dX6_paysOf_226 ?_
              cases hf
              exact fx_ireturn (pc := 228) F K dX6_paysOf_228
            exact fx_tswI (pc := 150) F 226 2 dX6_paysOf_150 c113 (by decide) rfl (by decide) hB114
          · have hf := (if_neg c113).symm.trans hf
            by_cases c115 : v3 = 5
            · have hf := (if_pos c115).symm.trans hf
              have hB122 : fx_J M G Λ 10 229 [some (8, this_0), some (0, p_0), some (0, h_0), some (0, v1), some (0, v3), some (0, g_93), some (0, lesser_94), some (0, rich_95), some (0, q_96), none] [] h := by
                refine fx_iload (pc := 229) F rfl dX6_paysOf_229 ?_
                obtain ⟨v116, e117, hf⟩ := fx_bnd hf
                have hJ118 : fx_J M G Λ 10 245 [some (8, this_0), some (0, p_0), some (0, h_0), some (0, v1), some (0, v3), some (0, g_93), some (0, lesser_94), some (0, rich_95), some (0, q_96), none] [(0, v116), (0, lesser_94)] h := by
                  refine fx_iadd (pc := 245) F dX6_paysOf_245 ?_
                  cases hf
                  exact fx_ireturn (pc := 246) F K dX6_paysOf_246
                refine fx_aload_n (pc := 231) (t := 6) F 0 rfl rfl dX6_paysOf_231 ?_
                refine fx_iload_n (pc := 232) F 1 rfl rfl dX6_paysOf_232 ?_
                refine fx_iload_n (pc := 233) F 2 rfl rfl dX6_paysOf_233 ?_
                obtain ⟨v119, e120, e117⟩ := fx_bnd e117
                refine fx_cV (pc := 234) F 6 kC_X6 [(0, p_0), (0, h_0)] this_0 [(0, lesser_94)] (m_X6_wasDone Fu Λ this_0 p_0 h_0 h _ e120) kD_X6_wasDone kI_X6_wasDone rfl wM_X6_130 ⟨rfl, rfl⟩ ⟨by decide, by decide⟩ (Nat.le_of_ble_eq_true rfl) rfl dX6_paysOf_234 ?_
                refine fx_nzne (pc := 237) F 244 (by decide) dX6_paysOf_237 (fun c121 => ?_) (fun c121 => ?_)
                · have e117 := (if_pos c121).symm.trans e117
                  refine fx_iconst (pc := 240) F ⟨by decide, by decide⟩ dX6_paysOf_240 ?_
                  cases e117
                  refine fx_goto (pc := 241) F 245 (by decide) dX6_paysOf_241 ?_
                  exact hJ118
                · have e117 := (if_neg c121).symm.trans e117
                  refine fx_iconst (pc := 244) F ⟨by decide, by decide⟩ dX6_paysOf_244 ?_
                  cases e117
                  exact hJ118
              exact fx_tswI (pc := 150) F 229 4 dX6_paysOf_150 c115 (by decide) rfl (by decide) hB122
            · have hf := (if_neg c115).symm.trans hf
              refine fx_tswO (pc := 150) F 247 dX6_paysOf_150 (by omega) (by decide) ?_
              refine fx_iload (pc := 247) F rfl dX6_paysOf_247 ?_
              refine fx_iconst (pc := 249) F ⟨by decide, by decide⟩ dX6_paysOf_249 ?_
              refine fx_isub (pc := 250) F dX6_paysOf_250 ?_
              cases hf
              exact fx_ireturn (pc := 251) F K dX6_paysOf_251
    refine fx_loop_J (Hd := (fun z : Int × Int × Int × Int => fx_J M G Λ 10 47 [some (8, this_0), some (0, p_0), some (0, h_0), some (0, v1), some (0, v3), some (0, z.1), some (0, z.2.1), some (0, z.2.2.1), some (0, z.2.2.2), none] [] h)) (Ex := (fun z : Int × Int × Int × Int => fx_J M G Λ 10 148 [some (8, this_0), some (0, p_0), some (0, h_0), some (0, v1), some (0, v3), some (0, z.1), some (0, z.2.1), some (0, z.2.2.1), some (0, z.2.2.2), none] [] h)) ?_ Fu _ _ e97 hE98
    rintro ⟨g_54, lesser_55, rich_56, q_57⟩ o9 eq58 ih ex
    unfold s_X6_paysOf_1 at eq58
    show fx_J M G Λ 10 47 [some (8, this_0), some (0, p_0), some (0, h_0), some (0, v1), some (0, v3), some (0, g_54), some (0, lesser_55), some (0, rich_56), some (0, q_57), none] [] h
    refine fx_iload (pc := 47) F rfl dX6_paysOf_47 ?_
    refine fx_aload_n (pc := 49) (t := 6) F 0 rfl rfl dX6_paysOf_49 ?_
    obtain ⟨v59, e60, eq58⟩ := fx_bnd eq58
    refine fx_cV (pc := 50) F 6 kC_X6 [] this_0 [(0, q_57)] (m_X6_people Fu Λ this_0 h _ e60) kD_X6_people kI_X6_people rfl wM_X6_78 ⟨rfl, rfl⟩ ⟨by decide, by decide⟩ (Nat.le_of_ble_eq_true rfl) rfl dX6_paysOf_50 ?_
    refine fx_nlt (pc := 53) F 148 (by decide) dX6_paysOf_53 (fun c61 => ?_) (fun c61 => ?_)
    · have eq58 := (if_pos c61).symm.trans eq58
      refine fx_aload_n (pc := 56) (t := 6) F 0 rfl rfl dX6_paysOf_56 ?_
      refine fx_iload (pc := 57) F rfl dX6_paysOf_57 ?_
      refine fx_iload_n (pc := 59) F 1 rfl rfl dX6_paysOf_59 ?_
      refine fx_iload_n (pc := 60) F 2 rfl rfl dX6_paysOf_60 ?_
      obtain ⟨v62, e63, eq58⟩ := fx_bnd eq58
      have hJ64 : fx_J M G Λ 10 72 [some (8, this_0), some (0, p_0), some (0, h_0), some (0, v1), some (0, v3), some (0, g_54), some (0, lesser_55), some (0, rich_56), some (0, q_57), none] [(0, v62), (0, h_0), (0, p_0), (0, q_57), (8, this_0)] h := by
        obtain ⟨v66, e67, eq58⟩ := fx_bnd eq58
        refine fx_cV (pc := 72) F 6 kC_X6 [(0, q_57), (0, p_0), (0, h_0), (0, v62)] this_0 [] (m_X6_isWith Fu Λ this_0 q_57 p_0 h_0 v62 h _ e67) kD_X6_isWith kI_X6_isWith rfl wM_X6_126 ⟨rfl, rfl⟩ ⟨by decide, by decide⟩ (Nat.le_of_ble_eq_true rfl) rfl dX6_paysOf_72 ?_
        refine fx_istore (pc := 75) (ls' := [some (8, this_0), some (0, p_0), some (0, h_0), some (0, v1), some (0, v3), some (0, g_54), some (0, lesser_55), some (0, rich_56), some (0, q_57), some (0, v66)]) F (by decide) rfl rfl dX6_paysOf_75 ?_
        refine fx_iload (pc := 77) F rfl dX6_paysOf_77 ?_
        obtain ⟨v68, e69, eq58⟩ := fx_bnd eq58
        have hJ70 : fx_J M G Λ 10 89 [some (8, this_0), some (0, p_0), some (0, h_0), some (0, v1), some (0, v3), some (0, g_54), some (0, lesser_55), some (0, rich_56), some (0, q_57), some (0, v66)] [(0, v68), (0, g_54)] h := by
          refine fx_iadd (pc := 89) F dX6_paysOf_89 ?_
          refine fx_istore (pc := 90) (ls' := [some (8, this_0), some (0, p_0), some (0, h_0), some (0, v1), some (0, v3), some (0, (fx_w (g_54 + v68))), some (0, lesser_55), some (0, rich_56), some (0, q_57), some (0, v66)]) F (by decide) rfl rfl dX6_paysOf_90 ?_
          refine fx_iload (pc := 92) F rfl dX6_paysOf_92 ?_
          obtain ⟨v72, e73, eq58⟩ := fx_bnd eq58
          have hJ74 : fx_J M G Λ 10 110 [some (8, this_0), some (0, p_0), some (0, h_0), some (0, v1), some (0, v3), some (0, (fx_w (g_54 + v68))), some (0, lesser_55), some (0, rich_56), some (0, q_57), some (0, v66)] [(0, v72), (0, lesser_55)] h := by
            refine fx_iadd (pc := 110) F dX6_paysOf_110 ?_
            refine fx_istore (pc := 111) (ls' := [some (8, this_0), some (0, p_0), some (0, h_0), some (0, v1), some (0, v3), some (0, (fx_w (g_54 + v68))), some (0, (fx_w (lesser_55 + v72))), some (0, rich_56), some (0, q_57), some (0, v66)]) F (by decide) rfl rfl dX6_paysOf_111 ?_
            obtain ⟨v80, e81, eq58⟩ := fx_bnd eq58
            have hJ82 : fx_J M G Λ 10 140 [some (8, this_0), some (0, p_0), some (0, h_0), some (0, v1), some (0, v3), some (0, (fx_w (g_54 + v68))), some (0, (fx_w (lesser_55 + v72))), some (0, rich_56), some (0, q_57), some (0, v66)] [(0, v80)] h := by
              refine fx_istore (pc := 140) (ls' := [some (8, this_0), some (0, p_0), some (0, h_0), some (0, v1), some (0, v3), some (0, (fx_w (g_54 + v68))), some (0, (fx_w (lesser_55 + v72))), some (0, v80), some (0, q_57), some (0, v66)]) F (by decide) rfl rfl dX6_paysOf_140 ?_
              refine fx_iinc (pc := 142) (ls' := [some (8, this_0), some (0, p_0), some (0, h_0), some (0, v1), some (0, v3), some (0, (fx_w (g_54 + v68))), some (0, (fx_w (lesser_55 + v72))), some (0, v80), some (0, (fx_w (q_57 + 1))), some (0, v66)]) F (by decide) rfl rfl rfl dX6_paysOf_142 ?_
              refine fx_goto (pc := 145) F 47 (by decide) dX6_paysOf_145 ?_
              cases eq58
              refine fx_drop (ls' := [some (8, this_0), some (0, p_0), some (0, h_0), some (0, v1), some (0, v3), some (0, (fx_w (g_54 + v68))), some (0, (fx_w (lesser_55 + v72))), some (0, v80), some (0, (fx_w (q_57 + 1))), none]) ⟨rfl, rfl, rfl, rfl, rfl, rfl, rfl, rfl, rfl, trivial⟩ ?_
              exact ih _ rfl
            obtain ⟨b83, e84, e81⟩ := fx_bnd e81
            have hT85 : b83 = true → fx_J M G Λ 10 135 [some (8, this_0), some (0, p_0), some (0, h_0), some (0, v1), some (0, v3), some (0, (fx_w (g_54 + v68))), some (0, (fx_w (lesser_55 + v72))), some (0, rich_56), some (0, q_57), some (0, v66)] [] h := fun c92 => by
              have e81 := (if_pos c92).symm.trans e81
              refine fx_iconst (pc := 135) F ⟨by decide, by decide⟩ dX6_paysOf_135 ?_
              cases e81
              refine fx_goto (pc := 136) F 140 (by decide) dX6_paysOf_136 ?_
              exact hJ82
            have hF86 : ¬ b83 = true → fx_J M G Λ 10 139 [some (8, this_0), some (0, p_0), some (0, h_0), some (0, v1), some (0, v3), some (0, (fx_w (g_54 + v68))), some (0, (fx_w (lesser_55 + v72))), some (0, rich_56), some (0, q_57), some (0, v66)] [] h := fun c92 => by
              have e81 := (if_neg c92).symm.trans e81
              refine fx_iconst (pc := 139) F ⟨by decide, by decide⟩ dX6_paysOf_139 ?_
              cases e81
              exact hJ82
            refine fx_iload (pc := 113) F rfl dX6_paysOf_113 ?_
            refine fx_jzne (pc := 115) F 135 (by decide) dX6_paysOf_115 (fun c87 => ?_) (fun c87 => ?_)
            · have e84 := (if_pos c87).symm.trans e84
              cases e84
              exact hT85 (by decide)
            · have e84 := (if_neg c87).symm.trans e84
              refine fx_iload (pc := 118) F rfl dX6_paysOf_118 ?_
              refine fx_nzne (pc := 120) F 139 (by decide) dX6_paysOf_120 (fun c88 => ?_) (fun c88 => ?_)
              · have e84 := (if_pos c88).symm.trans e84
                refine fx_iload (pc := 123) F rfl dX6_paysOf_123 ?_
                refine fx_aload_n (pc := 125) (t := 6) F 0 rfl rfl dX6_paysOf_125 ?_
                refine fx_gR (pc := 126) F 6 0 0 8 rfl kC_X6 (by decide) rfl wF_X6_7 dX6_paysOf_126 ?_
                refine fx_bipush (pc := 129) F ⟨by decide, by decide⟩ (by decide) dX6_paysOf_129 ?_
                obtain ⟨v89, e90, e84⟩ := fx_bnd e84
                refine fx_raldI (pc := 131) F e90 dX6_paysOf_131 ?_
                refine fx_neq (pc := 132) F 139 (by decide) dX6_paysOf_132 (fun c91 => ?_) (fun c91 => ?_)
                · have e84 := (if_pos c91).symm.trans e84
                  cases e84
                  exact hT85 (by decide)
                · have e84 := (if_neg c91).symm.trans e84
                  cases e84
                  exact hF86 (by decide)
              · have e84 := (if_neg c88).symm.trans e84
                cases e84
                exact hF86 (by decide)
          refine fx_iload (pc := 94) F rfl dX6_paysOf_94 ?_
          have hT75 : (((¬ v66 = 0) ∧ (q_57 < p_0))) → fx_J M G Λ 10 105 [some (8, this_0), some (0, p_0), some (0, h_0), some (0, v1), some (0, v3), some (0, (fx_w (g_54 + v68))), some (0, lesser_55), some (0, rich_56), some (0, q_57), some (0, v66)] [(0, lesser_55)] h := fun c79 => by
            have e73 := (if_pos c79).symm.trans e73
            refine fx_iconst (pc := 105) F ⟨by decide, by decide⟩ dX6_paysOf_105 ?_
            cases e73
            refine fx_goto (pc := 106) F 110 (by decide) dX6_paysOf_106 ?_
            exact hJ74
          have hF76 : ¬ (((¬ v66 = 0) ∧ (q_57 < p_0))) → fx_J M G Λ 10 109 [some (8, this_0), some (0, p_0), some (0, h_0), some (0, v1), some (0, v3), some (0, (fx_w (g_54 + v68))), some (0, lesser_55), some (0, rich_56), some (0, q_57), some (0, v66)] [(0, lesser_55)] h := fun c79 => by
            have e73 := (if_neg c79).symm.trans e73
            refine fx_iconst (pc := 109) F ⟨by decide, by decide⟩ dX6_paysOf_109 ?_
            cases e73
            exact hJ74
          refine fx_nzne (pc := 96) F 109 (by decide) dX6_paysOf_96 (fun c77 => ?_) (fun c77 => ?_)
          · refine fx_iload (pc := 99) F rfl dX6_paysOf_99 ?_
            refine fx_iload_n (pc := 101) F 1 rfl rfl dX6_paysOf_101 ?_
            refine fx_nlt (pc := 102) F 109 (by decide) dX6_paysOf_102 (fun c78 => ?_) (fun c78 => ?_)
            · exact hT75 ⟨c77, c78⟩
            · exact hF76 (fun q => c78 q.2)
          · exact hF76 (fun q => c77 q.1)
        refine fx_iload (pc := 79) F rfl dX6_paysOf_79 ?_
        refine fx_nzne (pc := 81) F 88 (by decide) dX6_paysOf_81 (fun c71 => ?_) (fun c71 => ?_)
        · have e69 := (if_pos c71).symm.trans e69
          refine fx_iconst (pc := 84) F ⟨by decide, by decide⟩ dX6_paysOf_84 ?_
          cases e69
          refine fx_goto (pc := 85) F 89 (by decide) dX6_paysOf_85 ?_
          exact hJ70
        · have e69 := (if_neg c71).symm.trans e69
          refine fx_iconst (pc := 88) F ⟨by decide, by decide⟩ dX6_paysOf_88 ?_
          cases e69
          exact hJ70
      refine fx_iload (pc := 61) F rfl dX6_paysOf_61 ?_
      refine fx_iconst (pc := 63) F ⟨by decide, by decide⟩ dX6_paysOf_63 ?_
      refine fx_neq (pc := 64) F 71 (by decide) dX6_paysOf_64 (fun c65 => ?_) (fun c65 => ?_)
      · have e63 := (if_pos c65).symm.trans e63
        refine fx_iconst (pc := 67) F ⟨by decide, by decide⟩ dX6_paysOf_67 ?_
        cases e63
        refine fx_goto (pc := 68) F 72 (by decide) dX6_paysOf_68 ?_
        exact hJ64
      · have e63 := (if_neg c65).symm.trans e63
        refine fx_iconst (pc := 71) F ⟨by decide, by decide⟩ dX6_paysOf_71 ?_
        cases e63
        exact hJ64
    · have eq58 := (if_neg c61).symm.trans eq58
      cases eq58
      exact ex _ rfl
  refine fx_jeq (pc := 20) F 33 (by decide) dX6_paysOf_20 (fun c7 => ?_) (fun c7 => ?_)
  · exact hT5 (Or.inl c7)
  · refine fx_iload (pc := 23) F rfl dX6_paysOf_23 ?_
    refine fx_iconst (pc := 25) F ⟨by decide, by decide⟩ dX6_paysOf_25 ?_
    refine fx_neq (pc := 26) F 35 (by decide) dX6_paysOf_26 (fun c8 => ?_) (fun c8 => ?_)
    · refine fx_iload_n (pc := 29) F 3 rfl rfl dX6_paysOf_29 ?_
      refine fx_nzeq (pc := 30) F 35 (by decide) dX6_paysOf_30 (fun c9 => ?_) (fun c9 => ?_)
      · exact hT5 (Or.inr ⟨c8, c9⟩)
      · exact hF6 (fun q => q.elim c7 (fun q => c9 q.2))
    · exact hF6 (fun q => q.elim c7 (fun q => c8 q.1))
def s_X6_paysIn_1 (Fu : Nat) (Λ : fx_L) (this_3 : Int) (p_4 : Int) (many_5 : Int) (h : fx_H) : Int × Int → Option ((Int × Int) ⊕ (Int × Int)) := fun (sum_1, h_2) =>
  if h_2 < many_5 then
    (f_X6_paysOf Fu Λ this_3 p_4 h_2 h).bind fun v8 =>
    some (.inl ((fx_w (sum_1 + v8)), (fx_w (h_2 + 1))))
  else
    some (.inr (sum_1, h_2))
def f_X6_paysIn (Fu : Nat) (Λ : fx_L) (this_0 : Int) (p_0 : Int) (many_0 : Int) (h : fx_H) : Option (Int) :=
  Option.bind (fx_loop (s_X6_paysIn_1 Fu Λ this_0 p_0 many_0 h) Fu (0, 0)) fun (sum_16, h_17) =>
  some sum_16
abbrev rm_X6_paysIn : Room := { frames := 3, cells := 0, slots := 0, locals := 77 }
set_option maxRecDepth 100000 in
set_option maxHeartbeats 4000000 in
theorem m_X6_paysIn (Fu : Nat) (Λ : fx_L) (this_0 : Int) (p_0 : Int) (many_0 : Int) (h : fx_H) (r : Int) (hf : f_X6_paysIn Fu Λ this_0 p_0 many_0 h = some r) : fx_Met yX6_paysIn cX6_paysIn 5 (some .int) rm_X6_paysIn Λ [(8, this_0), (0, p_0), (0, many_0)] h (some (0, r)) h := by
  unfold f_X6_paysIn at hf
  refine fx_enter (ls := [some (8, this_0), some (0, p_0), some (0, many_0), none, none]) (by decide) (Nat.le_of_ble_eq_true rfl) rfl (fun M G F K => ?_)
  refine fx_iconst (pc := 0) F ⟨by decide, by decide⟩ dX6_paysIn_0 ?_
  refine fx_istore_n (pc := 1) (ls' := [some (8, this_0), some (0, p_0), some (0, many_0), some (0, 0), none]) F 3 rfl (by decide) rfl rfl dX6_paysIn_1 ?_
  refine fx_iconst (pc := 2) F ⟨by decide, by decide⟩ dX6_paysIn_2 ?_
  refine fx_istore (pc := 3) (ls' := [some (8, this_0), some (0, p_0), some (0, many_0), some (0, 0), some (0, 0)]) F (by decide) rfl rfl dX6_paysIn_3 ?_
  obtain ⟨⟨sum_16, h_17⟩, e18, hf⟩ := fx_bnd hf
  have hE19 : fx_J M G Λ 5 27 [some (8, this_0), some (0, p_0), some (0, many_0), some (0, sum_16), some (0, h_17)] [] h := by
    refine fx_iload_n (pc := 27) F 3 rfl rfl dX6_paysIn_27 ?_
    cases hf
    exact fx_ireturn (pc := 28) F K dX6_paysIn_28
  refine fx_loop_J (Hd := (fun z : Int × Int => fx_J M G Λ 5 5 [some (8, this_0), some (0, p_0), some (0, many_0), some (0, z.1), some (0, z.2)] [] h)) (Ex := (fun z : Int × Int => fx_J M G Λ 5 27 [some (8, this_0), some (0, p_0), some (0, many_0), some (0, z.1), some (0, z.2)] [] h)) ?_ Fu _ _ e18 hE19
  rintro ⟨sum_10, h_11⟩ o9 eq12 ih ex
  unfold s_X6_paysIn_1 at eq12
  show fx_J M G Λ 5 5 [some (8, this_0), some (0, p_0), some (0, many_0), some (0, sum_10), some (0, h_11)] [] h
  refine fx_iload (pc := 5) F rfl dX6_paysIn_5 ?_
  refine fx_iload_n (pc := 7) F 2 rfl rfl dX6_paysIn_7 ?_
  refine fx_nlt (pc := 8) F 27 (by decide) dX6_paysIn_8 (fun c13 => ?_) (fun c13 => ?_)
  · have eq12 := (if_pos c13).symm.trans eq12
    refine fx_iload_n (pc := 11) F 3 rfl rfl dX6_paysIn_11 ?_
    refine fx_aload_n (pc := 12) (t := 6) F 0 rfl rfl dX6_paysIn_12 ?_
    refine fx_iload_n (pc := 13) F 1 rfl rfl dX6_paysIn_13 ?_
    refine fx_iload (pc := 14) F rfl dX6_paysIn_14 ?_
    obtain ⟨v14, e15, eq12⟩ := fx_bnd eq12
    refine fx_cV (pc := 16) F 6 kC_X6 [(0, p_0), (0, h_11)] this_0 [(0, sum_10)] (m_X6_paysOf Fu Λ this_0 p_0 h_11 h _ e15) kD_X6_paysOf kI_X6_paysOf rfl wM_X6_134 ⟨rfl, rfl⟩ ⟨by decide, by decide⟩ (Nat.le_of_ble_eq_true rfl) rfl dX6_paysIn_16 ?_
    refine fx_iadd (pc := 19) F dX6_paysIn_19 ?_
    refine fx_istore_n (pc := 20) (ls' := [some (8, this_0), some (0, p_0), some (0, many_0), some (0, (fx_w (sum_10 + v14))), some (0, h_11)]) F 3 rfl (by decide) rfl rfl dX6_paysIn_20 ?_
    refine fx_iinc (pc := 21) (ls' := [some (8, this_0), some (0, p_0), some (0, many_0), some (0, (fx_w (sum_10 + v14))), some (0, (fx_w (h_11 + 1)))]) F (by decide) rfl rfl rfl dX6_paysIn_21 ?_
    refine fx_goto (pc := 24) F 5 (by decide) dX6_paysIn_24 ?_
    cases eq12
    exact ih _ rfl
  · have eq12 := (if_neg c13).symm.trans eq12
    cases eq12
    exact ex _ rfl
def s_X6_allIn_1 (Fu : Nat) (Λ : fx_L) (this_3 : Int) (many_4 : Int) (h : fx_H) : Int × Int → Option ((Int × Int) ⊕ (Int × Int)) := fun (sum_1, p_2) =>
  (f_X6_people Fu Λ this_3 h).bind fun v6 =>
  if p_2 < v6 then
    (f_X6_paysIn Fu Λ this_3 p_2 many_4 h).bind fun v9 =>
    some (.inl ((fx_w (sum_1 + v9)), (fx_w (p_2 + 1))))
  else
    some (.inr (sum_1, p_2))
def f_X6_allIn (Fu : Nat) (Λ : fx_L) (this_0 : Int) (many_0 : Int) (h : fx_H) : Option (Int) :=
  Option.bind (fx_loop (s_X6_allIn_1 Fu Λ this_0 many_0 h) Fu (0, 0)) fun (sum_19, p_20) =>
  some sum_19
abbrev rm_X6_allIn : Room := { frames := 4, cells := 0, slots := 0, locals := 101 }
set_option maxRecDepth 100000 in
set_option maxHeartbeats 4000000 in
theorem m_X6_allIn (Fu : Nat) (Λ : fx_L) (this_0 : Int) (many_0 : Int) (h : fx_H) (r : Int) (hf : f_X6_allIn Fu Λ this_0 many_0 h = some r) : fx_Met yX6_allIn cX6_allIn 4 (some .int) rm_X6_allIn Λ [(8, this_0), (0, many_0)] h (some (0, r)) h := by
  unfold f_X6_allIn at hf
  refine fx_enter (ls := [some (8, this_0), some (0, many_0), none, none]) (by decide) (Nat.le_of_ble_eq_true rfl) rfl (fun M G F K => ?_)
  refine fx_iconst (pc := 0) F ⟨by decide, by decide⟩ dX6_allIn_0 ?_
  refine fx_istore_n (pc := 1) (ls' := [some (8, this_0), some (0, many_0), some (0, 0), none]) F 2 rfl (by decide) rfl rfl dX6_allIn_1 ?_
  refine fx_iconst (pc := 2) F ⟨by decide, by decide⟩ dX6_allIn_2 ?_
  refine fx_istore_n (pc := 3) (ls' := [some (8, this_0), some (0, many_0), some (0, 0), some (0, 0)]) F 3 rfl (by decide) rfl rfl dX6_allIn_3 ?_
  obtain ⟨⟨sum_19, p_20⟩, e21, hf⟩ := fx_bnd hf
  have hE22 : fx_J M G Λ 4 27 [some (8, this_0), some (0, many_0), some (0, sum_19), some (0, p_20)] [] h := by
    refine fx_iload_n (pc := 27) F 2 rfl rfl dX6_allIn_27 ?_
    cases hf
    exact fx_ireturn (pc := 28) F K dX6_allIn_28
  refine fx_loop_J (Hd := (fun z : Int × Int => fx_J M G Λ 4 4 [some (8, this_0), some (0, many_0), some (0, z.1), some (0, z.2)] [] h)) (Ex := (fun z : Int × Int => fx_J M G Λ 4 27 [some (8, this_0), some (0, many_0), some (0, z.1), some (0, z.2)] [] h)) ?_ Fu _ _ e21 hE22
  rintro ⟨sum_11, p_12⟩ o9 eq13 ih ex
  unfold s_X6_allIn_1 at eq13
  show fx_J M G Λ 4 4 [some (8, this_0), some (0, many_0), some (0, sum_11), some (0, p_12)] [] h
  refine fx_iload_n (pc := 4) F 3 rfl rfl dX6_allIn_4 ?_
  refine fx_aload_n (pc := 5) (t := 6) F 0 rfl rfl dX6_allIn_5 ?_
  obtain ⟨v14, e15, eq13⟩ := fx_bnd eq13
  refine fx_cV (pc := 6) F 6 kC_X6 [] this_0 [(0, p_12)] (m_X6_people Fu Λ this_0 h _ e15) kD_X6_people kI_X6_people rfl wM_X6_78 ⟨rfl, rfl⟩ ⟨by decide, by decide⟩ (Nat.le_of_ble_eq_true rfl) rfl dX6_allIn_6 ?_
  refine fx_nlt (pc := 9) F 27 (by decide) dX6_allIn_9 (fun c16 => ?_) (fun c16 => ?_)
  · have eq13 := (if_pos c16).symm.trans eq13
    refine fx_iload_n (pc := 12) F 2 rfl rfl dX6_allIn_12 ?_
    refine fx_aload_n (pc := 13) (t := 6) F 0 rfl rfl dX6_allIn_13 ?_
    refine fx_iload_n (pc := 14) F 3 rfl rfl dX6_allIn_14 ?_
    refine fx_iload_n (pc := 15) F 1 rfl rfl dX6_allIn_15 ?_
    obtain ⟨v17, e18, eq13⟩ := fx_bnd eq13
    refine fx_cV (pc := 16) F 6 kC_X6 [(0, p_12), (0, many_0)] this_0 [(0, sum_11)] (m_X6_paysIn Fu Λ this_0 p_12 many_0 h _ e18) kD_X6_paysIn kI_X6_paysIn rfl wM_X6_137 ⟨rfl, rfl⟩ ⟨by decide, by decide⟩ (Nat.le_of_ble_eq_true rfl) rfl dX6_allIn_16 ?_
    refine fx_iadd (pc := 19) F dX6_allIn_19 ?_
    refine fx_istore_n (pc := 20) (ls' := [some (8, this_0), some (0, many_0), some (0, (fx_w (sum_11 + v17))), some (0, p_12)]) F 2 rfl (by decide) rfl rfl dX6_allIn_20 ?_
    refine fx_iinc (pc := 21) (ls' := [some (8, this_0), some (0, many_0), some (0, (fx_w (sum_11 + v17))), some (0, (fx_w (p_12 + 1)))]) F (by decide) rfl rfl rfl dX6_allIn_21 ?_
    refine fx_goto (pc := 24) F 4 (by decide) dX6_allIn_24 ?_
    cases eq13
    exact ih _ rfl
  · have eq13 := (if_neg c16).symm.trans eq13
    cases eq13
    exact ex _ rfl
def f_X6_pays (Fu : Nat) (Λ : fx_L) (this_0 : Int) (person_0 : Int) (hour_0 : Int) (h : fx_H) : Option (Int × fx_H) :=
  Option.bind (
    (f_X6_isOne Fu Λ this_0 person_0 h).bind fun v5 =>
    if v5 = 0 then
      some true
    else
      (f_X6_isHour Fu Λ this_0 hour_0 h).bind fun v8 =>
      if v8 = 0 then
        some true
      else
        some false
  ) fun b1 =>
  if b1 = true then
    (f_X6_bad Fu Λ this_0 (-2) h).bind fun (v12, h13) =>
    some (v12, h13)
  else
    (f_X6_layNow Fu Λ this_0 h).bind fun h15 =>
    (f_X6_takeDone Fu Λ this_0 h15).bind fun h17 =>
    (f_X6_paysOf Fu Λ this_0 person_0 hour_0 h17).bind fun v19 =>
    some (v19, h17)
abbrev rm_X6_pays : Room := { frames := 3, cells := 0, slots := 0, locals := 77 }
set_option maxRecDepth 100000 in
set_option maxHeartbeats 4000000 in
theorem m_X6_pays (Fu : Nat) (Λ : fx_L) (this_0 : Int) (person_0 : Int) (hour_0 : Int) (h : fx_H) (r : Int) (ho : fx_H) (hf : f_X6_pays Fu Λ this_0 person_0 hour_0 h = some (r, ho)) : fx_Met yX6_pays cX6_pays 3 (some .int) rm_X6_pays Λ [(8, this_0), (0, person_0), (0, hour_0)] h (some (0, r)) ho := by
  unfold f_X6_pays at hf
  refine fx_enter (ls := [some (8, this_0), some (0, person_0), some (0, hour_0)]) (by decide) (Nat.le_of_ble_eq_true rfl) rfl (fun M G F K => ?_)
  obtain ⟨b1, e2, hf⟩ := fx_bnd hf
  have hT3 : b1 = true → fx_J M G Λ 3 16 [some (8, this_0), some (0, person_0), some (0, hour_0)] [] h := fun c11 => by
    have hf := (if_pos c11).symm.trans hf
    refine fx_aload_n (pc := 16) (t := 6) F 0 rfl rfl dX6_pays_16 ?_
    refine fx_bipush (pc := 17) F ⟨by decide, by decide⟩ (by decide) dX6_pays_17 ?_
    obtain ⟨⟨v12, h13⟩, e14, hf⟩ := fx_bnd hf
    refine fx_cV (pc := 19) F 6 kC_X6 [(0, (-2))] this_0 [] (m_X6_bad Fu Λ this_0 (-2) h _ _ e14) kD_X6_bad kI_X6_bad rfl wM_X6_88 ⟨rfl, rfl⟩ ⟨by decide, by decide⟩ (Nat.le_of_ble_eq_true rfl) rfl dX6_pays_19 ?_
    cases hf
    exact fx_ireturn (pc := 22) F K dX6_pays_22
  have hF4 : ¬ b1 = true → fx_J M G Λ 3 23 [some (8, this_0), some (0, person_0), some (0, hour_0)] [] h := fun c11 => by
    have hf := (if_neg c11).symm.trans hf
    refine fx_aload_n (pc := 23) (t := 6) F 0 rfl rfl dX6_pays_23 ?_
    obtain ⟨h15, e16, hf⟩ := fx_bnd hf
    refine fx_cVv (pc := 24) F 6 kC_X6 [] this_0 [] (m_X6_layNow Fu Λ this_0 h _ e16) kD_X6_layNow kI_X6_layNow rfl wM_X6_119 ⟨rfl, rfl⟩ ⟨by decide, by decide⟩ (Nat.le_of_ble_eq_true rfl) rfl dX6_pays_24 ?_
    refine fx_aload_n (pc := 27) (t := 6) F 0 rfl rfl dX6_pays_27 ?_
    obtain ⟨h17, e18, hf⟩ := fx_bnd hf
    refine fx_cVv (pc := 28) F 6 kC_X6 [] this_0 [] (m_X6_takeDone Fu Λ this_0 h15 _ e18) kD_X6_takeDone kI_X6_takeDone rfl wM_X6_140 ⟨rfl, rfl⟩ ⟨by decide, by decide⟩ (Nat.le_of_ble_eq_true rfl) rfl dX6_pays_28 ?_
    refine fx_aload_n (pc := 31) (t := 6) F 0 rfl rfl dX6_pays_31 ?_
    refine fx_iload_n (pc := 32) F 1 rfl rfl dX6_pays_32 ?_
    refine fx_iload_n (pc := 33) F 2 rfl rfl dX6_pays_33 ?_
    obtain ⟨v19, e20, hf⟩ := fx_bnd hf
    refine fx_cV (pc := 34) F 6 kC_X6 [(0, person_0), (0, hour_0)] this_0 [] (m_X6_paysOf Fu Λ this_0 person_0 hour_0 h17 _ e20) kD_X6_paysOf kI_X6_paysOf rfl wM_X6_134 ⟨rfl, rfl⟩ ⟨by decide, by decide⟩ (Nat.le_of_ble_eq_true rfl) rfl dX6_pays_34 ?_
    cases hf
    exact fx_ireturn (pc := 37) F K dX6_pays_37
  refine fx_aload_n (pc := 0) (t := 6) F 0 rfl rfl dX6_pays_0 ?_
  refine fx_iload_n (pc := 1) F 1 rfl rfl dX6_pays_1 ?_
  obtain ⟨v5, e6, e2⟩ := fx_bnd e2
  refine fx_cV (pc := 2) F 6 kC_X6 [(0, person_0)] this_0 [] (m_X6_isOne Fu Λ this_0 person_0 h _ e6) kD_X6_isOne kI_X6_isOne rfl wM_X6_102 ⟨rfl, rfl⟩ ⟨by decide, by decide⟩ (Nat.le_of_ble_eq_true rfl) rfl dX6_pays_2 ?_
  refine fx_jzeq (pc := 5) F 16 (by decide) dX6_pays_5 (fun c7 => ?_) (fun c7 => ?_)
  · have e2 := (if_pos c7).symm.trans e2
    cases e2
    exact hT3 (by decide)
  · have e2 := (if_neg c7).symm.trans e2
    refine fx_aload_n (pc := 8) (t := 6) F 0 rfl rfl dX6_pays_8 ?_
    refine fx_iload_n (pc := 9) F 2 rfl rfl dX6_pays_9 ?_
    obtain ⟨v8, e9, e2⟩ := fx_bnd e2
    refine fx_cV (pc := 10) F 6 kC_X6 [(0, hour_0)] this_0 [] (m_X6_isHour Fu Λ this_0 hour_0 h _ e9) kD_X6_isHour kI_X6_isHour rfl wM_X6_97 ⟨rfl, rfl⟩ ⟨by decide, by decide⟩ (Nat.le_of_ble_eq_true rfl) rfl dX6_pays_10 ?_
    refine fx_nzeq (pc := 13) F 23 (by decide) dX6_pays_13 (fun c10 => ?_) (fun c10 => ?_)
    · have e2 := (if_pos c10).symm.trans e2
      cases e2
      exact hT3 (by decide)
    · have e2 := (if_neg c10).symm.trans e2
      cases e2
      exact hF4 (by decide)
def f_X6_all (Fu : Nat) (Λ : fx_L) (this_0 : Int) (h : fx_H) : Option (Int × fx_H) :=
  (f_X6_layNow Fu Λ this_0 h).bind fun h1 =>
  (f_X6_takeDone Fu Λ this_0 h1).bind fun h3 =>
  (f_X6_hours Fu Λ this_0 h3).bind fun v5 =>
  (f_X6_allIn Fu Λ this_0 v5 h3).bind fun v7 =>
  some (v7, h3)
abbrev rm_X6_all : Room := { frames := 5, cells := 0, slots := 0, locals := 124 }
set_option maxRecDepth 100000 in
set_option maxHeartbeats 4000000 in
theorem m_X6_all (Fu : Nat) (Λ : fx_L) (this_0 : Int) (h : fx_H) (r : Int) (ho : fx_H) (hf : f_X6_all Fu Λ this_0 h = some (r, ho)) : fx_Met yX6_all cX6_all 1 (some .int) rm_X6_all Λ [(8, this_0)] h (some (0, r)) ho := by
  unfold f_X6_all at hf
  refine fx_enter (ls := [some (8, this_0)]) (by decide) (Nat.le_of_ble_eq_true rfl) rfl (fun M G F K => ?_)
  refine fx_aload_n (pc := 0) (t := 6) F 0 rfl rfl dX6_all_0 ?_
  obtain ⟨h1, e2, hf⟩ := fx_bnd hf
  refine fx_cVv (pc := 1) F 6 kC_X6 [] this_0 [] (m_X6_layNow Fu Λ this_0 h _ e2) kD_X6_layNow kI_X6_layNow rfl wM_X6_119 ⟨rfl, rfl⟩ ⟨by decide, by decide⟩ (Nat.le_of_ble_eq_true rfl) rfl dX6_all_1 ?_
  refine fx_aload_n (pc := 4) (t := 6) F 0 rfl rfl dX6_all_4 ?_
  obtain ⟨h3, e4, hf⟩ := fx_bnd hf
  refine fx_cVv (pc := 5) F 6 kC_X6 [] this_0 [] (m_X6_takeDone Fu Λ this_0 h1 _ e4) kD_X6_takeDone kI_X6_takeDone rfl wM_X6_140 ⟨rfl, rfl⟩ ⟨by decide, by decide⟩ (Nat.le_of_ble_eq_true rfl) rfl dX6_all_5 ?_
  refine fx_aload_n (pc := 8) (t := 6) F 0 rfl rfl dX6_all_8 ?_
  refine fx_aload_n (pc := 9) (t := 6) F 0 rfl rfl dX6_all_9 ?_
  obtain ⟨v5, e6, hf⟩ := fx_bnd hf
  refine fx_cV (pc := 10) F 6 kC_X6 [] this_0 [(8, this_0)] (m_X6_hours Fu Λ this_0 h3 _ e6) kD_X6_hours kI_X6_hours rfl wM_X6_81 ⟨rfl, rfl⟩ ⟨by decide, by decide⟩ (Nat.le_of_ble_eq_true rfl) rfl dX6_all_10 ?_
  obtain ⟨v7, e8, hf⟩ := fx_bnd hf
  refine fx_cV (pc := 13) F 6 kC_X6 [(0, v5)] this_0 [] (m_X6_allIn Fu Λ this_0 v5 h3 _ e8) kD_X6_allIn kI_X6_allIn rfl wM_X6_143 ⟨rfl, rfl⟩ ⟨by decide, by decide⟩ (Nat.le_of_ble_eq_true rfl) rfl dX6_all_13 ?_
  cases hf
  exact fx_ireturn (pc := 16) F K dX6_all_16
def s_X6_takeNeeds_1 (Fu : Nat) (Λ : fx_L) (this_4 : Int) (p_5 : Int) : Int × Int × fx_H → Option ((Int × Int × fx_H) ⊕ (Int × Int × fx_H)) := fun (sum_1, t_2, h3) =>
  if t_2 < 9 then
    (fx_rd Λ h3 (fx_tg Λ this_4 0) (fx_w ((fx_w (44 + (fx_w (9 * p_5)))) + t_2))).bind fun v8 =>
    (fx_wr Λ h3 (fx_tg Λ this_4 11) t_2 v8).bind fun h10 =>
    (fx_rd Λ h10 (fx_tg Λ this_4 11) t_2).bind fun v12 =>
    some (.inl ((fx_w (sum_1 + v12)), (fx_w (t_2 + 1)), h10))
  else
    some (.inr (sum_1, t_2, h3))
def f_X6_takeNeeds (Fu : Nat) (Λ : fx_L) (this_0 : Int) (p_0 : Int) (many_0 : Int) (h : fx_H) : Option (fx_H) :=
  Option.bind (fx_loop (s_X6_takeNeeds_1 Fu Λ this_0 p_0) Fu (0, 0, h)) fun (sum_25, t_26, h27) =>
  (fx_wr Λ h27 (fx_tg Λ this_0 11) 9 (fx_w (many_0 - sum_25))).bind fun h30 =>
  some h30
abbrev rm_X6_takeNeeds : Room := { frames := 0, cells := 0, slots := 0, locals := 0 }
set_option maxRecDepth 100000 in
set_option maxHeartbeats 4000000 in
theorem m_X6_takeNeeds (Fu : Nat) (Λ : fx_L) (this_0 : Int) (p_0 : Int) (many_0 : Int) (h : fx_H) (ho : fx_H) (hf : f_X6_takeNeeds Fu Λ this_0 p_0 many_0 h = some ho) : fx_Met yX6_takeNeeds cX6_takeNeeds 5 none rm_X6_takeNeeds Λ [(8, this_0), (0, p_0), (0, many_0)] h none ho := by
  unfold f_X6_takeNeeds at hf
  refine fx_enter (ls := [some (8, this_0), some (0, p_0), some (0, many_0), none, none]) (by decide) (Nat.le_of_ble_eq_true rfl) rfl (fun M G F K => ?_)
  refine fx_iconst (pc := 0) F ⟨by decide, by decide⟩ dX6_takeNeeds_0 ?_
  refine fx_istore_n (pc := 1) (ls' := [some (8, this_0), some (0, p_0), some (0, many_0), some (0, 0), none]) F 3 rfl (by decide) rfl rfl dX6_takeNeeds_1 ?_
  refine fx_iconst (pc := 2) F ⟨by decide, by decide⟩ dX6_takeNeeds_2 ?_
  refine fx_istore (pc := 3) (ls' := [some (8, this_0), some (0, p_0), some (0, many_0), some (0, 0), some (0, 0)]) F (by decide) rfl rfl dX6_takeNeeds_3 ?_
  obtain ⟨⟨sum_25, t_26, h27⟩, e28, hf⟩ := fx_bnd hf
  have hE29 : fx_J M G Λ 5 50 [some (8, this_0), some (0, p_0), some (0, many_0), some (0, sum_25), some (0, t_26)] [] h27 := by
    refine fx_aload_n (pc := 50) (t := 6) F 0 rfl rfl dX6_takeNeeds_50 ?_
    refine fx_gR (pc := 51) F 6 11 11 8 rfl kC_X6 (by decide) rfl wF_X6_42 dX6_takeNeeds_51 ?_
    refine fx_bipush (pc := 54) F ⟨by decide, by decide⟩ (by decide) dX6_takeNeeds_54 ?_
    refine fx_iload_n (pc := 56) F 2 rfl rfl dX6_takeNeeds_56 ?_
    refine fx_iload_n (pc := 57) F 3 rfl rfl dX6_takeNeeds_57 ?_
    refine fx_isub (pc := 58) F dX6_takeNeeds_58 ?_
    obtain ⟨h30, e31, hf⟩ := fx_bnd hf
    refine fx_rastI (pc := 59) F e31 dX6_takeNeeds_59 ?_
    cases hf
    exact fx_vreturn (pc := 60) F K dX6_takeNeeds_60
  refine fx_loop_J (Hd := (fun z : Int × Int × fx_H => fx_J M G Λ 5 5 [some (8, this_0), some (0, p_0), some (0, many_0), some (0, z.1), some (0, z.2.1)] [] z.2.2)) (Ex := (fun z : Int × Int × fx_H => fx_J M G Λ 5 50 [some (8, this_0), some (0, p_0), some (0, many_0), some (0, z.1), some (0, z.2.1)] [] z.2.2)) ?_ Fu _ _ e28 hE29
  rintro ⟨sum_14, t_15, h16⟩ o9 eq17 ih ex
  unfold s_X6_takeNeeds_1 at eq17
  show fx_J M G Λ 5 5 [some (8, this_0), some (0, p_0), some (0, many_0), some (0, sum_14), some (0, t_15)] [] h16
  refine fx_iload (pc := 5) F rfl dX6_takeNeeds_5 ?_
  refine fx_bipush (pc := 7) F ⟨by decide, by decide⟩ (by decide) dX6_takeNeeds_7 ?_
  refine fx_nlt (pc := 9) F 50 (by decide) dX6_takeNeeds_9 (fun c18 => ?_) (fun c18 => ?_)
  · have eq17 := (if_pos c18).symm.trans eq17
    refine fx_aload_n (pc := 12) (t := 6) F 0 rfl rfl dX6_takeNeeds_12 ?_
    refine fx_gR (pc := 13) F 6 11 11 8 rfl kC_X6 (by decide) rfl wF_X6_42 dX6_takeNeeds_13 ?_
    refine fx_iload (pc := 16) F rfl dX6_takeNeeds_16 ?_
    refine fx_aload_n (pc := 18) (t := 6) F 0 rfl rfl dX6_takeNeeds_18 ?_
    refine fx_gR (pc := 19) F 6 0 0 8 rfl kC_X6 (by decide) rfl wF_X6_7 dX6_takeNeeds_19 ?_
    refine fx_bipush (pc := 22) F ⟨by decide, by decide⟩ (by decide) dX6_takeNeeds_22 ?_
    refine fx_bipush (pc := 24) F ⟨by decide, by decide⟩ (by decide) dX6_takeNeeds_24 ?_
    refine fx_iload_n (pc := 26) F 1 rfl rfl dX6_takeNeeds_26 ?_
    refine fx_imul (pc := 27) F dX6_takeNeeds_27 ?_
    refine fx_iadd (pc := 28) F dX6_takeNeeds_28 ?_
    refine fx_iload (pc := 29) F rfl dX6_takeNeeds_29 ?_
    refine fx_iadd (pc := 31) F dX6_takeNeeds_31 ?_
    obtain ⟨v19, e20, eq17⟩ := fx_bnd eq17
    refine fx_raldI (pc := 32) F e20 dX6_takeNeeds_32 ?_
    obtain ⟨h21, e22, eq17⟩ := fx_bnd eq17
    refine fx_rastI (pc := 33) F e22 dX6_takeNeeds_33 ?_
    refine fx_iload_n (pc := 34) F 3 rfl rfl dX6_takeNeeds_34 ?_
    refine fx_aload_n (pc := 35) (t := 6) F 0 rfl rfl dX6_takeNeeds_35 ?_
    refine fx_gR (pc := 36) F 6 11 11 8 rfl kC_X6 (by decide) rfl wF_X6_42 dX6_takeNeeds_36 ?_
    refine fx_iload (pc := 39) F rfl dX6_takeNeeds_39 ?_
    obtain ⟨v23, e24, eq17⟩ := fx_bnd eq17
    refine fx_raldI (pc := 41) F e24 dX6_takeNeeds_41 ?_
    refine fx_iadd (pc := 42) F dX6_takeNeeds_42 ?_
    refine fx_istore_n (pc := 43) (ls' := [some (8, this_0), some (0, p_0), some (0, many_0), some (0, (fx_w (sum_14 + v23))), some (0, t_15)]) F 3 rfl (by decide) rfl rfl dX6_takeNeeds_43 ?_
    refine fx_iinc (pc := 44) (ls' := [some (8, this_0), some (0, p_0), some (0, many_0), some (0, (fx_w (sum_14 + v23))), some (0, (fx_w (t_15 + 1)))]) F (by decide) rfl rfl rfl dX6_takeNeeds_44 ?_
    refine fx_goto (pc := 47) F 5 (by decide) dX6_takeNeeds_47 ?_
    cases eq17
    exact ih _ rfl
  · have eq17 := (if_neg c18).symm.trans eq17
    cases eq17
    exact ex _ rfl
def s_X6_keepRow_1 (Fu : Nat) (Λ : fx_L) (this_5 : Int) (many_6 : Int) (at_7 : Int) : Int × fx_H → Option ((Int × fx_H) ⊕ (Int × fx_H)) := fun (h_3, h4) =>
  if h_3 < many_6 then
    Option.bind (
      (fx_rd Λ h4 (fx_tg Λ this_5 12) h_3).bind fun v13 =>
      if v13 = 9 then
        some (-1)
      else
        (fx_rd Λ h4 (fx_tg Λ this_5 12) h_3).bind fun v16 =>
        some v16
    ) fun v10 =>
    (fx_wr Λ h4 (fx_tg Λ this_5 9) (fx_w (at_7 + h_3)) v10).bind fun h18 =>
    some (.inl ((fx_w (h_3 + 1)), h18))
  else
    some (.inr (h_3, h4))
def f_X6_keepRow (Fu : Nat) (Λ : fx_L) (this_0 : Int) (p_0 : Int) (many_0 : Int) (h : fx_H) : Option (fx_H) :=
  (fx_rd Λ h (fx_tg Λ this_0 10) p_0).bind fun v1 =>
  Option.bind (fx_loop (s_X6_keepRow_1 Fu Λ this_0 many_0 (fx_w (5 * (fx_w ((fx_w (120 * p_0)) + v1))))) Fu (0, h)) fun (h_34, h35) =>
  (fx_rd Λ h35 (fx_tg Λ this_0 10) p_0).bind fun v38 =>
  (fx_wr Λ h35 (fx_tg Λ this_0 10) p_0 (fx_w (v38 + 1))).bind fun h40 =>
  some h40
abbrev rm_X6_keepRow : Room := { frames := 0, cells := 0, slots := 0, locals := 0 }
set_option maxRecDepth 100000 in
set_option maxHeartbeats 4000000 in
theorem m_X6_keepRow (Fu : Nat) (Λ : fx_L) (this_0 : Int) (p_0 : Int) (many_0 : Int) (h : fx_H) (ho : fx_H) (hf : f_X6_keepRow Fu Λ this_0 p_0 many_0 h = some ho) : fx_Met yX6_keepRow cX6_keepRow 5 none rm_X6_keepRow Λ [(8, this_0), (0, p_0), (0, many_0)] h none ho := by
  unfold f_X6_keepRow at hf
  refine fx_enter (ls := [some (8, this_0), some (0, p_0), some (0, many_0), none, none]) (by decide) (Nat.le_of_ble_eq_true rfl) rfl (fun M G F K => ?_)
  refine fx_iconst (pc := 0) F ⟨by decide, by decide⟩ dX6_keepRow_0 ?_
  refine fx_bipush (pc := 1) F ⟨by decide, by decide⟩ (by decide) dX6_keepRow_1 ?_
  refine fx_iload_n (pc := 3) F 1 rfl rfl dX6_keepRow_3 ?_
  refine fx_imul (pc := 4) F dX6_keepRow_4 ?_
  refine fx_aload_n (pc := 5) (t := 6) F 0 rfl rfl dX6_keepRow_5 ?_
  refine fx_gR (pc := 6) F 6 10 10 8 rfl kC_X6 (by decide) rfl wF_X6_39 dX6_keepRow_6 ?_
  refine fx_iload_n (pc := 9) F 1 rfl rfl dX6_keepRow_9 ?_
  obtain ⟨v1, e2, hf⟩ := fx_bnd hf
  refine fx_raldI (pc := 10) F e2 dX6_keepRow_10 ?_
  refine fx_iadd (pc := 11) F dX6_keepRow_11 ?_
  refine fx_imul (pc := 12) F dX6_keepRow_12 ?_
  refine fx_istore_n (pc := 13) (ls' := [some (8, this_0), some (0, p_0), some (0, many_0), some (0, (fx_w (5 * (fx_w ((fx_w (120 * p_0)) + v1))))), none]) F 3 rfl (by decide) rfl rfl dX6_keepRow_13 ?_
  refine fx_iconst (pc := 14) F ⟨by decide, by decide⟩ dX6_keepRow_14 ?_
  refine fx_istore (pc := 15) (ls' := [some (8, this_0), some (0, p_0), some (0, many_0), some (0, (fx_w (5 * (fx_w ((fx_w (120 * p_0)) + v1))))), some (0, 0)]) F (by decide) rfl rfl dX6_keepRow_15 ?_
  obtain ⟨⟨h_34, h35⟩, e36, hf⟩ := fx_bnd hf
  have hE37 : fx_J M G Λ 5 61 [some (8, this_0), some (0, p_0), some (0, many_0), some (0, (fx_w (5 * (fx_w ((fx_w (120 * p_0)) + v1))))), some (0, h_34)] [] h35 := by
    refine fx_aload_n (pc := 61) (t := 6) F 0 rfl rfl dX6_keepRow_61 ?_
    refine fx_gR (pc := 62) F 6 10 10 8 rfl kC_X6 (by decide) rfl wF_X6_39 dX6_keepRow_62 ?_
    refine fx_iload_n (pc := 65) F 1 rfl rfl dX6_keepRow_65 ?_
    refine fx_dup2 (pc := 66) F (show (0 : Nat) ≠ 1 by decide) (show (10 : Nat) ≠ 1 by decide) dX6_keepRow_66 ?_
    obtain ⟨v38, e39, hf⟩ := fx_bnd hf
    refine fx_raldI (pc := 67) F e39 dX6_keepRow_67 ?_
    refine fx_iconst (pc := 68) F ⟨by decide, by decide⟩ dX6_keepRow_68 ?_
    refine fx_iadd (pc := 69) F dX6_keepRow_69 ?_
    obtain ⟨h40, e41, hf⟩ := fx_bnd hf
    refine fx_rastI (pc := 70) F e41 dX6_keepRow_70 ?_
    cases hf
    exact fx_vreturn (pc := 71) F K dX6_keepRow_71
  refine fx_loop_J (Hd := (fun z : Int × fx_H => fx_J M G Λ 5 17 [some (8, this_0), some (0, p_0), some (0, many_0), some (0, (fx_w (5 * (fx_w ((fx_w (120 * p_0)) + v1))))), some (0, z.1)] [] z.2)) (Ex := (fun z : Int × fx_H => fx_J M G Λ 5 61 [some (8, this_0), some (0, p_0), some (0, many_0), some (0, (fx_w (5 * (fx_w ((fx_w (120 * p_0)) + v1))))), some (0, z.1)] [] z.2)) ?_ Fu _ _ e36 hE37
  rintro ⟨h_20, h21⟩ o9 eq22 ih ex
  unfold s_X6_keepRow_1 at eq22
  show fx_J M G Λ 5 17 [some (8, this_0), some (0, p_0), some (0, many_0), some (0, (fx_w (5 * (fx_w ((fx_w (120 * p_0)) + v1))))), some (0, h_20)] [] h21
  refine fx_iload (pc := 17) F rfl dX6_keepRow_17 ?_
  refine fx_iload_n (pc := 19) F 2 rfl rfl dX6_keepRow_19 ?_
  refine fx_nlt (pc := 20) F 61 (by decide) dX6_keepRow_20 (fun c23 => ?_) (fun c23 => ?_)
  · have eq22 := (if_pos c23).symm.trans eq22
    refine fx_aload_n (pc := 23) (t := 6) F 0 rfl rfl dX6_keepRow_23 ?_
    refine fx_gR (pc := 24) F 6 9 9 8 rfl kC_X6 (by decide) rfl wF_X6_36 dX6_keepRow_24 ?_
    refine fx_iload_n (pc := 27) F 3 rfl rfl dX6_keepRow_27 ?_
    refine fx_iload (pc := 28) F rfl dX6_keepRow_28 ?_
    refine fx_iadd (pc := 30) F dX6_keepRow_30 ?_
    obtain ⟨v24, e25, eq22⟩ := fx_bnd eq22
    have hJ26 : fx_J M G Λ 5 54 [some (8, this_0), some (0, p_0), some (0, many_0), some (0, (fx_w (5 * (fx_w ((fx_w (120 * p_0)) + v1))))), some (0, h_20)] [(0, v24), (0, (fx_w ((fx_w (5 * (fx_w ((fx_w (120 * p_0)) + v1)))) + h_20))), (10, (fx_tg Λ this_0 9))] h21 := by
      obtain ⟨h32, e33, eq22⟩ := fx_bnd eq22
      refine fx_rastI (pc := 54) F e33 dX6_keepRow_54 ?_
      refine fx_iinc (pc := 55) (ls' := [some (8, this_0), some (0, p_0), some (0, many_0), some (0, (fx_w (5 * (fx_w ((fx_w (120 * p_0)) + v1))))), some (0, (fx_w (h_20 + 1)))]) F (by decide) rfl rfl rfl dX6_keepRow_55 ?_
      refine fx_goto (pc := 58) F 17 (by decide) dX6_keepRow_58 ?_
      cases eq22
      exact ih _ rfl
    refine fx_aload_n (pc := 31) (t := 6) F 0 rfl rfl dX6_keepRow_31 ?_
    refine fx_gR (pc := 32) F 6 12 12 8 rfl kC_X6 (by decide) rfl wF_X6_45 dX6_keepRow_32 ?_
    refine fx_iload (pc := 35) F rfl dX6_keepRow_35 ?_
    obtain ⟨v27, e28, e25⟩ := fx_bnd e25
    refine fx_raldI (pc := 37) F e28 dX6_keepRow_37 ?_
    refine fx_bipush (pc := 38) F ⟨by decide, by decide⟩ (by decide) dX6_keepRow_38 ?_
    refine fx_neq (pc := 40) F 47 (by decide) dX6_keepRow_40 (fun c29 => ?_) (fun c29 => ?_)
    · have e25 := (if_pos c29).symm.trans e25
      refine fx_iconst (pc := 43) F ⟨by decide, by decide⟩ dX6_keepRow_43 ?_
      cases e25
      refine fx_goto (pc := 44) F 54 (by decide) dX6_keepRow_44 ?_
      exact hJ26
    · have e25 := (if_neg c29).symm.trans e25
      refine fx_aload_n (pc := 47) (t := 6) F 0 rfl rfl dX6_keepRow_47 ?_
      refine fx_gR (pc := 48) F 6 12 12 8 rfl kC_X6 (by decide) rfl wF_X6_45 dX6_keepRow_48 ?_
      refine fx_iload (pc := 51) F rfl dX6_keepRow_51 ?_
      obtain ⟨v30, e31, e25⟩ := fx_bnd e25
      refine fx_raldI (pc := 53) F e31 dX6_keepRow_53 ?_
      cases e25
      exact hJ26
  · have eq22 := (if_neg c23).symm.trans eq22
    cases eq22
    exact ex _ rfl
def s_X6_findRows_2 (Fu : Nat) (Λ : fx_L) (this_30 : Int) (h_31 : Int) : fx_H → Option ((fx_H) ⊕ (fx_H)) := fun h29 =>
  (fx_rd Λ h29 (fx_tg Λ this_30 12) h_31).bind fun v33 =>
  (fx_wr Λ h29 (fx_tg Λ this_30 12) h_31 (fx_w (v33 + 1))).bind fun h35 =>
  Option.bind (
    (fx_rd Λ h35 (fx_tg Λ this_30 12) h_31).bind fun v41 =>
    if v41 ≤ 9 then
      (fx_rd Λ h35 (fx_tg Λ this_30 12) h_31).bind fun v44 =>
      (fx_rd Λ h35 (fx_tg Λ this_30 11) v44).bind fun v46 =>
      if v46 = 0 then
        some true
      else
        some false
    else
      some false
  ) fun b37 =>
  if b37 = true then
    some (.inl h35)
  else
    some (.inr h35)
def s_X6_findRows_1 (Fu : Nat) (Λ : fx_L) (this_12 : Int) (p_13 : Int) (many_14 : Int) : Int × fx_H → Option ((Int × fx_H) ⊕ (Int × fx_H)) := fun (h_10, h11) =>
  if 0 ≤ h_10 then
    Option.bind (
      (fx_rd Λ h11 (fx_tg Λ this_12 12) h_10).bind fun v20 =>
      if ¬ v20 = (-1) then
        (fx_rd Λ h11 (fx_tg Λ this_12 12) h_10).bind fun v23 =>
        (fx_rd Λ h11 (fx_tg Λ this_12 11) v23).bind fun v25 =>
        (fx_wr Λ h11 (fx_tg Λ this_12 11) v23 (fx_w (v25 + 1))).bind fun h27 =>
        some h27
      else
        some h11
    ) fun h17 =>
    Option.bind (fx_loop (s_X6_findRows_2 Fu Λ this_12 h_10) Fu h17) fun h69 =>
    (fx_rd Λ h69 (fx_tg Λ this_12 12) h_10).bind fun v72 =>
    if 9 < v72 then
      some (.inl ((fx_w (h_10 + (-1))), h69))
    else
      (fx_rd Λ h69 (fx_tg Λ this_12 12) h_10).bind fun v75 =>
      (fx_rd Λ h69 (fx_tg Λ this_12 11) v75).bind fun v77 =>
      (fx_wr Λ h69 (fx_tg Λ this_12 11) v75 (fx_w (v77 - 1))).bind fun h79 =>
      if h_10 = (fx_w (many_14 - 1)) then
        (f_X6_keepRow Fu Λ this_12 p_13 many_14 h79).bind fun h82 =>
        some (.inl (h_10, h82))
      else
        (fx_wr Λ h79 (fx_tg Λ this_12 12) (fx_w (h_10 + 1)) (-1)).bind fun h84 =>
        some (.inl ((fx_w (h_10 + 1)), h84))
  else
    some (.inr (h_10, h11))
def f_X6_findRows (Fu : Nat) (Λ : fx_L) (this_0 : Int) (p_0 : Int) (many_0 : Int) (h : fx_H) : Option (fx_H) :=
  (f_X6_takeNeeds Fu Λ this_0 p_0 many_0 h).bind fun h1 =>
  (fx_wr Λ h1 (fx_tg Λ this_0 10) p_0 0).bind fun h3 =>
  (fx_rd Λ h3 (fx_tg Λ this_0 11) 9).bind fun v5 =>
  if v5 < 0 then
    some h3
  else
    (fx_wr Λ h3 (fx_tg Λ this_0 12) 0 (-1)).bind fun h8 =>
    Option.bind (fx_loop (s_X6_findRows_1 Fu Λ this_0 p_0 many_0) Fu (0, h8)) fun (h_159, h160) =>
    some h160
abbrev rm_X6_findRows : Room := { frames := 1, cells := 0, slots := 0, locals := 24 }
set_option maxRecDepth 100000 in
set_option maxHeartbeats 4000000 in
theorem m_X6_findRows (Fu : Nat) (Λ : fx_L) (this_0 : Int) (p_0 : Int) (many_0 : Int) (h : fx_H) (ho : fx_H) (hf : f_X6_findRows Fu Λ this_0 p_0 many_0 h = some ho) : fx_Met yX6_findRows cX6_findRows 4 none rm_X6_findRows Λ [(8, this_0), (0, p_0), (0, many_0)] h none ho := by
  unfold f_X6_findRows at hf
  refine fx_enter (ls := [some (8, this_0), some (0, p_0), some (0, many_0), none]) (by decide) (Nat.le_of_ble_eq_true rfl) rfl (fun M G F K => ?_)
  refine fx_aload_n (pc := 0) (t := 6) F 0 rfl rfl dX6_findRows_0 ?_
  refine fx_iload_n (pc := 1) F 1 rfl rfl dX6_findRows_1 ?_
  refine fx_iload_n (pc := 2) F 2 rfl rfl dX6_findRows_2 ?_
  obtain ⟨h1, e2, hf⟩ := fx_bnd hf
  refine fx_cVv (pc := 3) F 6 kC_X6 [(0, p_0), (0, many_0)] this_0 [] (m_X6_takeNeeds Fu Λ this_0 p_0 many_0 h _ e2) kD_X6_takeNeeds kI_X6_takeNeeds rfl wM_X6_146 ⟨rfl, rfl⟩ ⟨by decide, by decide⟩ (Nat.le_of_ble_eq_true rfl) rfl dX6_findRows_3 ?_
  refine fx_aload_n (pc := 6) (t := 6) F 0 rfl rfl dX6_findRows_6 ?_
  refine fx_gR (pc := 7) F 6 10 10 8 rfl kC_X6 (by decide) rfl wF_X6_39 dX6_findRows_7 ?_
  refine fx_iload_n (pc := 10) F 1 rfl rfl dX6_findRows_10 ?_
  refine fx_iconst (pc := 11) F ⟨by decide, by decide⟩ dX6_findRows_11 ?_
  obtain ⟨h3, e4, hf⟩ := fx_bnd hf
  refine fx_rastI (pc := 12) F e4 dX6_findRows_12 ?_
  refine fx_aload_n (pc := 13) (t := 6) F 0 rfl rfl dX6_findRows_13 ?_
  refine fx_gR (pc := 14) F 6 11 11 8 rfl kC_X6 (by decide) rfl wF_X6_42 dX6_findRows_14 ?_
  refine fx_bipush (pc := 17) F ⟨by decide, by decide⟩ (by decide) dX6_findRows_17 ?_
  obtain ⟨v5, e6, hf⟩ := fx_bnd hf
  refine fx_raldI (pc := 19) F e6 dX6_findRows_19 ?_
  refine fx_nzlt (pc := 20) F 24 (by decide) dX6_findRows_20 (fun c7 => ?_) (fun c7 => ?_)
  · have hf := (if_pos c7).symm.trans hf
    cases hf
    exact fx_vreturn (pc := 23) F K dX6_findRows_23
  · have hf := (if_neg c7).symm.trans hf
    refine fx_iconst (pc := 24) F ⟨by decide, by decide⟩ dX6_findRows_24 ?_
    refine fx_istore_n (pc := 25) (ls' := [some (8, this_0), some (0, p_0), some (0, many_0), some (0, 0)]) F 3 rfl (by decide) rfl rfl dX6_findRows_25 ?_
    refine fx_aload_n (pc := 26) (t := 6) F 0 rfl rfl dX6_findRows_26 ?_
    refine fx_gR (pc := 27) F 6 12 12 8 rfl kC_X6 (by decide) rfl wF_X6_45 dX6_findRows_27 ?_
    refine fx_iconst (pc := 30) F ⟨by decide, by decide⟩ dX6_findRows_30 ?_
    refine fx_iconst (pc := 31) F ⟨by decide, by decide⟩ dX6_findRows_31 ?_
    obtain ⟨h8, e9, hf⟩ := fx_bnd hf
    refine fx_rastI (pc := 32) F e9 dX6_findRows_32 ?_
    obtain ⟨⟨h_159, h160⟩, e161, hf⟩ := fx_bnd hf
    have hE162 : fx_J M G Λ 4 158 [some (8, this_0), some (0, p_0), some (0, many_0), some (0, h_159)] [] h160 := by
      cases hf
      exact fx_vreturn (pc := 158) F K dX6_findRows_158
    refine fx_loop_J (Hd := (fun z : Int × fx_H => fx_J M G Λ 4 33 [some (8, this_0), some (0, p_0), some (0, many_0), some (0, z.1)] [] z.2)) (Ex := (fun z : Int × fx_H => fx_J M G Λ 4 158 [some (8, this_0), some (0, p_0), some (0, many_0), some (0, z.1)] [] z.2)) ?_ Fu _ _ e161 hE162
    rintro ⟨h_86, h87⟩ o9 eq88 ih ex
    unfold s_X6_findRows_1 at eq88
    show fx_J M G Λ 4 33 [some (8, this_0), some (0, p_0), some (0, many_0), some (0, h_86)] [] h87
    refine fx_iload_n (pc := 33) F 3 rfl rfl dX6_findRows_33 ?_
    refine fx_nzge (pc := 34) F 158 (by decide) dX6_findRows_34 (fun c89 => ?_) (fun c89 => ?_)
    · have eq88 := (if_pos c89).symm.trans eq88
      obtain ⟨h90, e91, eq88⟩ := fx_bnd eq88
      have hJ92 : fx_J M G Λ 4 62 [some (8, this_0), some (0, p_0), some (0, many_0), some (0, h_86)] [] h90 := by
        obtain ⟨h142, e143, eq88⟩ := fx_bnd eq88
        have hE144 : fx_J M G Λ 4 97 [some (8, this_0), some (0, p_0), some (0, many_0), some (0, h_86)] [] h142 := by
          refine fx_aload_n (pc := 97) (t := 6) F 0 rfl rfl dX6_findRows_97 ?_
          refine fx_gR (pc := 98) F 6 12 12 8 rfl kC_X6 (by decide) rfl wF_X6_45 dX6_findRows_98 ?_
          refine fx_iload_n (pc := 101) F 3 rfl rfl dX6_findRows_101 ?_
          obtain ⟨v145, e146, eq88⟩ := fx_bnd eq88
          refine fx_raldI (pc := 102) F e146 dX6_findRows_102 ?_
          refine fx_bipush (pc := 103) F ⟨by decide, by decide⟩ (by decide) dX6_findRows_103 ?_
          refine fx_ngt (pc := 105) F 114 (by decide) dX6_findRows_105 (fun c147 => ?_) (fun c147 => ?_)
          · have eq88 := (if_pos c147).symm.trans eq88
            refine fx_iinc (pc := 108) (ls' := [some (8, this_0), some (0, p_0), some (0, many_0), some (0, (fx_w (h_86 + (-1))))]) F (by decide) rfl rfl rfl dX6_findRows_108 ?_
            refine fx_goto (pc := 111) F 33 (by decide) dX6_findRows_111 ?_
            cases eq88
            exact ih _ rfl
          · have eq88 := (if_neg c147).symm.trans eq88
            refine fx_aload_n (pc := 114) (t := 6) F 0 rfl rfl dX6_findRows_114 ?_
            refine fx_gR (pc := 115) F 6 11 11 8 rfl kC_X6 (by decide) rfl wF_X6_42 dX6_findRows_115 ?_
            refine fx_aload_n (pc := 118) (t := 6) F 0 rfl rfl dX6_findRows_118 ?_
            refine fx_gR (pc := 119) F 6 12 12 8 rfl kC_X6 (by decide) rfl wF_X6_45 dX6_findRows_119 ?_
            refine fx_iload_n (pc := 122) F 3 rfl rfl dX6_findRows_122 ?_
            obtain ⟨v148, e149, eq88⟩ := fx_bnd eq88
            refine fx_raldI (pc := 123) F e149 dX6_findRows_123 ?_
            refine fx_dup2 (pc := 124) F (show (0 : Nat) ≠ 1 by decide) (show (10 : Nat) ≠ 1 by decide) dX6_findRows_124 ?_
            obtain ⟨v150, e151, eq88⟩ := fx_bnd eq88
            refine fx_raldI (pc := 125) F e151 dX6_findRows_125 ?_
            refine fx_iconst (pc := 126) F ⟨by decide, by decide⟩ dX6_findRows_126 ?_
            refine fx_isub (pc := 127) F dX6_findRows_127 ?_
            obtain ⟨h152, e153, eq88⟩ := fx_bnd eq88
            refine fx_rastI (pc := 128) F e153 dX6_findRows_128 ?_
            refine fx_iload_n (pc := 129) F 3 rfl rfl dX6_findRows_129 ?_
            refine fx_iload_n (pc := 130) F 2 rfl rfl dX6_findRows_130 ?_
            refine fx_iconst (pc := 131) F ⟨by decide, by decide⟩ dX6_findRows_131 ?_
            refine fx_isub (pc := 132) F dX6_findRows_132 ?_
            refine fx_neq (pc := 133) F 145 (by decide) dX6_findRows_133 (fun c154 => ?_) (fun c154 => ?_)
            · have eq88 := (if_pos c154).symm.trans eq88
              refine fx_aload_n (pc := 136) (t := 6) F 0 rfl rfl dX6_findRows_136 ?_
              refine fx_iload_n (pc := 137) F 1 rfl rfl dX6_findRows_137 ?_
              refine fx_iload_n (pc := 138) F 2 rfl rfl dX6_findRows_138 ?_
              obtain ⟨h155, e156, eq88⟩ := fx_bnd eq88
              refine fx_cVv (pc := 139) F 6 kC_X6 [(0, p_0), (0, many_0)] this_0 [] (m_X6_keepRow Fu Λ this_0 p_0 many_0 h152 _ e156) kD_X6_keepRow kI_X6_keepRow rfl wM_X6_149 ⟨rfl, rfl⟩ ⟨by decide, by decide⟩ (Nat.le_of_ble_eq_true rfl) rfl dX6_findRows_139 ?_
              refine fx_goto (pc := 142) F 33 (by decide) dX6_findRows_142 ?_
              cases eq88
              exact ih _ rfl
            · have eq88 := (if_neg c154).symm.trans eq88
              refine fx_iinc (pc := 145) (ls' := [some (8, this_0), some (0, p_0), some (0, many_0), some (0, (fx_w (h_86 + 1)))]) F (by decide) rfl rfl rfl dX6_findRows_145 ?_
              refine fx_aload_n (pc := 148) (t := 6) F 0 rfl rfl dX6_findRows_148 ?_
              refine fx_gR (pc := 149) F 6 12 12 8 rfl kC_X6 (by decide) rfl wF_X6_45 dX6_findRows_149 ?_
              refine fx_iload_n (pc := 152) F 3 rfl rfl dX6_findRows_152 ?_
              refine fx_iconst (pc := 153) F ⟨by decide, by decide⟩ dX6_findRows_153 ?_
              obtain ⟨h157, e158, eq88⟩ := fx_bnd eq88
              refine fx_rastI (pc := 154) F e158 dX6_findRows_154 ?_
              refine fx_goto (pc := 155) F 33 (by decide) dX6_findRows_155 ?_
              cases eq88
              exact ih _ rfl
        refine fx_loop_J (Hd := (fun z : fx_H => fx_J M G Λ 4 62 [some (8, this_0), some (0, p_0), some (0, many_0), some (0, h_86)] [] z)) (Ex := (fun z : fx_H => fx_J M G Λ 4 97 [some (8, this_0), some (0, p_0), some (0, many_0), some (0, h_86)] [] z)) ?_ Fu _ _ e143 hE144
        rintro h123 o9 eq124 ih ex
        unfold s_X6_findRows_2 at eq124
        show fx_J M G Λ 4 62 [some (8, this_0), some (0, p_0), some (0, many_0), some (0, h_86)] [] h123
        refine fx_aload_n (pc := 62) (t := 6) F 0 rfl rfl dX6_findRows_62 ?_
        refine fx_gR (pc := 63) F 6 12 12 8 rfl kC_X6 (by decide) rfl wF_X6_45 dX6_findRows_63 ?_
        refine fx_iload_n (pc := 66) F 3 rfl rfl dX6_findRows_66 ?_
        refine fx_dup2 (pc := 67) F (show (0 : Nat) ≠ 1 by decide) (show (10 : Nat) ≠ 1 by decide) dX6_findRows_67 ?_
        obtain ⟨v125, e126, eq124⟩ := fx_bnd eq124
        refine fx_raldI (pc := 68) F e126 dX6_findRows_68 ?_
        refine fx_iconst (pc := 69) F ⟨by decide, by decide⟩ dX6_findRows_69 ?_
        refine fx_iadd (pc := 70) F dX6_findRows_70 ?_
        obtain ⟨h127, e128, eq124⟩ := fx_bnd eq124
        refine fx_rastI (pc := 71) F e128 dX6_findRows_71 ?_
        obtain ⟨b129, e130, eq124⟩ := fx_bnd eq124
        have hT131 : b129 = true → fx_J M G Λ 4 62 [some (8, this_0), some (0, p_0), some (0, many_0), some (0, h_86)] [] h127 := fun c141 => by
          have eq124 := (if_pos c141).symm.trans eq124
          cases eq124
          exact ih _ rfl
        have hF132 : ¬ b129 = true → fx_J M G Λ 4 97 [some (8, this_0), some (0, p_0), some (0, many_0), some (0, h_86)] [] h127 := fun c141 => by
          have eq124 := (if_neg c141).symm.trans eq124
          cases eq124
          exact ex _ rfl
        refine fx_aload_n (pc := 72) (t := 6) F 0 rfl rfl dX6_findRows_72 ?_
        refine fx_gR (pc := 73) F 6 12 12 8 rfl kC_X6 (by decide) rfl wF_X6_45 dX6_findRows_73 ?_
        refine fx_iload_n (pc := 76) F 3 rfl rfl dX6_findRows_76 ?_
        obtain ⟨v133, e134, e130⟩ := fx_bnd e130
        refine fx_raldI (pc := 77) F e134 dX6_findRows_77 ?_
        refine fx_bipush (pc := 78) F ⟨by decide, by decide⟩ (by decide) dX6_findRows_78 ?_
        refine fx_nle (pc := 80) F 97 (by decide) dX6_findRows_80 (fun c135 => ?_) (fun c135 => ?_)
        · have e130 := (if_pos c135).symm.trans e130
          refine fx_aload_n (pc := 83) (t := 6) F 0 rfl rfl dX6_findRows_83 ?_
          refine fx_gR (pc := 84) F 6 11 11 8 rfl kC_X6 (by decide) rfl wF_X6_42 dX6_findRows_84 ?_
          refine fx_aload_n (pc := 87) (t := 6) F 0 rfl rfl dX6_findRows_87 ?_
          refine fx_gR (pc := 88) F 6 12 12 8 rfl kC_X6 (by decide) rfl wF_X6_45 dX6_findRows_88 ?_
          refine fx_iload_n (pc := 91) F 3 rfl rfl dX6_findRows_91 ?_
          obtain ⟨v136, e137, e130⟩ := fx_bnd e130
          refine fx_raldI (pc := 92) F e137 dX6_findRows_92 ?_
          obtain ⟨v138, e139, e130⟩ := fx_bnd e130
          refine fx_raldI (pc := 93) F e139 dX6_findRows_93 ?_
          refine fx_jzeq (pc := 94) F 62 (by decide) dX6_findRows_94 (fun c140 => ?_) (fun c140 => ?_)
          · have e130 := (if_pos c140).symm.trans e130
            cases e130
            exact hT131 (by decide)
          · have e130 := (if_neg c140).symm.trans e130
            cases e130
            exact hF132 (by decide)
        · have e130 := (if_neg c135).symm.trans e130
          cases e130
          exact hF132 (by decide)
      refine fx_aload_n (pc := 37) (t := 6) F 0 rfl rfl dX6_findRows_37 ?_
      refine fx_gR (pc := 38) F 6 12 12 8 rfl kC_X6 (by decide) rfl wF_X6_45 dX6_findRows_38 ?_
      refine fx_iload_n (pc := 41) F 3 rfl rfl dX6_findRows_41 ?_
      obtain ⟨v93, e94, e91⟩ := fx_bnd e91
      refine fx_raldI (pc := 42) F e94 dX6_findRows_42 ?_
      refine fx_iconst (pc := 43) F ⟨by decide, by decide⟩ dX6_findRows_43 ?_
      refine fx_nne (pc := 44) F 62 (by decide) dX6_findRows_44 (fun c95 => ?_) (fun c95 => ?_)
      · have e91 := (if_pos c95).symm.trans e91
        refine fx_aload_n (pc := 47) (t := 6) F 0 rfl rfl dX6_findRows_47 ?_
        refine fx_gR (pc := 48) F 6 11 11 8 rfl kC_X6 (by decide) rfl wF_X6_42 dX6_findRows_48 ?_
        refine fx_aload_n (pc := 51) (t := 6) F 0 rfl rfl dX6_findRows_51 ?_
        refine fx_gR (pc := 52) F 6 12 12 8 rfl kC_X6 (by decide) rfl wF_X6_45 dX6_findRows_52 ?_
        refine fx_iload_n (pc := 55) F 3 rfl rfl dX6_findRows_55 ?_
        obtain ⟨v96, e97, e91⟩ := fx_bnd e91
        refine fx_raldI (pc := 56) F e97 dX6_findRows_56 ?_
        refine fx_dup2 (pc := 57) F (show (0 : Nat) ≠ 1 by decide) (show (10 : Nat) ≠ 1 by decide) dX6_findRows_57 ?_
        obtain ⟨v98, e99, e91⟩ := fx_bnd e91
        refine fx_raldI (pc := 58) F e99 dX6_findRows_58 ?_
        refine fx_iconst (pc := 59) F ⟨by decide, by decide⟩ dX6_findRows_59 ?_
        refine fx_iadd (pc := 60) F dX6_findRows_60 ?_
        obtain ⟨h100, e101, e91⟩ := fx_bnd e91
        refine fx_rastI (pc := 61) F e101 dX6_findRows_61 ?_
        cases e91
        exact hJ92
      · have e91 := (if_neg c95).symm.trans e91
        cases e91
        exact hJ92
    · have eq88 := (if_neg c89).symm.trans eq88
      cases eq88
      exact ex _ rfl
def s_X6_findAllRows_1 (Fu : Nat) (Λ : fx_L) (this_3 : Int) (many_4 : Int) : Int × fx_H → Option ((Int × fx_H) ⊕ (Int × fx_H)) := fun (p_1, h2) =>
  (f_X6_people Fu Λ this_3 h2).bind fun v6 =>
  if p_1 < v6 then
    (f_X6_findRows Fu Λ this_3 p_1 many_4 h2).bind fun h9 =>
    some (.inl ((fx_w (p_1 + 1)), h9))
  else
    some (.inr (p_1, h2))
def f_X6_findAllRows (Fu : Nat) (Λ : fx_L) (this_0 : Int) (many_0 : Int) (h : fx_H) : Option (fx_H) :=
  Option.bind (fx_loop (s_X6_findAllRows_1 Fu Λ this_0 many_0) Fu (0, h)) fun (p_19, h20) =>
  some h20
abbrev rm_X6_findAllRows : Room := { frames := 2, cells := 0, slots := 0, locals := 47 }
set_option maxRecDepth 100000 in
set_option maxHeartbeats 4000000 in
theorem m_X6_findAllRows (Fu : Nat) (Λ : fx_L) (this_0 : Int) (many_0 : Int) (h : fx_H) (ho : fx_H) (hf : f_X6_findAllRows Fu Λ this_0 many_0 h = some ho) : fx_Met yX6_findAllRows cX6_findAllRows 3 none rm_X6_findAllRows Λ [(8, this_0), (0, many_0)] h none ho := by
  unfold f_X6_findAllRows at hf
  refine fx_enter (ls := [some (8, this_0), some (0, many_0), none]) (by decide) (Nat.le_of_ble_eq_true rfl) rfl (fun M G F K => ?_)
  refine fx_iconst (pc := 0) F ⟨by decide, by decide⟩ dX6_findAllRows_0 ?_
  refine fx_istore_n (pc := 1) (ls' := [some (8, this_0), some (0, many_0), some (0, 0)]) F 2 rfl (by decide) rfl rfl dX6_findAllRows_1 ?_
  obtain ⟨⟨p_19, h20⟩, e21, hf⟩ := fx_bnd hf
  have hE22 : fx_J M G Λ 3 22 [some (8, this_0), some (0, many_0), some (0, p_19)] [] h20 := by
    cases hf
    exact fx_vreturn (pc := 22) F K dX6_findAllRows_22
  refine fx_loop_J (Hd := (fun z : Int × fx_H => fx_J M G Λ 3 2 [some (8, this_0), some (0, many_0), some (0, z.1)] [] z.2)) (Ex := (fun z : Int × fx_H => fx_J M G Λ 3 22 [some (8, this_0), some (0, many_0), some (0, z.1)] [] z.2)) ?_ Fu _ _ e21 hE22
  rintro ⟨p_11, h12⟩ o9 eq13 ih ex
  unfold s_X6_findAllRows_1 at eq13
  show fx_J M G Λ 3 2 [some (8, this_0), some (0, many_0), some (0, p_11)] [] h12
  refine fx_iload_n (pc := 2) F 2 rfl rfl dX6_findAllRows_2 ?_
  refine fx_aload_n (pc := 3) (t := 6) F 0 rfl rfl dX6_findAllRows_3 ?_
  obtain ⟨v14, e15, eq13⟩ := fx_bnd eq13
  refine fx_cV (pc := 4) F 6 kC_X6 [] this_0 [(0, p_11)] (m_X6_people Fu Λ this_0 h12 _ e15) kD_X6_people kI_X6_people rfl wM_X6_78 ⟨rfl, rfl⟩ ⟨by decide, by decide⟩ (Nat.le_of_ble_eq_true rfl) rfl dX6_findAllRows_4 ?_
  refine fx_nlt (pc := 7) F 22 (by decide) dX6_findAllRows_7 (fun c16 => ?_) (fun c16 => ?_)
  · have eq13 := (if_pos c16).symm.trans eq13
    refine fx_aload_n (pc := 10) (t := 6) F 0 rfl rfl dX6_findAllRows_10 ?_
    refine fx_iload_n (pc := 11) F 2 rfl rfl dX6_findAllRows_11 ?_
    refine fx_iload_n (pc := 12) F 1 rfl rfl dX6_findAllRows_12 ?_
    obtain ⟨h17, e18, eq13⟩ := fx_bnd eq13
    refine fx_cVv (pc := 13) F 6 kC_X6 [(0, p_11), (0, many_0)] this_0 [] (m_X6_findRows Fu Λ this_0 p_11 many_0 h12 _ e18) kD_X6_findRows kI_X6_findRows rfl wM_X6_152 ⟨rfl, rfl⟩ ⟨by decide, by decide⟩ (Nat.le_of_ble_eq_true rfl) rfl dX6_findAllRows_13 ?_
    refine fx_iinc (pc := 16) (ls' := [some (8, this_0), some (0, many_0), some (0, (fx_w (p_11 + 1)))]) F (by decide) rfl rfl rfl dX6_findAllRows_16 ?_
    refine fx_goto (pc := 19) F 2 (by decide) dX6_findAllRows_19 ?_
    cases eq13
    exact ih _ rfl
  · have eq13 := (if_neg c16).symm.trans eq13
    cases eq13
    exact ex _ rfl
def s_X6_ways_1 (Fu : Nat) (Λ : fx_L) (this_3 : Int) (h : fx_H) : Int × Int → Option ((Int × Int) ⊕ (Int × Int)) := fun (v_1, p_2) =>
  (f_X6_people Fu Λ this_3 h).bind fun v5 =>
  if p_2 < v5 then
    (fx_rd Λ h (fx_tg Λ this_3 10) p_2).bind fun v8 =>
    some (.inl ((fx_wl (v_1 * v8)), (fx_w (p_2 + 1))))
  else
    some (.inr (v_1, p_2))
def f_X6_ways (Fu : Nat) (Λ : fx_L) (this_0 : Int) (h : fx_H) : Option (Int) :=
  Option.bind (fx_loop (s_X6_ways_1 Fu Λ this_0 h) Fu (1, 0)) fun (v_18, p_19) =>
  some v_18
abbrev rm_X6_ways : Room := { frames := 1, cells := 0, slots := 0, locals := 20 }
set_option maxRecDepth 100000 in
set_option maxHeartbeats 4000000 in
theorem m_X6_ways (Fu : Nat) (Λ : fx_L) (this_0 : Int) (h : fx_H) (r : Int) (hf : f_X6_ways Fu Λ this_0 h = some r) : fx_Met yX6_ways cX6_ways 4 (some .long) rm_X6_ways Λ [(8, this_0)] h (some (1, r)) h := by
  unfold f_X6_ways at hf
  refine fx_enter (ls := [some (8, this_0), none, none, none]) (by decide) (Nat.le_of_ble_eq_true rfl) rfl (fun M G F K => ?_)
  refine fx_lconst (pc := 0) (z := 1) F rfl ⟨by decide, by decide⟩ (by decide) dX6_ways_0 ?_
  refine fx_lstore_n (pc := 1) (ls' := [some (8, this_0), some (1, 1), none, none]) F 1 rfl (by decide) rfl rfl dX6_ways_1 ?_
  refine fx_iconst (pc := 2) F ⟨by decide, by decide⟩ dX6_ways_2 ?_
  refine fx_istore_n (pc := 3) (ls' := [some (8, this_0), some (1, 1), none, some (0, 0)]) F 3 rfl (by decide) rfl rfl dX6_ways_3 ?_
  obtain ⟨⟨v_18, p_19⟩, e20, hf⟩ := fx_bnd hf
  have hE21 : fx_J M G Λ 4 28 [some (8, this_0), some (1, v_18), none, some (0, p_19)] [] h := by
    refine fx_lload_n (pc := 28) F 1 rfl rfl dX6_ways_28 ?_
    cases hf
    exact fx_lreturn (pc := 29) F K dX6_ways_29
  refine fx_loop_J (Hd := (fun z : Int × Int => fx_J M G Λ 4 4 [some (8, this_0), some (1, z.1), none, some (0, z.2)] [] h)) (Ex := (fun z : Int × Int => fx_J M G Λ 4 28 [some (8, this_0), some (1, z.1), none, some (0, z.2)] [] h)) ?_ Fu _ _ e20 hE21
  rintro ⟨v_10, p_11⟩ o9 eq12 ih ex
  unfold s_X6_ways_1 at eq12
  show fx_J M G Λ 4 4 [some (8, this_0), some (1, v_10), none, some (0, p_11)] [] h
  refine fx_iload_n (pc := 4) F 3 rfl rfl dX6_ways_4 ?_
  refine fx_aload_n (pc := 5) (t := 6) F 0 rfl rfl dX6_ways_5 ?_
  obtain ⟨v13, e14, eq12⟩ := fx_bnd eq12
  refine fx_cV (pc := 6) F 6 kC_X6 [] this_0 [(0, p_11)] (m_X6_people Fu Λ this_0 h _ e14) kD_X6_people kI_X6_people rfl wM_X6_78 ⟨rfl, rfl⟩ ⟨by decide, by decide⟩ (Nat.le_of_ble_eq_true rfl) rfl dX6_ways_6 ?_
  refine fx_nlt (pc := 9) F 28 (by decide) dX6_ways_9 (fun c15 => ?_) (fun c15 => ?_)
  · have eq12 := (if_pos c15).symm.trans eq12
    refine fx_lload_n (pc := 12) F 1 rfl rfl dX6_ways_12 ?_
    refine fx_aload_n (pc := 13) (t := 6) F 0 rfl rfl dX6_ways_13 ?_
    refine fx_gR (pc := 14) F 6 10 10 8 rfl kC_X6 (by decide) rfl wF_X6_39 dX6_ways_14 ?_
    refine fx_iload_n (pc := 17) F 3 rfl rfl dX6_ways_17 ?_
    obtain ⟨v16, e17, eq12⟩ := fx_bnd eq12
    refine fx_raldI (pc := 18) F e17 dX6_ways_18 ?_
    refine fx_ri2l (pc := 19) F dX6_ways_19 ?_
    refine fx_lmul (pc := 20) F dX6_ways_20 ?_
    refine fx_lstore_n (pc := 21) (ls' := [some (8, this_0), some (1, (fx_wl (v_10 * v16))), none, some (0, p_11)]) F 1 rfl (by decide) rfl rfl dX6_ways_21 ?_
    refine fx_iinc (pc := 22) (ls' := [some (8, this_0), some (1, (fx_wl (v_10 * v16))), none, some (0, (fx_w (p_11 + 1)))]) F (by decide) rfl rfl rfl dX6_ways_22 ?_
    refine fx_goto (pc := 25) F 4 (by decide) dX6_ways_25 ?_
    cases eq12
    exact ih _ rfl
  · have eq12 := (if_neg c15).symm.trans eq12
    cases eq12
    exact ex _ rfl
