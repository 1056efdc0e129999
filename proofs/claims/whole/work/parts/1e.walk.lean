def f_X1_finesByNumber (Fu : Nat) (Λ : fx_L) (this_0 : Int) (town_0 : Int) (court_0 : Int) (h : fx_H) : Option (Int × fx_H) :=
  (f_X1_startOrders Fu Λ this_0 town_0 h).bind fun h1 =>
  (f_X1_finesInOrder Fu Λ this_0 town_0 court_0 h1).bind fun (v3, h4) =>
  some (v3, h4)
abbrev rm_X1_finesByNumber : Room := { frames := 5, cells := 0, slots := 0, locals := 126 }
set_option maxRecDepth 100000 in
set_option maxHeartbeats 4000000 in
theorem m_X1_finesByNumber (Fu : Nat) (Λ : fx_L) (this_0 : Int) (town_0 : Int) (court_0 : Int) (h : fx_H) (r : Int) (ho : fx_H) (hf : f_X1_finesByNumber Fu Λ this_0 town_0 court_0 h = some (r, ho)) : fx_Met yX1_finesByNumber cX1_finesByNumber 3 (some .int) rm_X1_finesByNumber Λ [(3, this_0), (6, town_0), (2, court_0)] h (some (0, r)) ho := by
  unfold f_X1_finesByNumber at hf
  refine fx_enter (ls := [some (3, this_0), some (6, town_0), some (2, court_0)]) (by decide) (Nat.le_of_ble_eq_true rfl) rfl (fun M G F K => ?_)
  refine fx_aload_n (pc := 0) (t := 1) F 0 rfl rfl dX1_finesByNumber_0 ?_
  refine fx_aload_n (pc := 1) (t := 4) F 1 rfl rfl dX1_finesByNumber_1 ?_
  obtain ⟨h1, e2, hf⟩ := fx_bnd hf
  refine fx_cVv (pc := 2) F 1 kC_X1 [(6, town_0)] this_0 [] (m_X1_startOrders Fu Λ this_0 town_0 h _ e2) kD_X1_startOrders kI_X1_startOrders rfl wM_X1_79 ⟨rfl, rfl⟩ ⟨by decide, by decide⟩ (Nat.le_of_ble_eq_true rfl) rfl dX1_finesByNumber_2 ?_
  refine fx_aload_n (pc := 5) (t := 1) F 0 rfl rfl dX1_finesByNumber_5 ?_
  refine fx_aload_n (pc := 6) (t := 4) F 1 rfl rfl dX1_finesByNumber_6 ?_
  refine fx_aload_n (pc := 7) (t := 0) F 2 rfl rfl dX1_finesByNumber_7 ?_
  obtain ⟨⟨v3, h4⟩, e5, hf⟩ := fx_bnd hf
  refine fx_cV (pc := 8) F 1 kC_X1 [(6, town_0), (2, court_0)] this_0 [] (m_X1_finesInOrder Fu Λ this_0 town_0 court_0 h1 _ _ e5) kD_X1_finesInOrder kI_X1_finesInOrder rfl wM_X1_83 ⟨rfl, rfl⟩ ⟨by decide, by decide⟩ (Nat.le_of_ble_eq_true rfl) rfl dX1_finesByNumber_8 ?_
  cases hf
  exact fx_ireturn (pc := 11) F K dX1_finesByNumber_11
def s_X1_finesByWorstOrder_1 (Fu : Nat) (Λ : fx_L) (this_9 : Int) (town_10 : Int) (court_11 : Int) : Int × Int × fx_H → Option ((Int × Int × fx_H) ⊕ (Int × Int × fx_H)) := fun (most_6, i_7, h8) =>
  Option.bind (
    if i_7 < 120 then
      (f_X5_nextOrder Fu Λ (fx_tg Λ this_9 11) (h8 town_10 2) h8).bind fun (v19, h20) =>
      if ¬ v19 = 0 then
        some (true, h20)
      else
        some (false, h20)
    else
      some (false, h8)
  ) fun (b13, h17) =>
  if b13 = true then
    (f_X1_finesInOrder Fu Λ this_9 town_10 court_11 h17).bind fun (v24, h25) =>
    some (.inl ((max most_6 v24), (fx_w (i_7 + 1)), h25))
  else
    some (.inr (most_6, i_7, h17))
def f_X1_finesByWorstOrder (Fu : Nat) (Λ : fx_L) (this_0 : Int) (town_0 : Int) (court_0 : Int) (h : fx_H) : Option (Int × fx_H) :=
  (f_X1_startOrders Fu Λ this_0 town_0 h).bind fun h1 =>
  (f_X1_finesInOrder Fu Λ this_0 town_0 court_0 h1).bind fun (v3, h4) =>
  Option.bind (fx_loop (s_X1_finesByWorstOrder_1 Fu Λ this_0 town_0 court_0) Fu (v3, 0, h4)) fun (most_45, i_46, h47) =>
  some (most_45, h47)
abbrev rm_X1_finesByWorstOrder : Room := { frames := 5, cells := 0, slots := 0, locals := 126 }
set_option maxRecDepth 100000 in
set_option maxHeartbeats 4000000 in
theorem m_X1_finesByWorstOrder (Fu : Nat) (Λ : fx_L) (this_0 : Int) (town_0 : Int) (court_0 : Int) (h : fx_H) (r : Int) (ho : fx_H) (hf : f_X1_finesByWorstOrder Fu Λ this_0 town_0 court_0 h = some (r, ho)) : fx_Met yX1_finesByWorstOrder cX1_finesByWorstOrder 5 (some .int) rm_X1_finesByWorstOrder Λ [(3, this_0), (6, town_0), (2, court_0)] h (some (0, r)) ho := by
  unfold f_X1_finesByWorstOrder at hf
  refine fx_enter (ls := [some (3, this_0), some (6, town_0), some (2, court_0), none, none]) (by decide) (Nat.le_of_ble_eq_true rfl) rfl (fun M G F K => ?_)
  refine fx_aload_n (pc := 0) (t := 1) F 0 rfl rfl dX1_finesByWorstOrder_0 ?_
  refine fx_aload_n (pc := 1) (t := 4) F 1 rfl rfl dX1_finesByWorstOrder_1 ?_
  obtain ⟨h1, e2, hf⟩ := fx_bnd hf
  refine fx_cVv (pc := 2) F 1 kC_X1 [(6, town_0)] this_0 [] (m_X1_startOrders Fu Λ this_0 town_0 h _ e2) kD_X1_startOrders kI_X1_startOrders rfl wM_X1_79 ⟨rfl, rfl⟩ ⟨by decide, by decide⟩ (Nat.le_of_ble_eq_true rfl) rfl dX1_finesByWorstOrder_2 ?_
  refine fx_aload_n (pc := 5) (t := 1) F 0 rfl rfl dX1_finesByWorstOrder_5 ?_
  refine fx_aload_n (pc := 6) (t := 4) F 1 rfl rfl dX1_finesByWorstOrder_6 ?_
  refine fx_aload_n (pc := 7) (t := 0) F 2 rfl rfl dX1_finesByWorstOrder_7 ?_
  obtain ⟨⟨v3, h4⟩, e5, hf⟩ := fx_bnd hf
  refine fx_cV (pc := 8) F 1 kC_X1 [(6, town_0), (2, court_0)] this_0 [] (m_X1_finesInOrder Fu Λ this_0 town_0 court_0 h1 _ _ e5) kD_X1_finesInOrder kI_X1_finesInOrder rfl wM_X1_83 ⟨rfl, rfl⟩ ⟨by decide, by decide⟩ (Nat.le_of_ble_eq_true rfl) rfl dX1_finesByWorstOrder_8 ?_
  refine fx_istore_n (pc := 11) (ls' := [some (3, this_0), some (6, town_0), some (2, court_0), some (0, v3), none]) F 3 rfl (by decide) rfl rfl dX1_finesByWorstOrder_11 ?_
  refine fx_iconst (pc := 12) F ⟨by decide, by decide⟩ dX1_finesByWorstOrder_12 ?_
  refine fx_istore (pc := 13) (ls' := [some (3, this_0), some (6, town_0), some (2, court_0), some (0, v3), some (0, 0)]) F (by decide) rfl rfl dX1_finesByWorstOrder_13 ?_
  obtain ⟨⟨most_45, i_46, h47⟩, e48, hf⟩ := fx_bnd hf
  have hE49 : fx_J M G Λ 5 53 [some (3, this_0), some (6, town_0), some (2, court_0), some (0, most_45), some (0, i_46)] [] h47 := by
    refine fx_iload_n (pc := 53) F 3 rfl rfl dX1_finesByWorstOrder_53 ?_
    cases hf
    exact fx_ireturn (pc := 54) F K dX1_finesByWorstOrder_54
  refine fx_loop_J (Hd := (fun z : Int × Int × fx_H => fx_J M G Λ 5 15 [some (3, this_0), some (6, town_0), some (2, court_0), some (0, z.1), some (0, z.2.1)] [] z.2.2)) (Ex := (fun z : Int × Int × fx_H => fx_J M G Λ 5 53 [some (3, this_0), some (6, town_0), some (2, court_0), some (0, z.1), some (0, z.2.1)] [] z.2.2)) ?_ Fu _ _ e48 hE49
  rintro ⟨most_27, i_28, h29⟩ o9 eq30 ih ex
  unfold s_X1_finesByWorstOrder_1 at eq30
  show fx_J M G Λ 5 15 [some (3, this_0), some (6, town_0), some (2, court_0), some (0, most_27), some (0, i_28)] [] h29
  obtain ⟨⟨b31, h35⟩, e32, eq30⟩ := fx_bnd eq30
  have hT33 : b31 = true → fx_J M G Λ 5 36 [some (3, this_0), some (6, town_0), some (2, court_0), some (0, most_27), some (0, i_28)] [] h35 := fun c41 => by
    have eq30 := (if_pos c41).symm.trans eq30
    refine fx_iload_n (pc := 36) F 3 rfl rfl dX1_finesByWorstOrder_36 ?_
    refine fx_aload_n (pc := 37) (t := 1) F 0 rfl rfl dX1_finesByWorstOrder_37 ?_
    refine fx_aload_n (pc := 38) (t := 4) F 1 rfl rfl dX1_finesByWorstOrder_38 ?_
    refine fx_aload_n (pc := 39) (t := 0) F 2 rfl rfl dX1_finesByWorstOrder_39 ?_
    obtain ⟨⟨v42, h43⟩, e44, eq30⟩ := fx_bnd eq30
    refine fx_cV (pc := 40) F 1 kC_X1 [(6, town_0), (2, court_0)] this_0 [(0, most_27)] (m_X1_finesInOrder Fu Λ this_0 town_0 court_0 h35 _ _ e44) kD_X1_finesInOrder kI_X1_finesInOrder rfl wM_X1_83 ⟨rfl, rfl⟩ ⟨by decide, by decide⟩ (Nat.le_of_ble_eq_true rfl) rfl dX1_finesByWorstOrder_40 ?_
    refine fx_imax (pc := 43) F wM_X1_94 wSt_max wI_J9 wCo_max (by decide) (Nat.le_of_ble_eq_true rfl) dX1_finesByWorstOrder_43 ?_
    refine fx_istore_n (pc := 46) (ls' := [some (3, this_0), some (6, town_0), some (2, court_0), some (0, (max most_27 v42)), some (0, i_28)]) F 3 rfl (by decide) rfl rfl dX1_finesByWorstOrder_46 ?_
    refine fx_iinc (pc := 47) (ls' := [some (3, this_0), some (6, town_0), some (2, court_0), some (0, (max most_27 v42)), some (0, (fx_w (i_28 + 1)))]) F (by decide) rfl rfl rfl dX1_finesByWorstOrder_47 ?_
    refine fx_goto (pc := 50) F 15 (by decide) dX1_finesByWorstOrder_50 ?_
    cases eq30
    exact ih _ rfl
  have hF34 : ¬ b31 = true → fx_J M G Λ 5 53 [some (3, this_0), some (6, town_0), some (2, court_0), some (0, most_27), some (0, i_28)] [] h35 := fun c41 => by
    have eq30 := (if_neg c41).symm.trans eq30
    cases eq30
    exact ex _ rfl
  refine fx_iload (pc := 15) F rfl dX1_finesByWorstOrder_15 ?_
  refine fx_bipush (pc := 17) F ⟨by decide, by decide⟩ (by decide) dX1_finesByWorstOrder_17 ?_
  refine fx_nlt (pc := 19) F 53 (by decide) dX1_finesByWorstOrder_19 (fun c36 => ?_) (fun c36 => ?_)
  · have e32 := (if_pos c36).symm.trans e32
    refine fx_aload_n (pc := 22) (t := 1) F 0 rfl rfl dX1_finesByWorstOrder_22 ?_
    refine fx_gR (pc := 23) F 1 11 11 8 rfl kC_X1 (by decide) rfl wF_X1_42 dX1_finesByWorstOrder_23 ?_
    refine fx_aload_n (pc := 26) (t := 4) F 1 rfl rfl dX1_finesByWorstOrder_26 ?_
    refine fx_gI (pc := 27) F 4 2 2 rfl kC_X4 rfl wF_X1_87 dX1_finesByWorstOrder_27 ?_
    obtain ⟨⟨v37, h38⟩, e39, e32⟩ := fx_bnd e32
    refine fx_cN (pc := 30) F [(10, (fx_tg Λ this_0 11)), (0, (h29 town_0 2))] [] (m_X5_nextOrder Fu Λ (fx_tg Λ this_0 11) (h29 town_0 2) h29 _ _ e39) kD_X5_nextOrder wSt_X5_nextOrder (by decide) ⟨rfl, rfl⟩ ⟨by decide, by decide⟩ (Nat.le_of_ble_eq_true rfl) rfl dX1_finesByWorstOrder_30 ?_
    refine fx_nzne (pc := 33) F 53 (by decide) dX1_finesByWorstOrder_33 (fun c40 => ?_) (fun c40 => ?_)
    · have e32 := (if_pos c40).symm.trans e32
      cases e32
      exact hT33 (by decide)
    · have e32 := (if_neg c40).symm.trans e32
      cases e32
      exact hF34 (by decide)
  · have e32 := (if_neg c36).symm.trans e32
    cases e32
    exact hF34 (by decide)
def f_X5_list (Fu : Nat) (Λ : fx_L) (this_0 : Int) (what_0 : Int) (h : fx_H) : Option (Int × fx_H) :=
  (f_X5_within Fu Λ what_0 0 1 h).bind fun v1 =>
  if v1 = 0 then
    (f_X5_refuseBad Fu Λ this_0 (-2) h).bind fun (v4, h5) =>
    some (v4, h5)
  else
    (f_X0_sit Fu Λ (fx_tg Λ this_0 5) (fx_tg Λ this_0 0) (h (fx_tg Λ this_0 0) 1) (-1) h).bind fun h7 =>
    Option.bind (
      if what_0 = 0 then
        (f_X1_finesByNumber Fu Λ (fx_tg Λ this_0 6) (fx_tg Λ this_0 0) (fx_tg Λ this_0 5) h7).bind fun (v14, h15) =>
        some (v14, h15)
      else
        (f_X1_finesByWorstOrder Fu Λ (fx_tg Λ this_0 6) (fx_tg Λ this_0 0) (fx_tg Λ this_0 5) h7).bind fun (v17, h18) =>
        some (v17, h18)
    ) fun (v9, h10) =>
    some (v9, h10)
abbrev rm_X5_list : Room := { frames := 6, cells := 0, slots := 0, locals := 150 }
set_option maxRecDepth 100000 in
set_option maxHeartbeats 4000000 in
theorem m_X5_list (Fu : Nat) (Λ : fx_L) (this_0 : Int) (what_0 : Int) (h : fx_H) (r : Int) (ho : fx_H) (hf : f_X5_list Fu Λ this_0 what_0 h = some (r, ho)) : fx_Met yX5_list cX5_list 2 (some .int) rm_X5_list Λ [(7, this_0), (0, what_0)] h (some (0, r)) ho := by
  unfold f_X5_list at hf
  refine fx_enter (ls := [some (7, this_0), some (0, what_0)]) (by decide) (Nat.le_of_ble_eq_true rfl) rfl (fun M G F K => ?_)
  refine fx_iload_n (pc := 0) F 1 rfl rfl dX5_list_0 ?_
  refine fx_iconst (pc := 1) F ⟨by decide, by decide⟩ dX5_list_1 ?_
  refine fx_iconst (pc := 2) F ⟨by decide, by decide⟩ dX5_list_2 ?_
  obtain ⟨v1, e2, hf⟩ := fx_bnd hf
  refine fx_cS (pc := 3) F [(0, what_0), (0, 0), (0, 1)] [] (m_X5_within Fu Λ what_0 0 1 h _ e2) kD_X5_within wSt_X5_within wM_X5_82 ⟨rfl, rfl⟩ ⟨by decide, by decide⟩ (Nat.le_of_ble_eq_true rfl) rfl dX5_list_3 ?_
  refine fx_nzeq (pc := 6) F 16 (by decide) dX5_list_6 (fun c3 => ?_) (fun c3 => ?_)
  · have hf := (if_pos c3).symm.trans hf
    refine fx_aload_n (pc := 9) (t := 5) F 0 rfl rfl dX5_list_9 ?_
    refine fx_bipush (pc := 10) F ⟨by decide, by decide⟩ (by decide) dX5_list_10 ?_
    obtain ⟨⟨v4, h5⟩, e6, hf⟩ := fx_bnd hf
    refine fx_cV (pc := 12) F 5 kC_X5 [(0, (-2))] this_0 [] (m_X5_refuseBad Fu Λ this_0 (-2) h _ _ e6) kD_X5_refuseBad kI_X5_refuseBad rfl wM_X5_63 ⟨rfl, rfl⟩ ⟨by decide, by decide⟩ (Nat.le_of_ble_eq_true rfl) rfl dX5_list_12 ?_
    cases hf
    exact fx_ireturn (pc := 15) F K dX5_list_15
  · have hf := (if_neg c3).symm.trans hf
    refine fx_aload_n (pc := 16) (t := 5) F 0 rfl rfl dX5_list_16 ?_
    refine fx_gR (pc := 17) F 5 5 5 0 rfl kC_X5 (by decide) rfl wF_X5_37 dX5_list_17 ?_
    refine fx_aload_n (pc := 20) (t := 5) F 0 rfl rfl dX5_list_20 ?_
    refine fx_gR (pc := 21) F 5 0 0 4 rfl kC_X5 (by decide) rfl wF_X5_10 dX5_list_21 ?_
    refine fx_aload_n (pc := 24) (t := 5) F 0 rfl rfl dX5_list_24 ?_
    refine fx_gR (pc := 25) F 5 0 0 4 rfl kC_X5 (by decide) rfl wF_X5_10 dX5_list_25 ?_
    refine fx_gI (pc := 28) F 4 1 1 rfl kC_X4 rfl wF_X5_147 dX5_list_28 ?_
    refine fx_iconst (pc := 31) F ⟨by decide, by decide⟩ dX5_list_31 ?_
    obtain ⟨h7, e8, hf⟩ := fx_bnd hf
    refine fx_cVv (pc := 32) F 0 kC_X0 [(6, (fx_tg Λ this_0 0)), (0, (h (fx_tg Λ this_0 0) 1)), (0, (-1))] (fx_tg Λ this_0 5) [] (m_X0_sit Fu Λ (fx_tg Λ this_0 5) (fx_tg Λ this_0 0) (h (fx_tg Λ this_0 0) 1) (-1) h _ e8) kD_X0_sit kI_X0_sit rfl wM_X5_150 ⟨rfl, rfl⟩ ⟨by decide, by decide⟩ (Nat.le_of_ble_eq_true rfl) rfl dX5_list_32 ?_
    obtain ⟨⟨v9, h10⟩, e11, hf⟩ := fx_bnd hf
    have hJ12 : fx_J M G Λ 2 72 [some (7, this_0), some (0, what_0)] [(0, v9)] h10 := by
      cases hf
      exact fx_ireturn (pc := 72) F K dX5_list_72
    refine fx_iload_n (pc := 35) F 1 rfl rfl dX5_list_35 ?_
    refine fx_nzeq (pc := 36) F 57 (by decide) dX5_list_36 (fun c13 => ?_) (fun c13 => ?_)
    · have e11 := (if_pos c13).symm.trans e11
      refine fx_aload_n (pc := 39) (t := 5) F 0 rfl rfl dX5_list_39 ?_
      refine fx_gR (pc := 40) F 5 6 6 1 rfl kC_X5 (by decide) rfl wF_X5_44 dX5_list_40 ?_
      refine fx_aload_n (pc := 43) (t := 5) F 0 rfl rfl dX5_list_43 ?_
      refine fx_gR (pc := 44) F 5 0 0 4 rfl kC_X5 (by decide) rfl wF_X5_10 dX5_list_44 ?_
      refine fx_aload_n (pc := 47) (t := 5) F 0 rfl rfl dX5_list_47 ?_
      refine fx_gR (pc := 48) F 5 5 5 0 rfl kC_X5 (by decide) rfl wF_X5_37 dX5_list_48 ?_
      obtain ⟨⟨v14, h15⟩, e16, e11⟩ := fx_bnd e11
      refine fx_cV (pc := 51) F 1 kC_X1 [(6, (fx_tg Λ this_0 0)), (2, (fx_tg Λ this_0 5))] (fx_tg Λ this_0 6) [] (m_X1_finesByNumber Fu Λ (fx_tg Λ this_0 6) (fx_tg Λ this_0 0) (fx_tg Λ this_0 5) h7 _ _ e16) kD_X1_finesByNumber kI_X1_finesByNumber rfl wM_X5_179 ⟨rfl, rfl⟩ ⟨by decide, by decide⟩ (Nat.le_of_ble_eq_true rfl) rfl dX5_list_51 ?_
      cases e11
      refine fx_goto (pc := 54) F 72 (by decide) dX5_list_54 ?_
      exact hJ12
    · have e11 := (if_neg c13).symm.trans e11
      refine fx_aload_n (pc := 57) (t := 5) F 0 rfl rfl dX5_list_57 ?_
      refine fx_gR (pc := 58) F 5 6 6 1 rfl kC_X5 (by decide) rfl wF_X5_44 dX5_list_58 ?_
      refine fx_aload_n (pc := 61) (t := 5) F 0 rfl rfl dX5_list_61 ?_
      refine fx_gR (pc := 62) F 5 0 0 4 rfl kC_X5 (by decide) rfl wF_X5_10 dX5_list_62 ?_
      refine fx_aload_n (pc := 65) (t := 5) F 0 rfl rfl dX5_list_65 ?_
      refine fx_gR (pc := 66) F 5 5 5 0 rfl kC_X5 (by decide) rfl wF_X5_37 dX5_list_66 ?_
      obtain ⟨⟨v17, h18⟩, e19, e11⟩ := fx_bnd e11
      refine fx_cV (pc := 69) F 1 kC_X1 [(6, (fx_tg Λ this_0 0)), (2, (fx_tg Λ this_0 5))] (fx_tg Λ this_0 6) [] (m_X1_finesByWorstOrder Fu Λ (fx_tg Λ this_0 6) (fx_tg Λ this_0 0) (fx_tg Λ this_0 5) h7 _ _ e19) kD_X1_finesByWorstOrder kI_X1_finesByWorstOrder rfl wM_X5_182 ⟨rfl, rfl⟩ ⟨by decide, by decide⟩ (Nat.le_of_ble_eq_true rfl) rfl dX5_list_69 ?_
      cases e11
      exact hJ12
def s_X1_priceOfNow_1 (Fu : Nat) (Λ : fx_L) (this_3 : Int) (person_4 : Int) (hours_5 : Int) (h : fx_H) : Int × Int → Option ((Int × Int) ⊕ (Int × Int)) := fun (sum_1, hour_2) =>
  if hour_2 < hours_5 then
    (fx_rr Λ (fx_tg Λ this_3 12) person_4).bind fun v8 =>
    (fx_rr Λ (fx_tg Λ this_3 0) hour_2).bind fun v10 =>
    (fx_rd Λ h v10 person_4).bind fun v12 =>
    (fx_rd Λ h v8 (fx_w ((fx_w (hour_2 * 10)) + v12))).bind fun v14 =>
    some (.inl ((fx_w (sum_1 + v14)), (fx_w (hour_2 + 1))))
  else
    some (.inr (sum_1, hour_2))
def f_X1_priceOfNow (Fu : Nat) (Λ : fx_L) (this_0 : Int) (person_0 : Int) (hours_0 : Int) (h : fx_H) : Option (Int) :=
  Option.bind (fx_loop (s_X1_priceOfNow_1 Fu Λ this_0 person_0 hours_0 h) Fu (0, 0)) fun (sum_28, hour_29) =>
  some sum_28
abbrev rm_X1_priceOfNow : Room := { frames := 0, cells := 0, slots := 0, locals := 0 }
set_option maxRecDepth 100000 in
set_option maxHeartbeats 4000000 in
theorem m_X1_priceOfNow (Fu : Nat) (Λ : fx_L) (this_0 : Int) (person_0 : Int) (hours_0 : Int) (h : fx_H) (r : Int) (hf : f_X1_priceOfNow Fu Λ this_0 person_0 hours_0 h = some r) : fx_Met yX1_priceOfNow cX1_priceOfNow 5 (some .int) rm_X1_priceOfNow Λ [(3, this_0), (0, person_0), (0, hours_0)] h (some (0, r)) h := by
  unfold f_X1_priceOfNow at hf
  refine fx_enter (ls := [some (3, this_0), some (0, person_0), some (0, hours_0), none, none]) (by decide) (Nat.le_of_ble_eq_true rfl) rfl (fun M G F K => ?_)
  refine fx_iconst (pc := 0) F ⟨by decide, by decide⟩ dX1_priceOfNow_0 ?_
  refine fx_istore_n (pc := 1) (ls' := [some (3, this_0), some (0, person_0), some (0, hours_0), some (0, 0), none]) F 3 rfl (by decide) rfl rfl dX1_priceOfNow_1 ?_
  refine fx_iconst (pc := 2) F ⟨by decide, by decide⟩ dX1_priceOfNow_2 ?_
  refine fx_istore (pc := 3) (ls' := [some (3, this_0), some (0, person_0), some (0, hours_0), some (0, 0), some (0, 0)]) F (by decide) rfl rfl dX1_priceOfNow_3 ?_
  obtain ⟨⟨sum_28, hour_29⟩, e30, hf⟩ := fx_bnd hf
  have hE31 : fx_J M G Λ 5 42 [some (3, this_0), some (0, person_0), some (0, hours_0), some (0, sum_28), some (0, hour_29)] [] h := by
    refine fx_iload_n (pc := 42) F 3 rfl rfl dX1_priceOfNow_42 ?_
    cases hf
    exact fx_ireturn (pc := 43) F K dX1_priceOfNow_43
  refine fx_loop_J (Hd := (fun z : Int × Int => fx_J M G Λ 5 5 [some (3, this_0), some (0, person_0), some (0, hours_0), some (0, z.1), some (0, z.2)] [] h)) (Ex := (fun z : Int × Int => fx_J M G Λ 5 42 [some (3, this_0), some (0, person_0), some (0, hours_0), some (0, z.1), some (0, z.2)] [] h)) ?_ Fu _ _ e30 hE31
  rintro ⟨sum_16, hour_17⟩ o9 eq18 ih ex
  unfold s_X1_priceOfNow_1 at eq18
  show fx_J M G Λ 5 5 [some (3, this_0), some (0, person_0), some (0, hours_0), some (0, sum_16), some (0, hour_17)] [] h
  refine fx_iload (pc := 5) F rfl dX1_priceOfNow_5 ?_
  refine fx_iload_n (pc := 7) F 2 rfl rfl dX1_priceOfNow_7 ?_
  refine fx_nlt (pc := 8) F 42 (by decide) dX1_priceOfNow_8 (fun c19 => ?_) (fun c19 => ?_)
  · have eq18 := (if_pos c19).symm.trans eq18
    refine fx_iload_n (pc := 11) F 3 rfl rfl dX1_priceOfNow_11 ?_
    refine fx_aload_n (pc := 12) (t := 1) F 0 rfl rfl dX1_priceOfNow_12 ?_
    refine fx_gR (pc := 13) F 1 12 12 11 rfl kC_X1 (by decide) rfl wF_X1_45 dX1_priceOfNow_13 ?_
    refine fx_iload_n (pc := 16) F 1 rfl rfl dX1_priceOfNow_16 ?_
    obtain ⟨v20, e21, eq18⟩ := fx_bnd eq18
    refine fx_raldG (pc := 17) F e21 dX1_priceOfNow_17 ?_
    refine fx_iload (pc := 18) F rfl dX1_priceOfNow_18 ?_
    refine fx_bipush (pc := 20) F ⟨by decide, by decide⟩ (by decide) dX1_priceOfNow_20 ?_
    refine fx_imul (pc := 22) F dX1_priceOfNow_22 ?_
    refine fx_aload_n (pc := 23) (t := 1) F 0 rfl rfl dX1_priceOfNow_23 ?_
    refine fx_gR (pc := 24) F 1 0 0 11 rfl kC_X1 (by decide) rfl wF_X1_11 dX1_priceOfNow_24 ?_
    refine fx_iload (pc := 27) F rfl dX1_priceOfNow_27 ?_
    obtain ⟨v22, e23, eq18⟩ := fx_bnd eq18
    refine fx_raldG (pc := 29) F e23 dX1_priceOfNow_29 ?_
    refine fx_iload_n (pc := 30) F 1 rfl rfl dX1_priceOfNow_30 ?_
    obtain ⟨v24, e25, eq18⟩ := fx_bnd eq18
    refine fx_raldI (pc := 31) F e25 dX1_priceOfNow_31 ?_
    refine fx_iadd (pc := 32) F dX1_priceOfNow_32 ?_
    obtain ⟨v26, e27, eq18⟩ := fx_bnd eq18
    refine fx_raldI (pc := 33) F e27 dX1_priceOfNow_33 ?_
    refine fx_iadd (pc := 34) F dX1_priceOfNow_34 ?_
    refine fx_istore_n (pc := 35) (ls' := [some (3, this_0), some (0, person_0), some (0, hours_0), some (0, (fx_w (sum_16 + v26))), some (0, hour_17)]) F 3 rfl (by decide) rfl rfl dX1_priceOfNow_35 ?_
    refine fx_iinc (pc := 36) (ls' := [some (3, this_0), some (0, person_0), some (0, hours_0), some (0, (fx_w (sum_16 + v26))), some (0, (fx_w (hour_17 + 1)))]) F (by decide) rfl rfl rfl dX1_priceOfNow_36 ?_
    refine fx_goto (pc := 39) F 5 (by decide) dX1_priceOfNow_39 ?_
    cases eq18
    exact ih _ rfl
  · have eq18 := (if_neg c19).symm.trans eq18
    cases eq18
    exact ex _ rfl
def s_X1_anyoneChanges_1 (Fu : Nat) (Λ : fx_L) (this_4 : Int) (town_5 : Int) (court_6 : Int) : Int × Int × fx_H → Option ((Int × Int × fx_H) ⊕ (Int × Int × fx_H)) := fun (changed_1, person_2, h3) =>
  if person_2 < (h3 town_5 2) then
    (f_X1_setPrices Fu Λ this_4 town_5 court_6 person_2 h3).bind fun h9 =>
    (f_X1_bestRow Fu Λ this_4 person_2 (h9 town_5 3) h9).bind fun v11 =>
    (f_X1_priceOfRow Fu Λ this_4 person_2 v11 (h9 town_5 3) h9).bind fun v13 =>
    (f_X1_priceOfNow Fu Λ this_4 person_2 (h9 town_5 3) h9).bind fun v15 =>
    if v13 < v15 then
      (f_X1_layRow Fu Λ this_4 person_2 v11 (h9 town_5 3) h9).bind fun h18 =>
      some (.inl ((1 : Int), (fx_w (person_2 + 1)), h18))
    else
      some (.inl (changed_1, (fx_w (person_2 + 1)), h9))
  else
    some (.inr (changed_1, person_2, h3))
def f_X1_anyoneChanges (Fu : Nat) (Λ : fx_L) (this_0 : Int) (town_0 : Int) (court_0 : Int) (h : fx_H) : Option (Int × fx_H) :=
  Option.bind (fx_loop (s_X1_anyoneChanges_1 Fu Λ this_0 town_0 court_0) Fu (0, 0, h)) fun (changed_36, person_37, h38) =>
  (fx_zb changed_36).bind fun z41 =>
  some (z41, h38)
abbrev rm_X1_anyoneChanges : Room := { frames := 3, cells := 0, slots := 0, locals := 80 }
set_option maxRecDepth 100000 in
set_option maxHeartbeats 4000000 in
theorem m_X1_anyoneChanges (Fu : Nat) (Λ : fx_L) (this_0 : Int) (town_0 : Int) (court_0 : Int) (h : fx_H) (r : Int) (ho : fx_H) (hf : f_X1_anyoneChanges Fu Λ this_0 town_0 court_0 h = some (r, ho)) : fx_Met yX1_anyoneChanges cX1_anyoneChanges 6 (some .boolean) rm_X1_anyoneChanges Λ [(3, this_0), (6, town_0), (2, court_0)] h (some (0, r)) ho := by
  unfold f_X1_anyoneChanges at hf
  refine fx_enter (ls := [some (3, this_0), some (6, town_0), some (2, court_0), none, none, none]) (by decide) (Nat.le_of_ble_eq_true rfl) rfl (fun M G F K => ?_)
  refine fx_iconst (pc := 0) F ⟨by decide, by decide⟩ dX1_anyoneChanges_0 ?_
  refine fx_istore_n (pc := 1) (ls' := [some (3, this_0), some (6, town_0), some (2, court_0), some (0, 0), none, none]) F 3 rfl (by decide) rfl rfl dX1_anyoneChanges_1 ?_
  refine fx_iconst (pc := 2) F ⟨by decide, by decide⟩ dX1_anyoneChanges_2 ?_
  refine fx_istore (pc := 3) (ls' := [some (3, this_0), some (6, town_0), some (2, court_0), some (0, 0), some (0, 0), none]) F (by decide) rfl rfl dX1_anyoneChanges_3 ?_
  obtain ⟨⟨changed_36, person_37, h38⟩, e39, hf⟩ := fx_bnd hf
  have hE40 : fx_J M G Λ 6 79 [some (3, this_0), some (6, town_0), some (2, court_0), some (0, changed_36), some (0, person_37), none] [] h38 := by
    refine fx_iload_n (pc := 79) F 3 rfl rfl dX1_anyoneChanges_79 ?_
    obtain ⟨z41, e42, hf⟩ := fx_bnd hf
    obtain ⟨e42, hzz41⟩ := fx_zb_use e42
    refine fx_top (X := fx_X) e42 ?_
    cases hf
    exact fx_zreturn (pc := 80) F hzz41 K dX1_anyoneChanges_80
  refine fx_loop_J (Hd := (fun z : Int × Int × fx_H => fx_J M G Λ 6 5 [some (3, this_0), some (6, town_0), some (2, court_0), some (0, z.1), some (0, z.2.1), none] [] z.2.2)) (Ex := (fun z : Int × Int × fx_H => fx_J M G Λ 6 79 [some (3, this_0), some (6, town_0), some (2, court_0), some (0, z.1), some (0, z.2.1), none] [] z.2.2)) ?_ Fu _ _ e39 hE40
  rintro ⟨changed_20, person_21, h22⟩ o9 eq23 ih ex
  unfold s_X1_anyoneChanges_1 at eq23
  show fx_J M G Λ 6 5 [some (3, this_0), some (6, town_0), some (2, court_0), some (0, changed_20), some (0, person_21), none] [] h22
  refine fx_iload (pc := 5) F rfl dX1_anyoneChanges_5 ?_
  refine fx_aload_n (pc := 7) (t := 4) F 1 rfl rfl dX1_anyoneChanges_7 ?_
  refine fx_gI (pc := 8) F 4 2 2 rfl kC_X4 rfl wF_X1_87 dX1_anyoneChanges_8 ?_
  refine fx_nlt (pc := 11) F 79 (by decide) dX1_anyoneChanges_11 (fun c24 => ?_) (fun c24 => ?_)
  · have eq23 := (if_pos c24).symm.trans eq23
    refine fx_aload_n (pc := 14) (t := 1) F 0 rfl rfl dX1_anyoneChanges_14 ?_
    refine fx_aload_n (pc := 15) (t := 4) F 1 rfl rfl dX1_anyoneChanges_15 ?_
    refine fx_aload_n (pc := 16) (t := 0) F 2 rfl rfl dX1_anyoneChanges_16 ?_
    refine fx_iload (pc := 17) F rfl dX1_anyoneChanges_17 ?_
    obtain ⟨h25, e26, eq23⟩ := fx_bnd eq23
    refine fx_cVv (pc := 19) F 1 kC_X1 [(6, town_0), (2, court_0), (0, person_21)] this_0 [] (m_X1_setPrices Fu Λ this_0 town_0 court_0 person_21 h22 _ e26) kD_X1_setPrices kI_X1_setPrices rfl wM_X1_107 ⟨rfl, rfl⟩ ⟨by decide, by decide⟩ (Nat.le_of_ble_eq_true rfl) rfl dX1_anyoneChanges_19 ?_
    refine fx_aload_n (pc := 22) (t := 1) F 0 rfl rfl dX1_anyoneChanges_22 ?_
    refine fx_iload (pc := 23) F rfl dX1_anyoneChanges_23 ?_
    refine fx_aload_n (pc := 25) (t := 4) F 1 rfl rfl dX1_anyoneChanges_25 ?_
    refine fx_gI (pc := 26) F 4 3 3 rfl kC_X4 rfl wF_X1_52 dX1_anyoneChanges_26 ?_
    obtain ⟨v27, e28, eq23⟩ := fx_bnd eq23
    refine fx_cV (pc := 29) F 1 kC_X1 [(0, person_21), (0, (h25 town_0 3))] this_0 [] (m_X1_bestRow Fu Λ this_0 person_21 (h25 town_0 3) h25 _ e28) kD_X1_bestRow kI_X1_bestRow rfl wM_X1_111 ⟨rfl, rfl⟩ ⟨by decide, by decide⟩ (Nat.le_of_ble_eq_true rfl) rfl dX1_anyoneChanges_29 ?_
    refine fx_istore (pc := 32) (ls' := [some (3, this_0), some (6, town_0), some (2, court_0), some (0, changed_20), some (0, person_21), some (0, v27)]) F (by decide) rfl rfl dX1_anyoneChanges_32 ?_
    refine fx_aload_n (pc := 34) (t := 1) F 0 rfl rfl dX1_anyoneChanges_34 ?_
    refine fx_iload (pc := 35) F rfl dX1_anyoneChanges_35 ?_
    refine fx_iload (pc := 37) F rfl dX1_anyoneChanges_37 ?_
    refine fx_aload_n (pc := 39) (t := 4) F 1 rfl rfl dX1_anyoneChanges_39 ?_
    refine fx_gI (pc := 40) F 4 3 3 rfl kC_X4 rfl wF_X1_52 dX1_anyoneChanges_40 ?_
    obtain ⟨v29, e30, eq23⟩ := fx_bnd eq23
    refine fx_cV (pc := 43) F 1 kC_X1 [(0, person_21), (0, v27), (0, (h25 town_0 3))] this_0 [] (m_X1_priceOfRow Fu Λ this_0 person_21 v27 (h25 town_0 3) h25 _ e30) kD_X1_priceOfRow kI_X1_priceOfRow rfl wM_X1_114 ⟨rfl, rfl⟩ ⟨by decide, by decide⟩ (Nat.le_of_ble_eq_true rfl) rfl dX1_anyoneChanges_43 ?_
    refine fx_aload_n (pc := 46) (t := 1) F 0 rfl rfl dX1_anyoneChanges_46 ?_
    refine fx_iload (pc := 47) F rfl dX1_anyoneChanges_47 ?_
    refine fx_aload_n (pc := 49) (t := 4) F 1 rfl rfl dX1_anyoneChanges_49 ?_
    refine fx_gI (pc := 50) F 4 3 3 rfl kC_X4 rfl wF_X1_52 dX1_anyoneChanges_50 ?_
    obtain ⟨v31, e32, eq23⟩ := fx_bnd eq23
    refine fx_cV (pc := 53) F 1 kC_X1 [(0, person_21), (0, (h25 town_0 3))] this_0 [(0, v29)] (m_X1_priceOfNow Fu Λ this_0 person_21 (h25 town_0 3) h25 _ e32) kD_X1_priceOfNow kI_X1_priceOfNow rfl wM_X1_118 ⟨rfl, rfl⟩ ⟨by decide, by decide⟩ (Nat.le_of_ble_eq_true rfl) rfl dX1_anyoneChanges_53 ?_
    refine fx_nlt (pc := 56) F 73 (by decide) dX1_anyoneChanges_56 (fun c33 => ?_) (fun c33 => ?_)
    · have eq23 := (if_pos c33).symm.trans eq23
      refine fx_aload_n (pc := 59) (t := 1) F 0 rfl rfl dX1_anyoneChanges_59 ?_
      refine fx_iload (pc := 60) F rfl dX1_anyoneChanges_60 ?_
      refine fx_iload (pc := 62) F rfl dX1_anyoneChanges_62 ?_
      refine fx_aload_n (pc := 64) (t := 4) F 1 rfl rfl dX1_anyoneChanges_64 ?_
      refine fx_gI (pc := 65) F 4 3 3 rfl kC_X4 rfl wF_X1_52 dX1_anyoneChanges_65 ?_
      obtain ⟨h34, e35, eq23⟩ := fx_bnd eq23
      refine fx_cVv (pc := 68) F 1 kC_X1 [(0, person_21), (0, v27), (0, (h25 town_0 3))] this_0 [] (m_X1_layRow Fu Λ this_0 person_21 v27 (h25 town_0 3) h25 _ e35) kD_X1_layRow kI_X1_layRow rfl wM_X1_121 ⟨rfl, rfl⟩ ⟨by decide, by decide⟩ (Nat.le_of_ble_eq_true rfl) rfl dX1_anyoneChanges_68 ?_
      refine fx_iconst (pc := 71) F ⟨by decide, by decide⟩ dX1_anyoneChanges_71 ?_
      refine fx_istore_n (pc := 72) (ls' := [some (3, this_0), some (6, town_0), some (2, court_0), some (0, 1), some (0, person_21), some (0, v27)]) F 3 rfl (by decide) rfl rfl dX1_anyoneChanges_72 ?_
      refine fx_iinc (pc := 73) (ls' := [some (3, this_0), some (6, town_0), some (2, court_0), some (0, 1), some (0, (fx_w (person_21 + 1))), some (0, v27)]) F (by decide) rfl rfl rfl dX1_anyoneChanges_73 ?_
      refine fx_goto (pc := 76) F 5 (by decide) dX1_anyoneChanges_76 ?_
      cases eq23
      refine fx_drop (ls' := [some (3, this_0), some (6, town_0), some (2, court_0), some (0, 1), some (0, (fx_w (person_21 + 1))), none]) ⟨rfl, rfl, rfl, rfl, rfl, trivial⟩ ?_
      exact ih _ rfl
    · have eq23 := (if_neg c33).symm.trans eq23
      refine fx_iinc (pc := 73) (ls' := [some (3, this_0), some (6, town_0), some (2, court_0), some (0, changed_20), some (0, (fx_w (person_21 + 1))), some (0, v27)]) F (by decide) rfl rfl rfl dX1_anyoneChanges_73 ?_
      refine fx_goto (pc := 76) F 5 (by decide) dX1_anyoneChanges_76 ?_
      cases eq23
      refine fx_drop (ls' := [some (3, this_0), some (6, town_0), some (2, court_0), some (0, changed_20), some (0, (fx_w (person_21 + 1))), none]) ⟨rfl, rfl, rfl, rfl, rfl, trivial⟩ ?_
      exact ih _ rfl
  · have eq23 := (if_neg c24).symm.trans eq23
    cases eq23
    exact ex _ rfl
def s_X1_roundOfRest_1 (Fu : Nat) (Λ : fx_L) (this_7 : Int) (town_8 : Int) (court_9 : Int) : Int × fx_H → Option ((Int × fx_H) ⊕ ((Int × fx_H) ⊕ (Int × fx_H))) := fun (round_5, h6) =>
  if round_5 ≤ 20 then
    (f_X1_anyoneChanges Fu Λ this_7 town_8 court_9 h6).bind fun (v12, h13) =>
    if v12 = 0 then
      some (.inr (.inr (round_5, h13)))
    else
      some (.inl ((fx_w (round_5 + 1)), h13))
  else
    some (.inr (.inl (round_5, h6)))
def f_X1_roundOfRest (Fu : Nat) (Λ : fx_L) (this_0 : Int) (town_0 : Int) (court_0 : Int) (h : fx_H) : Option (Int × fx_H) :=
  (f_X1_writeRows Fu Λ this_0 town_0 (h town_0 3) h).bind fun h1 =>
  (f_X1_copyDay Fu Λ (fx_tg Λ town_0 8) (fx_tg Λ this_0 0) h1).bind fun h3 =>
  Option.bind (fx_loop (s_X1_roundOfRest_1 Fu Λ this_0 town_0 court_0) Fu (0, h3)) fun x9 =>
  match x9 with
  | .inl (round_24, h25) =>
    some ((-1), h25)
  | .inr r9 => some r9
abbrev rm_X1_roundOfRest : Room := { frames := 4, cells := 0, slots := 0, locals := 105 }
set_option maxRecDepth 100000 in
set_option maxHeartbeats 4000000 in
theorem m_X1_roundOfRest (Fu : Nat) (Λ : fx_L) (this_0 : Int) (town_0 : Int) (court_0 : Int) (h : fx_H) (r : Int) (ho : fx_H) (hf : f_X1_roundOfRest Fu Λ this_0 town_0 court_0 h = some (r, ho)) : fx_Met yX1_roundOfRest cX1_roundOfRest 4 (some .int) rm_X1_roundOfRest Λ [(3, this_0), (6, town_0), (2, court_0)] h (some (0, r)) ho := by
  unfold f_X1_roundOfRest at hf
  refine fx_enter (ls := [some (3, this_0), some (6, town_0), some (2, court_0), none]) (by decide) (Nat.le_of_ble_eq_true rfl) rfl (fun M G F K => ?_)
  refine fx_aload_n (pc := 0) (t := 1) F 0 rfl rfl dX1_roundOfRest_0 ?_
  refine fx_aload_n (pc := 1) (t := 4) F 1 rfl rfl dX1_roundOfRest_1 ?_
  refine fx_aload_n (pc := 2) (t := 4) F 1 rfl rfl dX1_roundOfRest_2 ?_
  refine fx_gI (pc := 3) F 4 3 3 rfl kC_X4 rfl wF_X1_52 dX1_roundOfRest_3 ?_
  obtain ⟨h1, e2, hf⟩ := fx_bnd hf
  refine fx_cVv (pc := 6) F 1 kC_X1 [(6, town_0), (0, (h town_0 3))] this_0 [] (m_X1_writeRows Fu Λ this_0 town_0 (h town_0 3) h _ e2) kD_X1_writeRows kI_X1_writeRows rfl wM_X1_57 ⟨rfl, rfl⟩ ⟨by decide, by decide⟩ (Nat.le_of_ble_eq_true rfl) rfl dX1_roundOfRest_6 ?_
  refine fx_aload_n (pc := 9) (t := 4) F 1 rfl rfl dX1_roundOfRest_9 ?_
  refine fx_gR (pc := 10) F 4 8 8 11 rfl kC_X4 (by decide) rfl wF_X1_100 dX1_roundOfRest_10 ?_
  refine fx_aload_n (pc := 13) (t := 1) F 0 rfl rfl dX1_roundOfRest_13 ?_
  refine fx_gR (pc := 14) F 1 0 0 11 rfl kC_X1 (by decide) rfl wF_X1_11 dX1_roundOfRest_14 ?_
  obtain ⟨h3, e4, hf⟩ := fx_bnd hf
  refine fx_cSv (pc := 17) F [(13, (fx_tg Λ town_0 8)), (13, (fx_tg Λ this_0 0))] [] (m_X1_copyDay Fu Λ (fx_tg Λ town_0 8) (fx_tg Λ this_0 0) h1 _ e4) kD_X1_copyDay wSt_X1_copyDay wM_X1_75 ⟨rfl, rfl⟩ ⟨by decide, by decide⟩ (Nat.le_of_ble_eq_true rfl) rfl dX1_roundOfRest_17 ?_
  refine fx_iconst (pc := 20) F ⟨by decide, by decide⟩ dX1_roundOfRest_20 ?_
  refine fx_istore_n (pc := 21) (ls' := [some (3, this_0), some (6, town_0), some (2, court_0), some (0, 0)]) F 3 rfl (by decide) rfl rfl dX1_roundOfRest_21 ?_
  obtain ⟨x9, e26, hf⟩ := fx_bnd hf
  have hE27 : (fun y : (Int × fx_H) ⊕ (Int × fx_H) => match y with | .inl z => fx_J M G Λ 4 45 [some (3, this_0), some (6, town_0), some (2, court_0), some (0, z.1)] [] z.2 | .inr r9 => some r9 = some (r, ho)) x9 := by
    cases x9 with
    | inr r9 => exact hf
    | inl y9 =>
      obtain ⟨round_24, h25⟩ := y9
      show fx_J M G Λ 4 45 [some (3, this_0), some (6, town_0), some (2, court_0), some (0, round_24)] [] h25
      refine fx_iconst (pc := 45) F ⟨by decide, by decide⟩ dX1_roundOfRest_45 ?_
      cases hf
      exact fx_ireturn (pc := 46) F K dX1_roundOfRest_46
  refine fx_loop_J (Hd := (fun z : Int × fx_H => fx_J M G Λ 4 22 [some (3, this_0), some (6, town_0), some (2, court_0), some (0, z.1)] [] z.2)) (Ex := (fun y : (Int × fx_H) ⊕ (Int × fx_H) => match y with | .inl z => fx_J M G Λ 4 45 [some (3, this_0), some (6, town_0), some (2, court_0), some (0, z.1)] [] z.2 | .inr r9 => some r9 = some (r, ho))) ?_ Fu _ _ e26 hE27
  rintro ⟨round_16, h17⟩ o9 eq18 ih ex
  unfold s_X1_roundOfRest_1 at eq18
  show fx_J M G Λ 4 22 [some (3, this_0), some (6, town_0), some (2, court_0), some (0, round_16)] [] h17
  refine fx_iload_n (pc := 22) F 3 rfl rfl dX1_roundOfRest_22 ?_
  refine fx_bipush (pc := 23) F ⟨by decide, by decide⟩ (by decide) dX1_roundOfRest_23 ?_
  refine fx_nle (pc := 25) F 45 (by decide) dX1_roundOfRest_25 (fun c19 => ?_) (fun c19 => ?_)
  · have eq18 := (if_pos c19).symm.trans eq18
    refine fx_aload_n (pc := 28) (t := 1) F 0 rfl rfl dX1_roundOfRest_28 ?_
    refine fx_aload_n (pc := 29) (t := 4) F 1 rfl rfl dX1_roundOfRest_29 ?_
    refine fx_aload_n (pc := 30) (t := 0) F 2 rfl rfl dX1_roundOfRest_30 ?_
    obtain ⟨⟨v20, h21⟩, e22, eq18⟩ := fx_bnd eq18
    refine fx_cV (pc := 31) F 1 kC_X1 [(6, town_0), (2, court_0)] this_0 [] (m_X1_anyoneChanges Fu Λ this_0 town_0 court_0 h17 _ _ e22) kD_X1_anyoneChanges kI_X1_anyoneChanges rfl wM_X1_103 ⟨rfl, rfl⟩ ⟨by decide, by decide⟩ (Nat.le_of_ble_eq_true rfl) rfl dX1_roundOfRest_31 ?_
    refine fx_nzeq (pc := 34) F 39 (by decide) dX1_roundOfRest_34 (fun c23 => ?_) (fun c23 => ?_)
    · have eq18 := (if_pos c23).symm.trans eq18
      refine fx_iload_n (pc := 37) F 3 rfl rfl dX1_roundOfRest_37 ?_
      cases eq18
      have q9 := ex _ rfl
      cases q9
      exact fx_ireturn (pc := 38) F K dX1_roundOfRest_38
    · have eq18 := (if_neg c23).symm.trans eq18
      refine fx_iinc (pc := 39) (ls' := [some (3, this_0), some (6, town_0), some (2, court_0), some (0, (fx_w (round_16 + 1)))]) F (by decide) rfl rfl rfl dX1_roundOfRest_39 ?_
      refine fx_goto (pc := 42) F 22 (by decide) dX1_roundOfRest_42 ?_
      cases eq18
      exact ih _ rfl
  · have eq18 := (if_neg c19).symm.trans eq18
    cases eq18
    exact ex _ rfl
def f_X5_rests (Fu : Nat) (Λ : fx_L) (this_0 : Int) (what_0 : Int) (h : fx_H) : Option (Int × fx_H) :=
  (f_X5_within Fu Λ what_0 0 1 h).bind fun v1 =>
  if v1 = 0 then
    (f_X5_refuseBad Fu Λ this_0 (-10) h).bind fun (v4, h5) =>
    some (v4, h5)
  else
    (f_X0_sit Fu Λ (fx_tg Λ this_0 5) (fx_tg Λ this_0 0) (h (fx_tg Λ this_0 0) 1) (-1) h).bind fun h7 =>
    (f_X1_roundOfRest Fu Λ (fx_tg Λ this_0 6) (fx_tg Λ this_0 0) (fx_tg Λ this_0 5) h7).bind fun (v9, h10) =>
    if what_0 = 0 then
      some (v9, h10)
    else
      Option.bind (
        if v9 = (-1) then
          some (-5 : Int)
        else
          (f_X0_finesOf Fu Λ (fx_tg Λ this_0 5) (fx_tg Λ this_0 0) (fx_tg Λ (fx_tg Λ this_0 6) 0) (h10 (fx_tg Λ this_0 0) 3) h10).bind fun v17 =>
          some v17
      ) fun v13 =>
      some (v13, h10)
abbrev rm_X5_rests : Room := { frames := 5, cells := 0, slots := 0, locals := 128 }
set_option maxRecDepth 100000 in
set_option maxHeartbeats 4000000 in
theorem m_X5_rests (Fu : Nat) (Λ : fx_L) (this_0 : Int) (what_0 : Int) (h : fx_H) (r : Int) (ho : fx_H) (hf : f_X5_rests Fu Λ this_0 what_0 h = some (r, ho)) : fx_Met yX5_rests cX5_rests 3 (some .int) rm_X5_rests Λ [(7, this_0), (0, what_0)] h (some (0, r)) ho := by
  unfold f_X5_rests at hf
  refine fx_enter (ls := [some (7, this_0), some (0, what_0), none]) (by decide) (Nat.le_of_ble_eq_true rfl) rfl (fun M G F K => ?_)
  refine fx_iload_n (pc := 0) F 1 rfl rfl dX5_rests_0 ?_
  refine fx_iconst (pc := 1) F ⟨by decide, by decide⟩ dX5_rests_1 ?_
  refine fx_iconst (pc := 2) F ⟨by decide, by decide⟩ dX5_rests_2 ?_
  obtain ⟨v1, e2, hf⟩ := fx_bnd hf
  refine fx_cS (pc := 3) F [(0, what_0), (0, 0), (0, 1)] [] (m_X5_within Fu Λ what_0 0 1 h _ e2) kD_X5_within wSt_X5_within wM_X5_82 ⟨rfl, rfl⟩ ⟨by decide, by decide⟩ (Nat.le_of_ble_eq_true rfl) rfl dX5_rests_3 ?_
  refine fx_nzeq (pc := 6) F 16 (by decide) dX5_rests_6 (fun c3 => ?_) (fun c3 => ?_)
  · have hf := (if_pos c3).symm.trans hf
    refine fx_aload_n (pc := 9) (t := 5) F 0 rfl rfl dX5_rests_9 ?_
    refine fx_bipush (pc := 10) F ⟨by decide, by decide⟩ (by decide) dX5_rests_10 ?_
    obtain ⟨⟨v4, h5⟩, e6, hf⟩ := fx_bnd hf
    refine fx_cV (pc := 12) F 5 kC_X5 [(0, (-10))] this_0 [] (m_X5_refuseBad Fu Λ this_0 (-10) h _ _ e6) kD_X5_refuseBad kI_X5_refuseBad rfl wM_X5_63 ⟨rfl, rfl⟩ ⟨by decide, by decide⟩ (Nat.le_of_ble_eq_true rfl) rfl dX5_rests_12 ?_
    cases hf
    exact fx_ireturn (pc := 15) F K dX5_rests_15
  · have hf := (if_neg c3).symm.trans hf
    refine fx_aload_n (pc := 16) (t := 5) F 0 rfl rfl dX5_rests_16 ?_
    refine fx_gR (pc := 17) F 5 5 5 0 rfl kC_X5 (by decide) rfl wF_X5_37 dX5_rests_17 ?_
    refine fx_aload_n (pc := 20) (t := 5) F 0 rfl rfl dX5_rests_20 ?_
    refine fx_gR (pc := 21) F 5 0 0 4 rfl kC_X5 (by decide) rfl wF_X5_10 dX5_rests_21 ?_
    refine fx_aload_n (pc := 24) (t := 5) F 0 rfl rfl dX5_rests_24 ?_
    refine fx_gR (pc := 25) F 5 0 0 4 rfl kC_X5 (by decide) rfl wF_X5_10 dX5_rests_25 ?_
    refine fx_gI (pc := 28) F 4 1 1 rfl kC_X4 rfl wF_X5_147 dX5_rests_28 ?_
    refine fx_iconst (pc := 31) F ⟨by decide, by decide⟩ dX5_rests_31 ?_
    obtain ⟨h7, e8, hf⟩ := fx_bnd hf
    refine fx_cVv (pc := 32) F 0 kC_X0 [(6, (fx_tg Λ this_0 0)), (0, (h (fx_tg Λ this_0 0) 1)), (0, (-1))] (fx_tg Λ this_0 5) [] (m_X0_sit Fu Λ (fx_tg Λ this_0 5) (fx_tg Λ this_0 0) (h (fx_tg Λ this_0 0) 1) (-1) h _ e8) kD_X0_sit kI_X0_sit rfl wM_X5_150 ⟨rfl, rfl⟩ ⟨by decide, by decide⟩ (Nat.le_of_ble_eq_true rfl) rfl dX5_rests_32 ?_
    refine fx_aload_n (pc := 35) (t := 5) F 0 rfl rfl dX5_rests_35 ?_
    refine fx_gR (pc := 36) F 5 6 6 1 rfl kC_X5 (by decide) rfl wF_X5_44 dX5_rests_36 ?_
    refine fx_aload_n (pc := 39) (t := 5) F 0 rfl rfl dX5_rests_39 ?_
    refine fx_gR (pc := 40) F 5 0 0 4 rfl kC_X5 (by decide) rfl wF_X5_10 dX5_rests_40 ?_
    refine fx_aload_n (pc := 43) (t := 5) F 0 rfl rfl dX5_rests_43 ?_
    refine fx_gR (pc := 44) F 5 5 5 0 rfl kC_X5 (by decide) rfl wF_X5_37 dX5_rests_44 ?_
    obtain ⟨⟨v9, h10⟩, e11, hf⟩ := fx_bnd hf
    refine fx_cV (pc := 47) F 1 kC_X1 [(6, (fx_tg Λ this_0 0)), (2, (fx_tg Λ this_0 5))] (fx_tg Λ this_0 6) [] (m_X1_roundOfRest Fu Λ (fx_tg Λ this_0 6) (fx_tg Λ this_0 0) (fx_tg Λ this_0 5) h7 _ _ e11) kD_X1_roundOfRest kI_X1_roundOfRest rfl wM_X5_185 ⟨rfl, rfl⟩ ⟨by decide, by decide⟩ (Nat.le_of_ble_eq_true rfl) rfl dX5_rests_47 ?_
    refine fx_istore_n (pc := 50) (ls' := [some (7, this_0), some (0, what_0), some (0, v9)]) F 2 rfl (by decide) rfl rfl dX5_rests_50 ?_
    refine fx_iload_n (pc := 51) F 1 rfl rfl dX5_rests_51 ?_
    refine fx_nzeq (pc := 52) F 57 (by decide) dX5_rests_52 (fun c12 => ?_) (fun c12 => ?_)
    · have hf := (if_pos c12).symm.trans hf
      refine fx_iload_n (pc := 55) F 2 rfl rfl dX5_rests_55 ?_
      cases hf
      exact fx_ireturn (pc := 56) F K dX5_rests_56
    · have hf := (if_neg c12).symm.trans hf
      obtain ⟨v13, e14, hf⟩ := fx_bnd hf
      have hJ15 : fx_J M G Λ 3 92 [some (7, this_0), some (0, what_0), some (0, v9)] [(0, v13)] h10 := by
        cases hf
        exact fx_ireturn (pc := 92) F K dX5_rests_92
      refine fx_iload_n (pc := 57) F 2 rfl rfl dX5_rests_57 ?_
      refine fx_iconst (pc := 58) F ⟨by decide, by decide⟩ dX5_rests_58 ?_
      refine fx_neq (pc := 59) F 67 (by decide) dX5_rests_59 (fun c16 => ?_) (fun c16 => ?_)
      · have e14 := (if_pos c16).symm.trans e14
        refine fx_bipush (pc := 62) F ⟨by decide, by decide⟩ (by decide) dX5_rests_62 ?_
        cases e14
        refine fx_goto (pc := 64) F 92 (by decide) dX5_rests_64 ?_
        exact hJ15
      · have e14 := (if_neg c16).symm.trans e14
        refine fx_aload_n (pc := 67) (t := 5) F 0 rfl rfl dX5_rests_67 ?_
        refine fx_gR (pc := 68) F 5 5 5 0 rfl kC_X5 (by decide) rfl wF_X5_37 dX5_rests_68 ?_
        refine fx_aload_n (pc := 71) (t := 5) F 0 rfl rfl dX5_rests_71 ?_
        refine fx_gR (pc := 72) F 5 0 0 4 rfl kC_X5 (by decide) rfl wF_X5_10 dX5_rests_72 ?_
        refine fx_aload_n (pc := 75) (t := 5) F 0 rfl rfl dX5_rests_75 ?_
        refine fx_gR (pc := 76) F 5 6 6 1 rfl kC_X5 (by decide) rfl wF_X5_44 dX5_rests_76 ?_
        refine fx_gR (pc := 79) F 1 0 0 11 rfl kC_X1 (by decide) rfl wF_X5_188 dX5_rests_79 ?_
        refine fx_aload_n (pc := 82) (t := 5) F 0 rfl rfl dX5_rests_82 ?_
        refine fx_gR (pc := 83) F 5 0 0 4 rfl kC_X5 (by decide) rfl wF_X5_10 dX5_rests_83 ?_
        refine fx_gI (pc := 86) F 4 3 3 rfl kC_X4 rfl wF_X5_191 dX5_rests_86 ?_
        obtain ⟨v17, e18, e14⟩ := fx_bnd e14
        refine fx_cV (pc := 89) F 0 kC_X0 [(6, (fx_tg Λ this_0 0)), (13, (fx_tg Λ (fx_tg Λ this_0 6) 0)), (0, (h10 (fx_tg Λ this_0 0) 3))] (fx_tg Λ this_0 5) [] (m_X0_finesOf Fu Λ (fx_tg Λ this_0 5) (fx_tg Λ this_0 0) (fx_tg Λ (fx_tg Λ this_0 6) 0) (h10 (fx_tg Λ this_0 0) 3) h10 _ e18) kD_X0_finesOf kI_X0_finesOf rfl wM_X5_194 ⟨rfl, rfl⟩ ⟨by decide, by decide⟩ (Nat.le_of_ble_eq_true rfl) rfl dX5_rests_89 ?_
        cases e14
        exact hJ15
def s_X5_better_1 (Fu : Nat) (Λ : fx_L) (this_20 : Int) (person_21 : Int) (hour_22 : Int) (h : fx_H) : Int × Int × Int → Option ((Int × Int × Int) ⊕ (Int × Int × Int)) := fun (best_17, least_18, t_19) =>
  if t_19 < (h (fx_tg Λ this_20 0) 0) then
    (f_X0_fineIn Fu Λ (fx_tg Λ this_20 5) (fx_tg Λ this_20 0) hour_22 person_21 t_19 h).bind fun v25 =>
    if v25 < least_18 then
      some (.inl (t_19, v25, (fx_w (t_19 + 1))))
    else
      some (.inl (best_17, least_18, (fx_w (t_19 + 1))))
  else
    some (.inr (best_17, least_18, t_19))
def f_X5_better (Fu : Nat) (Λ : fx_L) (this_0 : Int) (person_0 : Int) (hour_0 : Int) (h : fx_H) : Option (Int × fx_H) :=
  Option.bind (
    (f_X4_hasPerson Fu Λ (fx_tg Λ this_0 0) person_0 h).bind fun v5 =>
    if v5 = 0 then
      some true
    else
      (f_X4_hasHour Fu Λ (fx_tg Λ this_0 0) hour_0 h).bind fun v8 =>
      if v8 = 0 then
        some true
      else
        some false
  ) fun b1 =>
  if b1 = true then
    (f_X5_refuseBad Fu Λ this_0 (-2) h).bind fun (v12, h13) =>
    some (v12, h13)
  else
    (f_X0_sit Fu Λ (fx_tg Λ this_0 5) (fx_tg Λ this_0 0) (h (fx_tg Λ this_0 0) 1) (-1) h).bind fun h15 =>
    Option.bind (fx_loop (s_X5_better_1 Fu Λ this_0 person_0 hour_0 h15) Fu ((-1), 1000000, 0)) fun (best_36, least_37, t_38) =>
    some (best_36, h15)
abbrev rm_X5_better : Room := { frames := 3, cells := 0, slots := 0, locals := 77 }
set_option maxRecDepth 100000 in
set_option maxHeartbeats 4000000 in
theorem m_X5_better (Fu : Nat) (Λ : fx_L) (this_0 : Int) (person_0 : Int) (hour_0 : Int) (h : fx_H) (r : Int) (ho : fx_H) (hf : f_X5_better Fu Λ this_0 person_0 hour_0 h = some (r, ho)) : fx_Met yX5_better cX5_better 7 (some .int) rm_X5_better Λ [(7, this_0), (0, person_0), (0, hour_0)] h (some (0, r)) ho := by
  unfold f_X5_better at hf
  refine fx_enter (ls := [some (7, this_0), some (0, person_0), some (0, hour_0), none, none, none, none]) (by decide) (Nat.le_of_ble_eq_true rfl) rfl (fun M G F K => ?_)
  obtain ⟨b1, e2, hf⟩ := fx_bnd hf
  have hT3 : b1 = true → fx_J M G Λ 7 22 [some (7, this_0), some (0, person_0), some (0, hour_0), none, none, none, none] [] h := fun c11 => by
    have hf := (if_pos c11).symm.trans hf
    refine fx_aload_n (pc := 22) (t := 5) F 0 rfl rfl dX5_better_22 ?_
    refine fx_bipush (pc := 23) F ⟨by decide, by decide⟩ (by decide) dX5_better_23 ?_
    obtain ⟨⟨v12, h13⟩, e14, hf⟩ := fx_bnd hf
    refine fx_cV (pc := 25) F 5 kC_X5 [(0, (-2))] this_0 [] (m_X5_refuseBad Fu Λ this_0 (-2) h _ _ e14) kD_X5_refuseBad kI_X5_refuseBad rfl wM_X5_63 ⟨rfl, rfl⟩ ⟨by decide, by decide⟩ (Nat.le_of_ble_eq_true rfl) rfl dX5_better_25 ?_
    cases hf
    exact fx_ireturn (pc := 28) F K dX5_better_28
  have hF4 : ¬ b1 = true → fx_J M G Λ 7 29 [some (7, this_0), some (0, person_0), some (0, hour_0), none, none, none, none] [] h := fun c11 => by
    have hf := (if_neg c11).symm.trans hf
    refine fx_aload_n (pc := 29) (t := 5) F 0 rfl rfl dX5_better_29 ?_
    refine fx_gR (pc := 30) F 5 5 5 0 rfl kC_X5 (by decide) rfl wF_X5_37 dX5_better_30 ?_
    refine fx_aload_n (pc := 33) (t := 5) F 0 rfl rfl dX5_better_33 ?_
    refine fx_gR (pc := 34) F 5 0 0 4 rfl kC_X5 (by decide) rfl wF_X5_10 dX5_better_34 ?_
    refine fx_aload_n (pc := 37) (t := 5) F 0 rfl rfl dX5_better_37 ?_
    refine fx_gR (pc := 38) F 5 0 0 4 rfl kC_X5 (by decide) rfl wF_X5_10 dX5_better_38 ?_
    refine fx_gI (pc := 41) F 4 1 1 rfl kC_X4 rfl wF_X5_147 dX5_better_41 ?_
    refine fx_iconst (pc := 44) F ⟨by decide, by decide⟩ dX5_better_44 ?_
    obtain ⟨h15, e16, hf⟩ := fx_bnd hf
    refine fx_cVv (pc := 45) F 0 kC_X0 [(6, (fx_tg Λ this_0 0)), (0, (h (fx_tg Λ this_0 0) 1)), (0, (-1))] (fx_tg Λ this_0 5) [] (m_X0_sit Fu Λ (fx_tg Λ this_0 5) (fx_tg Λ this_0 0) (h (fx_tg Λ this_0 0) 1) (-1) h _ e16) kD_X0_sit kI_X0_sit rfl wM_X5_150 ⟨rfl, rfl⟩ ⟨by decide, by decide⟩ (Nat.le_of_ble_eq_true rfl) rfl dX5_better_45 ?_
    refine fx_iconst (pc := 48) F ⟨by decide, by decide⟩ dX5_better_48 ?_
    refine fx_istore_n (pc := 49) (ls' := [some (7, this_0), some (0, person_0), some (0, hour_0), some (0, (-1)), none, none, none]) F 3 rfl (by decide) rfl rfl dX5_better_49 ?_
    refine fx_ldc (pc := 50) (z := 1000000) F (by decide) ⟨by decide, by decide⟩ wK_X5_198 dX5_better_50 ?_
    refine fx_istore (pc := 52) (ls' := [some (7, this_0), some (0, person_0), some (0, hour_0), some (0, (-1)), some (0, 1000000), none, none]) F (by decide) rfl rfl dX5_better_52 ?_
    refine fx_iconst (pc := 54) F ⟨by decide, by decide⟩ dX5_better_54 ?_
    refine fx_istore (pc := 55) (ls' := [some (7, this_0), some (0, person_0), some (0, hour_0), some (0, (-1)), some (0, 1000000), some (0, 0), none]) F (by decide) rfl rfl dX5_better_55 ?_
    obtain ⟨⟨best_36, least_37, t_38⟩, e39, hf⟩ := fx_bnd hf
    have hE40 : fx_J M G Λ 7 106 [some (7, this_0), some (0, person_0), some (0, hour_0), some (0, best_36), some (0, least_37), some (0, t_38), none] [] h15 := by
      refine fx_iload_n (pc := 106) F 3 rfl rfl dX5_better_106 ?_
      cases hf
      exact fx_ireturn (pc := 107) F K dX5_better_107
    refine fx_loop_J (Hd := (fun z : Int × Int × Int => fx_J M G Λ 7 57 [some (7, this_0), some (0, person_0), some (0, hour_0), some (0, z.1), some (0, z.2.1), some (0, z.2.2), none] [] h15)) (Ex := (fun z : Int × Int × Int => fx_J M G Λ 7 106 [some (7, this_0), some (0, person_0), some (0, hour_0), some (0, z.1), some (0, z.2.1), some (0, z.2.2), none] [] h15)) ?_ Fu _ _ e39 hE40
    rintro ⟨best_28, least_29, t_30⟩ o9 eq31 ih ex
    unfold s_X5_better_1 at eq31
    show fx_J M G Λ 7 57 [some (7, this_0), some (0, person_0), some (0, hour_0), some (0, best_28), some (0, least_29), some (0, t_30), none] [] h15
    refine fx_iload (pc := 57) F rfl dX5_better_57 ?_
    refine fx_aload_n (pc := 59) (t := 5) F 0 rfl rfl dX5_better_59 ?_
    refine fx_gR (pc := 60) F 5 0 0 4 rfl kC_X5 (by decide) rfl wF_X5_10 dX5_better_60 ?_
    refine fx_gI (pc := 63) F 4 0 0 rfl kC_X4 rfl wF_X5_67 dX5_better_63 ?_
    refine fx_nlt (pc := 66) F 106 (by decide) dX5_better_66 (fun c32 => ?_) (fun c32 => ?_)
    · have eq31 := (if_pos c32).symm.trans eq31
      refine fx_aload_n (pc := 69) (t := 5) F 0 rfl rfl dX5_better_69 ?_
      refine fx_gR (pc := 70) F 5 5 5 0 rfl kC_X5 (by decide) rfl wF_X5_37 dX5_better_70 ?_
      refine fx_aload_n (pc := 73) (t := 5) F 0 rfl rfl dX5_better_73 ?_
      refine fx_gR (pc := 74) F 5 0 0 4 rfl kC_X5 (by decide) rfl wF_X5_10 dX5_better_74 ?_
      refine fx_iload_n (pc := 77) F 2 rfl rfl dX5_better_77 ?_
      refine fx_iload_n (pc := 78) F 1 rfl rfl dX5_better_78 ?_
      refine fx_iload (pc := 79) F rfl dX5_better_79 ?_
      obtain ⟨v33, e34, eq31⟩ := fx_bnd eq31
      refine fx_cV (pc := 81) F 0 kC_X0 [(6, (fx_tg Λ this_0 0)), (0, hour_0), (0, person_0), (0, t_30)] (fx_tg Λ this_0 5) [] (m_X0_fineIn Fu Λ (fx_tg Λ this_0 5) (fx_tg Λ this_0 0) hour_0 person_0 t_30 h15 _ e34) kD_X0_fineIn kI_X0_fineIn rfl wM_X5_158 ⟨rfl, rfl⟩ ⟨by decide, by decide⟩ (Nat.le_of_ble_eq_true rfl) rfl dX5_better_81 ?_
      refine fx_istore (pc := 84) (ls' := [some (7, this_0), some (0, person_0), some (0, hour_0), some (0, best_28), some (0, least_29), some (0, t_30), some (0, v33)]) F (by decide) rfl rfl dX5_better_84 ?_
      refine fx_iload (pc := 86) F rfl dX5_better_86 ?_
      refine fx_iload (pc := 88) F rfl dX5_better_88 ?_
      refine fx_nlt (pc := 90) F 100 (by decide) dX5_better_90 (fun c35 => ?_) (fun c35 => ?_)
      · have eq31 := (if_pos c35).symm.trans eq31
        refine fx_iload (pc := 93) F rfl dX5_better_93 ?_
        refine fx_istore (pc := 95) (ls' := [some (7, this_0), some (0, person_0), some (0, hour_0), some (0, best_28), some (0, v33), some (0, t_30), some (0, v33)]) F (by decide) rfl rfl dX5_better_95 ?_
        refine fx_iload (pc := 97) F rfl dX5_better_97 ?_
        refine fx_istore_n (pc := 99) (ls' := [some (7, this_0), some (0, person_0), some (0, hour_0), some (0, t_30), some (0, v33), some (0, t_30), some (0, v33)]) F 3 rfl (by decide) rfl rfl dX5_better_99 ?_
        refine fx_iinc (pc := 100) (ls' := [some (7, this_0), some (0, person_0), some (0, hour_0), some (0, t_30), some (0, v33), some (0, (fx_w (t_30 + 1))), some (0, v33)]) F (by decide) rfl rfl rfl dX5_better_100 ?_
        refine fx_goto (pc := 103) F 57 (by decide) dX5_better_103 ?_
        cases eq31
        refine fx_drop (ls' := [some (7, this_0), some (0, person_0), some (0, hour_0), some (0, t_30), some (0, v33), some (0, (fx_w (t_30 + 1))), none]) ⟨rfl, rfl, rfl, rfl, rfl, rfl, trivial⟩ ?_
        exact ih _ rfl
      · have eq31 := (if_neg c35).symm.trans eq31
        refine fx_iinc (pc := 100) (ls' := [some (7, this_0), some (0, person_0), some (0, hour_0), some (0, best_28), some (0, least_29), some (0, (fx_w (t_30 + 1))), some (0, v33)]) F (by decide) rfl rfl rfl dX5_better_100 ?_
        refine fx_goto (pc := 103) F 57 (by decide) dX5_better_103 ?_
        cases eq31
        refine fx_drop (ls' := [some (7, this_0), some (0, person_0), some (0, hour_0), some (0, best_28), some (0, least_29), some (0, (fx_w (t_30 + 1))), none]) ⟨rfl, rfl, rfl, rfl, rfl, rfl, trivial⟩ ?_
        exact ih _ rfl
    · have eq31 := (if_neg c32).symm.trans eq31
      cases eq31
      exact ex _ rfl
  refine fx_aload_n (pc := 0) (t := 5) F 0 rfl rfl dX5_better_0 ?_
  refine fx_gR (pc := 1) F 5 0 0 4 rfl kC_X5 (by decide) rfl wF_X5_10 dX5_better_1 ?_
  refine fx_iload_n (pc := 4) F 1 rfl rfl dX5_better_4 ?_
  obtain ⟨v5, e6, e2⟩ := fx_bnd e2
  refine fx_cV (pc := 5) F 4 kC_X4 [(0, person_0)] (fx_tg Λ this_0 0) [] (m_X4_hasPerson Fu Λ (fx_tg Λ this_0 0) person_0 h _ e6) kD_X4_hasPerson kI_X4_hasPerson rfl wM_X5_100 ⟨rfl, rfl⟩ ⟨by decide, by decide⟩ (Nat.le_of_ble_eq_true rfl) rfl dX5_better_5 ?_
  refine fx_jzeq (pc := 8) F 22 (by decide) dX5_better_8 (fun c7 => ?_) (fun c7 => ?_)
  · have e2 := (if_pos c7).symm.trans e2
    cases e2
    exact hT3 (by decide)
  · have e2 := (if_neg c7).symm.trans e2
    refine fx_aload_n (pc := 11) (t := 5) F 0 rfl rfl dX5_better_11 ?_
    refine fx_gR (pc := 12) F 5 0 0 4 rfl kC_X5 (by decide) rfl wF_X5_10 dX5_better_12 ?_
    refine fx_iload_n (pc := 15) F 2 rfl rfl dX5_better_15 ?_
    obtain ⟨v8, e9, e2⟩ := fx_bnd e2
    refine fx_cV (pc := 16) F 4 kC_X4 [(0, hour_0)] (fx_tg Λ this_0 0) [] (m_X4_hasHour Fu Λ (fx_tg Λ this_0 0) hour_0 h _ e9) kD_X4_hasHour kI_X4_hasHour rfl wM_X5_90 ⟨rfl, rfl⟩ ⟨by decide, by decide⟩ (Nat.le_of_ble_eq_true rfl) rfl dX5_better_16 ?_
    refine fx_nzeq (pc := 19) F 29 (by decide) dX5_better_19 (fun c10 => ?_) (fun c10 => ?_)
    · have e2 := (if_pos c10).symm.trans e2
      cases e2
      exact hT3 (by decide)
    · have e2 := (if_neg c10).symm.trans e2
      cases e2
      exact hF4 (by decide)
def f_X5_name (Fu : Nat) (Λ : fx_L) (this_0 : Int) (thing_0 : Int) (h : fx_H) : Option (Int × fx_H) :=
  (f_X4_hasThing Fu Λ (fx_tg Λ this_0 0) thing_0 h).bind fun v1 =>
  if v1 = 0 then
    (f_X5_refuseBad Fu Λ this_0 (-1000) h).bind fun (v4, h5) =>
    some (v4, h5)
  else
    (f_X5_allFines Fu Λ this_0 (-1) h).bind fun (v7, h8) =>
    (f_X5_allFines Fu Λ this_0 thing_0 h8).bind fun (v10, h11) =>
    some ((fx_w (v7 - v10)), h11)
abbrev rm_X5_name : Room := { frames := 5, cells := 0, slots := 0, locals := 124 }
set_option maxRecDepth 100000 in
set_option maxHeartbeats 4000000 in
theorem m_X5_name (Fu : Nat) (Λ : fx_L) (this_0 : Int) (thing_0 : Int) (h : fx_H) (r : Int) (ho : fx_H) (hf : f_X5_name Fu Λ this_0 thing_0 h = some (r, ho)) : fx_Met yX5_name cX5_name 2 (some .int) rm_X5_name Λ [(7, this_0), (0, thing_0)] h (some (0, r)) ho := by
  unfold f_X5_name at hf
  refine fx_enter (ls := [some (7, this_0), some (0, thing_0)]) (by decide) (Nat.le_of_ble_eq_true rfl) rfl (fun M G F K => ?_)
  refine fx_aload_n (pc := 0) (t := 5) F 0 rfl rfl dX5_name_0 ?_
  refine fx_gR (pc := 1) F 5 0 0 4 rfl kC_X5 (by decide) rfl wF_X5_10 dX5_name_1 ?_
  refine fx_iload_n (pc := 4) F 1 rfl rfl dX5_name_4 ?_
  obtain ⟨v1, e2, hf⟩ := fx_bnd hf
  refine fx_cV (pc := 5) F 4 kC_X4 [(0, thing_0)] (fx_tg Λ this_0 0) [] (m_X4_hasThing Fu Λ (fx_tg Λ this_0 0) thing_0 h _ e2) kD_X4_hasThing kI_X4_hasThing rfl wM_X5_59 ⟨rfl, rfl⟩ ⟨by decide, by decide⟩ (Nat.le_of_ble_eq_true rfl) rfl dX5_name_5 ?_
  refine fx_nzeq (pc := 8) F 19 (by decide) dX5_name_8 (fun c3 => ?_) (fun c3 => ?_)
  · have hf := (if_pos c3).symm.trans hf
    refine fx_aload_n (pc := 11) (t := 5) F 0 rfl rfl dX5_name_11 ?_
    refine fx_sipush (pc := 12) F ⟨by decide, by decide⟩ (by decide) dX5_name_12 ?_
    obtain ⟨⟨v4, h5⟩, e6, hf⟩ := fx_bnd hf
    refine fx_cV (pc := 15) F 5 kC_X5 [(0, (-1000))] this_0 [] (m_X5_refuseBad Fu Λ this_0 (-1000) h _ _ e6) kD_X5_refuseBad kI_X5_refuseBad rfl wM_X5_63 ⟨rfl, rfl⟩ ⟨by decide, by decide⟩ (Nat.le_of_ble_eq_true rfl) rfl dX5_name_15 ?_
    cases hf
    exact fx_ireturn (pc := 18) F K dX5_name_18
  · have hf := (if_neg c3).symm.trans hf
    refine fx_aload_n (pc := 19) (t := 5) F 0 rfl rfl dX5_name_19 ?_
    refine fx_iconst (pc := 20) F ⟨by decide, by decide⟩ dX5_name_20 ?_
    obtain ⟨⟨v7, h8⟩, e9, hf⟩ := fx_bnd hf
    refine fx_cV (pc := 21) F 5 kC_X5 [(0, (-1))] this_0 [] (m_X5_allFines Fu Λ this_0 (-1) h _ _ e9) kD_X5_allFines kI_X5_allFines rfl wM_X5_162 ⟨rfl, rfl⟩ ⟨by decide, by decide⟩ (Nat.le_of_ble_eq_true rfl) rfl dX5_name_21 ?_
    refine fx_aload_n (pc := 24) (t := 5) F 0 rfl rfl dX5_name_24 ?_
    refine fx_iload_n (pc := 25) F 1 rfl rfl dX5_name_25 ?_
    obtain ⟨⟨v10, h11⟩, e12, hf⟩ := fx_bnd hf
    refine fx_cV (pc := 26) F 5 kC_X5 [(0, thing_0)] this_0 [(0, v7)] (m_X5_allFines Fu Λ this_0 thing_0 h8 _ _ e12) kD_X5_allFines kI_X5_allFines rfl wM_X5_162 ⟨rfl, rfl⟩ ⟨by decide, by decide⟩ (Nat.le_of_ble_eq_true rfl) rfl dX5_name_26 ?_
    refine fx_isub (pc := 29) F dX5_name_29 ?_
    cases hf
    exact fx_ireturn (pc := 30) F K dX5_name_30
def s_X5_finesOfOne_1 (Fu : Nat) (Λ : fx_L) (this_3 : Int) (person_4 : Int) (h : fx_H) : Int × Int → Option ((Int × Int) ⊕ (Int × Int)) := fun (fines_1, hour_2) =>
  if hour_2 < (h (fx_tg Λ this_3 0) 3) then
    (fx_rr Λ (fx_tg Λ (fx_tg Λ this_3 0) 8) hour_2).bind fun v7 =>
    (fx_rd Λ h v7 person_4).bind fun v9 =>
    (f_X0_fineIn Fu Λ (fx_tg Λ this_3 5) (fx_tg Λ this_3 0) hour_2 person_4 v9 h).bind fun v11 =>
    some (.inl ((fx_w (fines_1 + v11)), (fx_w (hour_2 + 1))))
  else
    some (.inr (fines_1, hour_2))
def f_X5_finesOfOne (Fu : Nat) (Λ : fx_L) (this_0 : Int) (person_0 : Int) (h : fx_H) : Option (Int) :=
  Option.bind (fx_loop (s_X5_finesOfOne_1 Fu Λ this_0 person_0 h) Fu (0, 0)) fun (fines_23, hour_24) =>
  some fines_23
abbrev rm_X5_finesOfOne : Room := { frames := 3, cells := 0, slots := 0, locals := 77 }
set_option maxRecDepth 100000 in
set_option maxHeartbeats 4000000 in
theorem m_X5_finesOfOne (Fu : Nat) (Λ : fx_L) (this_0 : Int) (person_0 : Int) (h : fx_H) (r : Int) (hf : f_X5_finesOfOne Fu Λ this_0 person_0 h = some r) : fx_Met yX5_finesOfOne cX5_finesOfOne 4 (some .int) rm_X5_finesOfOne Λ [(7, this_0), (0, person_0)] h (some (0, r)) h := by
  unfold f_X5_finesOfOne at hf
  refine fx_enter (ls := [some (7, this_0), some (0, person_0), none, none]) (by decide) (Nat.le_of_ble_eq_true rfl) rfl (fun M G F K => ?_)
  refine fx_iconst (pc := 0) F ⟨by decide, by decide⟩ dX5_finesOfOne_0 ?_
  refine fx_istore_n (pc := 1) (ls' := [some (7, this_0), some (0, person_0), some (0, 0), none]) F 2 rfl (by decide) rfl rfl dX5_finesOfOne_1 ?_
  refine fx_iconst (pc := 2) F ⟨by decide, by decide⟩ dX5_finesOfOne_2 ?_
  refine fx_istore_n (pc := 3) (ls' := [some (7, this_0), some (0, person_0), some (0, 0), some (0, 0)]) F 3 rfl (by decide) rfl rfl dX5_finesOfOne_3 ?_
  obtain ⟨⟨fines_23, hour_24⟩, e25, hf⟩ := fx_bnd hf
  have hE26 : fx_J M G Λ 4 48 [some (7, this_0), some (0, person_0), some (0, fines_23), some (0, hour_24)] [] h := by
    refine fx_iload_n (pc := 48) F 2 rfl rfl dX5_finesOfOne_48 ?_
    cases hf
    exact fx_ireturn (pc := 49) F K dX5_finesOfOne_49
  refine fx_loop_J (Hd := (fun z : Int × Int => fx_J M G Λ 4 4 [some (7, this_0), some (0, person_0), some (0, z.1), some (0, z.2)] [] h)) (Ex := (fun z : Int × Int => fx_J M G Λ 4 48 [some (7, this_0), some (0, person_0), some (0, z.1), some (0, z.2)] [] h)) ?_ Fu _ _ e25 hE26
  rintro ⟨fines_13, hour_14⟩ o9 eq15 ih ex
  unfold s_X5_finesOfOne_1 at eq15
  show fx_J M G Λ 4 4 [some (7, this_0), some (0, person_0), some (0, fines_13), some (0, hour_14)] [] h
  refine fx_iload_n (pc := 4) F 3 rfl rfl dX5_finesOfOne_4 ?_
  refine fx_aload_n (pc := 5) (t := 5) F 0 rfl rfl dX5_finesOfOne_5 ?_
  refine fx_gR (pc := 6) F 5 0 0 4 rfl kC_X5 (by decide) rfl wF_X5_10 dX5_finesOfOne_6 ?_
  refine fx_gI (pc := 9) F 4 3 3 rfl kC_X4 rfl wF_X5_191 dX5_finesOfOne_9 ?_
  refine fx_nlt (pc := 12) F 48 (by decide) dX5_finesOfOne_12 (fun c16 => ?_) (fun c16 => ?_)
  · have eq15 := (if_pos c16).symm.trans eq15
    refine fx_iload_n (pc := 15) F 2 rfl rfl dX5_finesOfOne_15 ?_
    refine fx_aload_n (pc := 16) (t := 5) F 0 rfl rfl dX5_finesOfOne_16 ?_
    refine fx_gR (pc := 17) F 5 5 5 0 rfl kC_X5 (by decide) rfl wF_X5_37 dX5_finesOfOne_17 ?_
    refine fx_aload_n (pc := 20) (t := 5) F 0 rfl rfl dX5_finesOfOne_20 ?_
    refine fx_gR (pc := 21) F 5 0 0 4 rfl kC_X5 (by decide) rfl wF_X5_10 dX5_finesOfOne_21 ?_
    refine fx_iload_n (pc := 24) F 3 rfl rfl dX5_finesOfOne_24 ?_
    refine fx_iload_n (pc := 25) F 1 rfl rfl dX5_finesOfOne_25 ?_
    refine fx_aload_n (pc := 26) (t := 5) F 0 rfl rfl dX5_finesOfOne_26 ?_
    refine fx_gR (pc := 27) F 5 0 0 4 rfl kC_X5 (by decide) rfl wF_X5_10 dX5_finesOfOne_27 ?_
    refine fx_gR (pc := 30) F 4 8 8 11 rfl kC_X4 (by decide) rfl wF_X5_106 dX5_finesOfOne_30 ?_
    refine fx_iload_n (pc := 33) F 3 rfl rfl dX5_finesOfOne_33 ?_
    obtain ⟨v17, e18, eq15⟩ := fx_bnd eq15
    refine fx_raldG (pc := 34) F e18 dX5_finesOfOne_34 ?_
    refine fx_iload_n (pc := 35) F 1 rfl rfl dX5_finesOfOne_35 ?_
    obtain ⟨v19, e20, eq15⟩ := fx_bnd eq15
    refine fx_raldI (pc := 36) F e20 dX5_finesOfOne_36 ?_
    obtain ⟨v21, e22, eq15⟩ := fx_bnd eq15
    refine fx_cV (pc := 37) F 0 kC_X0 [(6, (fx_tg Λ this_0 0)), (0, hour_14), (0, person_0), (0, v19)] (fx_tg Λ this_0 5) [(0, fines_13)] (m_X0_fineIn Fu Λ (fx_tg Λ this_0 5) (fx_tg Λ this_0 0) hour_14 person_0 v19 h _ e22) kD_X0_fineIn kI_X0_fineIn rfl wM_X5_158 ⟨rfl, rfl⟩ ⟨by decide, by decide⟩ (Nat.le_of_ble_eq_true rfl) rfl dX5_finesOfOne_37 ?_
    refine fx_iadd (pc := 40) F dX5_finesOfOne_40 ?_
    refine fx_istore_n (pc := 41) (ls' := [some (7, this_0), some (0, person_0), some (0, (fx_w (fines_13 + v21))), some (0, hour_14)]) F 2 rfl (by decide) rfl rfl dX5_finesOfOne_41 ?_
    refine fx_iinc (pc := 42) (ls' := [some (7, this_0), some (0, person_0), some (0, (fx_w (fines_13 + v21))), some (0, (fx_w (hour_14 + 1)))]) F (by decide) rfl rfl rfl dX5_finesOfOne_42 ?_
    refine fx_goto (pc := 45) F 4 (by decide) dX5_finesOfOne_45 ?_
    cases eq15
    exact ih _ rfl
  · have eq15 := (if_neg c16).symm.trans eq15
    cases eq15
    exact ex _ rfl
def s_X5_line_1 (Fu : Nat) (Λ : fx_L) (this_11 : Int) (person_12 : Int) : Int × Int × Int × fx_H → Option ((Int × Int × Int × fx_H) ⊕ (Int × Int × Int × fx_H)) := fun (best_7, least_8, line_9, h10) =>
  if line_9 ≤ 4 then
    (f_X0_sit Fu Λ (fx_tg Λ this_11 5) (fx_tg Λ this_11 0) line_9 (-1) h10).bind fun h15 =>
    (f_X5_finesOfOne Fu Λ this_11 person_12 h15).bind fun v17 =>
    if v17 < least_8 then
      some (.inl (line_9, v17, (fx_w (line_9 + 1)), h15))
    else
      some (.inl (best_7, least_8, (fx_w (line_9 + 1)), h15))
  else
    some (.inr (best_7, least_8, line_9, h10))
def f_X5_line (Fu : Nat) (Λ : fx_L) (this_0 : Int) (person_0 : Int) (h : fx_H) : Option (Int × fx_H) :=
  (f_X4_hasPerson Fu Λ (fx_tg Λ this_0 0) person_0 h).bind fun v1 =>
  if v1 = 0 then
    (f_X5_refuseBad Fu Λ this_0 (-2) h).bind fun (v4, h5) =>
    some (v4, h5)
  else
    Option.bind (fx_loop (s_X5_line_1 Fu Λ this_0 person_0) Fu (0, 1000000, 0, h)) fun (best_31, least_32, line_33, h34) =>
    some (best_31, h34)
abbrev rm_X5_line : Room := { frames := 4, cells := 0, slots := 0, locals := 100 }
set_option maxRecDepth 100000 in
set_option maxHeartbeats 4000000 in
theorem m_X5_line (Fu : Nat) (Λ : fx_L) (this_0 : Int) (person_0 : Int) (h : fx_H) (r : Int) (ho : fx_H) (hf : f_X5_line Fu Λ this_0 person_0 h = some (r, ho)) : fx_Met yX5_line cX5_line 6 (some .int) rm_X5_line Λ [(7, this_0), (0, person_0)] h (some (0, r)) ho := by
  unfold f_X5_line at hf
  refine fx_enter (ls := [some (7, this_0), some (0, person_0), none, none, none, none]) (by decide) (Nat.le_of_ble_eq_true rfl) rfl (fun M G F K => ?_)
  refine fx_aload_n (pc := 0) (t := 5) F 0 rfl rfl dX5_line_0 ?_
  refine fx_gR (pc := 1) F 5 0 0 4 rfl kC_X5 (by decide) rfl wF_X5_10 dX5_line_1 ?_
  refine fx_iload_n (pc := 4) F 1 rfl rfl dX5_line_4 ?_
  obtain ⟨v1, e2, hf⟩ := fx_bnd hf
  refine fx_cV (pc := 5) F 4 kC_X4 [(0, person_0)] (fx_tg Λ this_0 0) [] (m_X4_hasPerson Fu Λ (fx_tg Λ this_0 0) person_0 h _ e2) kD_X4_hasPerson kI_X4_hasPerson rfl wM_X5_100 ⟨rfl, rfl⟩ ⟨by decide, by decide⟩ (Nat.le_of_ble_eq_true rfl) rfl dX5_line_5 ?_
  refine fx_nzeq (pc := 8) F 18 (by decide) dX5_line_8 (fun c3 => ?_) (fun c3 => ?_)
  · have hf := (if_pos c3).symm.trans hf
    refine fx_aload_n (pc := 11) (t := 5) F 0 rfl rfl dX5_line_11 ?_
    refine fx_bipush (pc := 12) F ⟨by decide, by decide⟩ (by decide) dX5_line_12 ?_
    obtain ⟨⟨v4, h5⟩, e6, hf⟩ := fx_bnd hf
    refine fx_cV (pc := 14) F 5 kC_X5 [(0, (-2))] this_0 [] (m_X5_refuseBad Fu Λ this_0 (-2) h _ _ e6) kD_X5_refuseBad kI_X5_refuseBad rfl wM_X5_63 ⟨rfl, rfl⟩ ⟨by decide, by decide⟩ (Nat.le_of_ble_eq_true rfl) rfl dX5_line_14 ?_
    cases hf
    exact fx_ireturn (pc := 17) F K dX5_line_17
  · have hf := (if_neg c3).symm.trans hf
    refine fx_iconst (pc := 18) F ⟨by decide, by decide⟩ dX5_line_18 ?_
    refine fx_istore_n (pc := 19) (ls' := [some (7, this_0), some (0, person_0), some (0, 0), none, none, none]) F 2 rfl (by decide) rfl rfl dX5_line_19 ?_
    refine fx_ldc (pc := 20) (z := 1000000) F (by decide) ⟨by decide, by decide⟩ wK_X5_198 dX5_line_20 ?_
    refine fx_istore_n (pc := 22) (ls' := [some (7, this_0), some (0, person_0), some (0, 0), some (0, 1000000), none, none]) F 3 rfl (by decide) rfl rfl dX5_line_22 ?_
    refine fx_iconst (pc := 23) F ⟨by decide, by decide⟩ dX5_line_23 ?_
    refine fx_istore (pc := 24) (ls' := [some (7, this_0), some (0, person_0), some (0, 0), some (0, 1000000), some (0, 0), none]) F (by decide) rfl rfl dX5_line_24 ?_
    obtain ⟨⟨best_31, least_32, line_33, h34⟩, e35, hf⟩ := fx_bnd hf
    have hE36 : fx_J M G Λ 6 71 [some (7, this_0), some (0, person_0), some (0, best_31), some (0, least_32), some (0, line_33), none] [] h34 := by
      refine fx_iload_n (pc := 71) F 2 rfl rfl dX5_line_71 ?_
      cases hf
      exact fx_ireturn (pc := 72) F K dX5_line_72
    refine fx_loop_J (Hd := (fun z : Int × Int × Int × fx_H => fx_J M G Λ 6 26 [some (7, this_0), some (0, person_0), some (0, z.1), some (0, z.2.1), some (0, z.2.2.1), none] [] z.2.2.2)) (Ex := (fun z : Int × Int × Int × fx_H => fx_J M G Λ 6 71 [some (7, this_0), some (0, person_0), some (0, z.1), some (0, z.2.1), some (0, z.2.2.1), none] [] z.2.2.2)) ?_ Fu _ _ e35 hE36
    rintro ⟨best_20, least_21, line_22, h23⟩ o9 eq24 ih ex
    unfold s_X5_line_1 at eq24
    show fx_J M G Λ 6 26 [some (7, this_0), some (0, person_0), some (0, best_20), some (0, least_21), some (0, line_22), none] [] h23
    refine fx_iload (pc := 26) F rfl dX5_line_26 ?_
    refine fx_iconst (pc := 28) F ⟨by decide, by decide⟩ dX5_line_28 ?_
    refine fx_nle (pc := 29) F 71 (by decide) dX5_line_29 (fun c25 => ?_) (fun c25 => ?_)
    · have eq24 := (if_pos c25).symm.trans eq24
      refine fx_aload_n (pc := 32) (t := 5) F 0 rfl rfl dX5_line_32 ?_
      refine fx_gR (pc := 33) F 5 5 5 0 rfl kC_X5 (by decide) rfl wF_X5_37 dX5_line_33 ?_
      refine fx_aload_n (pc := 36) (t := 5) F 0 rfl rfl dX5_line_36 ?_
      refine fx_gR (pc := 37) F 5 0 0 4 rfl kC_X5 (by decide) rfl wF_X5_10 dX5_line_37 ?_
      refine fx_iload (pc := 40) F rfl dX5_line_40 ?_
      refine fx_iconst (pc := 42) F ⟨by decide, by decide⟩ dX5_line_42 ?_
      obtain ⟨h26, e27, eq24⟩ := fx_bnd eq24
      refine fx_cVv (pc := 43) F 0 kC_X0 [(6, (fx_tg Λ this_0 0)), (0, line_22), (0, (-1))] (fx_tg Λ this_0 5) [] (m_X0_sit Fu Λ (fx_tg Λ this_0 5) (fx_tg Λ this_0 0) line_22 (-1) h23 _ e27) kD_X0_sit kI_X0_sit rfl wM_X5_150 ⟨rfl, rfl⟩ ⟨by decide, by decide⟩ (Nat.le_of_ble_eq_true rfl) rfl dX5_line_43 ?_
      refine fx_aload_n (pc := 46) (t := 5) F 0 rfl rfl dX5_line_46 ?_
      refine fx_iload_n (pc := 47) F 1 rfl rfl dX5_line_47 ?_
      obtain ⟨v28, e29, eq24⟩ := fx_bnd eq24
      refine fx_cV (pc := 48) F 5 kC_X5 [(0, person_0)] this_0 [] (m_X5_finesOfOne Fu Λ this_0 person_0 h26 _ e29) kD_X5_finesOfOne kI_X5_finesOfOne rfl wM_X5_199 ⟨rfl, rfl⟩ ⟨by decide, by decide⟩ (Nat.le_of_ble_eq_true rfl) rfl dX5_line_48 ?_
      refine fx_istore (pc := 51) (ls' := [some (7, this_0), some (0, person_0), some (0, best_20), some (0, least_21), some (0, line_22), some (0, v28)]) F (by decide) rfl rfl dX5_line_51 ?_
      refine fx_iload (pc := 53) F rfl dX5_line_53 ?_
      refine fx_iload_n (pc := 55) F 3 rfl rfl dX5_line_55 ?_
      refine fx_nlt (pc := 56) F 65 (by decide) dX5_line_56 (fun c30 => ?_) (fun c30 => ?_)
      · have eq24 := (if_pos c30).symm.trans eq24
        refine fx_iload (pc := 59) F rfl dX5_line_59 ?_
        refine fx_istore_n (pc := 61) (ls' := [some (7, this_0), some (0, person_0), some (0, best_20), some (0, v28), some (0, line_22), some (0, v28)]) F 3 rfl (by decide) rfl rfl dX5_line_61 ?_
        refine fx_iload (pc := 62) F rfl dX5_line_62 ?_
        refine fx_istore_n (pc := 64) (ls' := [some (7, this_0), some (0, person_0), some (0, line_22), some (0, v28), some (0, line_22), some (0, v28)]) F 2 rfl (by decide) rfl rfl dX5_line_64 ?_
        refine fx_iinc (pc := 65) (ls' := [some (7, this_0), some (0, person_0), some (0, line_22), some (0, v28), some (0, (fx_w (line_22 + 1))), some (0, v28)]) F (by decide) rfl rfl rfl dX5_line_65 ?_
        refine fx_goto (pc := 68) F 26 (by decide) dX5_line_68 ?_
        cases eq24
        refine fx_drop (ls' := [some (7, this_0), some (0, person_0), some (0, line_22), some (0, v28), some (0, (fx_w (line_22 + 1))), none]) ⟨rfl, rfl, rfl, rfl, rfl, trivial⟩ ?_
        exact ih _ rfl
      · have eq24 := (if_neg c30).symm.trans eq24
        refine fx_iinc (pc := 65) (ls' := [some (7, this_0), some (0, person_0), some (0, best_20), some (0, least_21), some (0, (fx_w (line_22 + 1))), some (0, v28)]) F (by decide) rfl rfl rfl dX5_line_65 ?_
        refine fx_goto (pc := 68) F 26 (by decide) dX5_line_68 ?_
        cases eq24
        refine fx_drop (ls' := [some (7, this_0), some (0, person_0), some (0, best_20), some (0, least_21), some (0, (fx_w (line_22 + 1))), none]) ⟨rfl, rfl, rfl, rfl, rfl, trivial⟩ ?_
        exact ih _ rfl
    · have eq24 := (if_neg c25).symm.trans eq24
      cases eq24
      exact ex _ rfl
def s_X0_leastOfChoir_1 (Fu : Nat) (Λ : fx_L) (this_3 : Int) (thing_4 : Int) (m_5 : Int) : Int × fx_H → Option ((Int × fx_H) ⊕ (Int × fx_H)) := fun (person_1, h2) =>
  if person_1 < 5 then
    Option.bind (
      if person_1 < m_5 then
        some thing_4
      else
        some (9 : Int)
    ) fun v8 =>
    (fx_wr Λ h2 (fx_tg Λ this_3 3) person_1 v8).bind fun h12 =>
    some (.inl ((fx_w (person_1 + 1)), h12))
  else
    some (.inr (person_1, h2))
def s_X0_leastOfChoir_2 (Fu : Nat) (Λ : fx_L) (this_30 : Int) (town_31 : Int) (h : fx_H) : Int × Int → Option ((Int × Int) ⊕ (Int × Int)) := fun (least_28, hour_29) =>
  if hour_29 < (h town_31 3) then
    (f_X4_kindOf Fu Λ town_31 hour_29 h).bind fun v34 =>
    (f_X0_finesOfHour Fu Λ this_30 v34 (fx_tg Λ this_30 3) (fx_tg Λ this_30 2) h).bind fun v36 =>
    some (.inl ((min least_28 v36), (fx_w (hour_29 + 1))))
  else
    some (.inr (least_28, hour_29))
def f_X0_leastOfChoir (Fu : Nat) (Λ : fx_L) (this_0 : Int) (town_0 : Int) (thing_0 : Int) (m_0 : Int) (h : fx_H) : Option (Int × fx_H) :=
  Option.bind (fx_loop (s_X0_leastOfChoir_1 Fu Λ this_0 thing_0 m_0) Fu (0, h)) fun (person_24, h25) =>
  Option.bind (fx_loop (s_X0_leastOfChoir_2 Fu Λ this_0 town_0 h25) Fu (1000000, 0)) fun (least_46, hour_47) =>
  some (least_46, h25)
abbrev rm_X0_leastOfChoir : Room := { frames := 3, cells := 0, slots := 0, locals := 78 }
set_option maxRecDepth 100000 in
set_option maxHeartbeats 4000000 in
theorem m_X0_leastOfChoir (Fu : Nat) (Λ : fx_L) (this_0 : Int) (town_0 : Int) (thing_0 : Int) (m_0 : Int) (h : fx_H) (r : Int) (ho : fx_H) (hf : f_X0_leastOfChoir Fu Λ this_0 town_0 thing_0 m_0 h = some (r, ho)) : fx_Met yX0_leastOfChoir cX0_leastOfChoir 6 (some .int) rm_X0_leastOfChoir Λ [(2, this_0), (6, town_0), (0, thing_0), (0, m_0)] h (some (0, r)) ho := by
  unfold f_X0_leastOfChoir at hf
  refine fx_enter (ls := [some (2, this_0), some (6, town_0), some (0, thing_0), some (0, m_0), none, none]) (by decide) (Nat.le_of_ble_eq_true rfl) rfl (fun M G F K => ?_)
  refine fx_iconst (pc := 0) F ⟨by decide, by decide⟩ dX0_leastOfChoir_0 ?_
  refine fx_istore (pc := 1) (ls' := [some (2, this_0), some (6, town_0), some (0, thing_0), some (0, m_0), some (0, 0), none]) F (by decide) rfl rfl dX0_leastOfChoir_1 ?_
  obtain ⟨⟨person_24, h25⟩, e26, hf⟩ := fx_bnd hf
  have hE27 : fx_J M G Λ 6 34 [some (2, this_0), some (6, town_0), some (0, thing_0), some (0, m_0), some (0, person_24), none] [] h25 := by
    refine fx_ldc (pc := 34) (z := 1000000) F (by decide) ⟨by decide, by decide⟩ wK_X0_71 dX0_leastOfChoir_34 ?_
    refine fx_istore (pc := 36) (ls' := [some (2, this_0), some (6, town_0), some (0, thing_0), some (0, m_0), some (0, 1000000), none]) F (by decide) rfl rfl dX0_leastOfChoir_36 ?_
    refine fx_iconst (pc := 38) F ⟨by decide, by decide⟩ dX0_leastOfChoir_38 ?_
    refine fx_istore (pc := 39) (ls' := [some (2, this_0), some (6, town_0), some (0, thing_0), some (0, m_0), some (0, 1000000), some (0, 0)]) F (by decide) rfl rfl dX0_leastOfChoir_39 ?_
    obtain ⟨⟨least_46, hour_47⟩, e48, hf⟩ := fx_bnd hf
    have hE49 : fx_J M G Λ 6 81 [some (2, this_0), some (6, town_0), some (0, thing_0), some (0, m_0), some (0, least_46), some (0, hour_47)] [] h25 := by
      refine fx_iload (pc := 81) F rfl dX0_leastOfChoir_81 ?_
      cases hf
      exact fx_ireturn (pc := 83) F K dX0_leastOfChoir_83
    refine fx_loop_J (Hd := (fun z : Int × Int => fx_J M G Λ 6 41 [some (2, this_0), some (6, town_0), some (0, thing_0), some (0, m_0), some (0, z.1), some (0, z.2)] [] h25)) (Ex := (fun z : Int × Int => fx_J M G Λ 6 81 [some (2, this_0), some (6, town_0), some (0, thing_0), some (0, m_0), some (0, z.1), some (0, z.2)] [] h25)) ?_ Fu _ _ e48 hE49
    rintro ⟨least_38, hour_39⟩ o9 eq40 ih ex
    unfold s_X0_leastOfChoir_2 at eq40
    show fx_J M G Λ 6 41 [some (2, this_0), some (6, town_0), some (0, thing_0), some (0, m_0), some (0, least_38), some (0, hour_39)] [] h25
    refine fx_iload (pc := 41) F rfl dX0_leastOfChoir_41 ?_
    refine fx_aload_n (pc := 43) (t := 4) F 1 rfl rfl dX0_leastOfChoir_43 ?_
    refine fx_gI (pc := 44) F 4 3 3 rfl kC_X4 rfl wF_X0_72 dX0_leastOfChoir_44 ?_
    refine fx_nlt (pc := 47) F 81 (by decide) dX0_leastOfChoir_47 (fun c41 => ?_) (fun c41 => ?_)
    · have eq40 := (if_pos c41).symm.trans eq40
      refine fx_iload (pc := 50) F rfl dX0_leastOfChoir_50 ?_
      refine fx_aload_n (pc := 52) (t := 0) F 0 rfl rfl dX0_leastOfChoir_52 ?_
      refine fx_aload_n (pc := 53) (t := 4) F 1 rfl rfl dX0_leastOfChoir_53 ?_
      refine fx_iload (pc := 54) F rfl dX0_leastOfChoir_54 ?_
      obtain ⟨v42, e43, eq40⟩ := fx_bnd eq40
      refine fx_cV (pc := 56) F 4 kC_X4 [(0, hour_39)] town_0 [(2, this_0), (0, least_38)] (m_X4_kindOf Fu Λ town_0 hour_39 h25 _ e43) kD_X4_kindOf kI_X4_kindOf rfl wM_X0_51 ⟨rfl, rfl⟩ ⟨by decide, by decide⟩ (Nat.le_of_ble_eq_true rfl) rfl dX0_leastOfChoir_56 ?_
      refine fx_aload_n (pc := 59) (t := 0) F 0 rfl rfl dX0_leastOfChoir_59 ?_
      refine fx_gR (pc := 60) F 0 3 3 8 rfl kC_X0 (by decide) rfl wF_X0_21 dX0_leastOfChoir_60 ?_
      refine fx_aload_n (pc := 63) (t := 0) F 0 rfl rfl dX0_leastOfChoir_63 ?_
      refine fx_gR (pc := 64) F 0 2 2 8 rfl kC_X0 (by decide) rfl wF_X0_18 dX0_leastOfChoir_64 ?_
      obtain ⟨v44, e45, eq40⟩ := fx_bnd eq40
      refine fx_cV (pc := 67) F 0 kC_X0 [(0, v42), (10, (fx_tg Λ this_0 3)), (10, (fx_tg Λ this_0 2))] this_0 [(0, least_38)] (m_X0_finesOfHour Fu Λ this_0 v42 (fx_tg Λ this_0 3) (fx_tg Λ this_0 2) h25 _ e45) kD_X0_finesOfHour kI_X0_finesOfHour rfl wM_X0_67 ⟨rfl, rfl⟩ ⟨by decide, by decide⟩ (Nat.le_of_ble_eq_true rfl) rfl dX0_leastOfChoir_67 ?_
      refine fx_imin (pc := 70) F wM_X0_75 wSt_min wI_J9 wCo_min (by decide) (Nat.le_of_ble_eq_true rfl) dX0_leastOfChoir_70 ?_
      refine fx_istore (pc := 73) (ls' := [some (2, this_0), some (6, town_0), some (0, thing_0), some (0, m_0), some (0, (min least_38 v44)), some (0, hour_39)]) F (by decide) rfl rfl dX0_leastOfChoir_73 ?_
      refine fx_iinc (pc := 75) (ls' := [some (2, this_0), some (6, town_0), some (0, thing_0), some (0, m_0), some (0, (min least_38 v44)), some (0, (fx_w (hour_39 + 1)))]) F (by decide) rfl rfl rfl dX0_leastOfChoir_75 ?_
      refine fx_goto (pc := 78) F 41 (by decide) dX0_leastOfChoir_78 ?_
      cases eq40
      exact ih _ rfl
    · have eq40 := (if_neg c41).symm.trans eq40
      cases eq40
      exact ex _ rfl
  refine fx_loop_J (Hd := (fun z : Int × fx_H => fx_J M G Λ 6 3 [some (2, this_0), some (6, town_0), some (0, thing_0), some (0, m_0), some (0, z.1), none] [] z.2)) (Ex := (fun z : Int × fx_H => fx_J M G Λ 6 34 [some (2, this_0), some (6, town_0), some (0, thing_0), some (0, m_0), some (0, z.1), none] [] z.2)) ?_ Fu _ _ e26 hE27
  rintro ⟨person_14, h15⟩ o9 eq16 ih ex
  unfold s_X0_leastOfChoir_1 at eq16
  show fx_J M G Λ 6 3 [some (2, this_0), some (6, town_0), some (0, thing_0), some (0, m_0), some (0, person_14), none] [] h15
  refine fx_iload (pc := 3) F rfl dX0_leastOfChoir_3 ?_
  refine fx_iconst (pc := 5) F ⟨by decide, by decide⟩ dX0_leastOfChoir_5 ?_
  refine fx_nlt (pc := 6) F 34 (by decide) dX0_leastOfChoir_6 (fun c17 => ?_) (fun c17 => ?_)
  · have eq16 := (if_pos c17).symm.trans eq16
    refine fx_aload_n (pc := 9) (t := 0) F 0 rfl rfl dX0_leastOfChoir_9 ?_
    refine fx_gR (pc := 10) F 0 3 3 8 rfl kC_X0 (by decide) rfl wF_X0_21 dX0_leastOfChoir_10 ?_
    refine fx_iload (pc := 13) F rfl dX0_leastOfChoir_13 ?_
    obtain ⟨v18, e19, eq16⟩ := fx_bnd eq16
    have hJ20 : fx_J M G Λ 6 27 [some (2, this_0), some (6, town_0), some (0, thing_0), some (0, m_0), some (0, person_14), none] [(0, v18), (0, person_14), (10, (fx_tg Λ this_0 3))] h15 := by
      obtain ⟨h22, e23, eq16⟩ := fx_bnd eq16
      refine fx_rastI (pc := 27) F e23 dX0_leastOfChoir_27 ?_
      refine fx_iinc (pc := 28) (ls' := [some (2, this_0), some (6, town_0), some (0, thing_0), some (0, m_0), some (0, (fx_w (person_14 + 1))), none]) F (by decide) rfl rfl rfl dX0_leastOfChoir_28 ?_
      refine fx_goto (pc := 31) F 3 (by decide) dX0_leastOfChoir_31 ?_
      cases eq16
      exact ih _ rfl
    refine fx_iload (pc := 15) F rfl dX0_leastOfChoir_15 ?_
    refine fx_iload_n (pc := 17) F 3 rfl rfl dX0_leastOfChoir_17 ?_
    refine fx_nlt (pc := 18) F 25 (by decide) dX0_leastOfChoir_18 (fun c21 => ?_) (fun c21 => ?_)
    · have e19 := (if_pos c21).symm.trans e19
      refine fx_iload_n (pc := 21) F 2 rfl rfl dX0_leastOfChoir_21 ?_
      cases e19
      refine fx_goto (pc := 22) F 27 (by decide) dX0_leastOfChoir_22 ?_
      exact hJ20
    · have e19 := (if_neg c21).symm.trans e19
      refine fx_bipush (pc := 25) F ⟨by decide, by decide⟩ (by decide) dX0_leastOfChoir_25 ?_
      cases e19
      exact hJ20
  · have eq16 := (if_neg c17).symm.trans eq16
    cases eq16
    exact ex _ rfl
def f_X5_choir (Fu : Nat) (Λ : fx_L) (this_0 : Int) (thing_0 : Int) (m_0 : Int) (h : fx_H) : Option (Int × fx_H) :=
  Option.bind (
    (f_X4_hasThing Fu Λ (fx_tg Λ this_0 0) thing_0 h).bind fun v5 =>
    if v5 = 0 then
      some true
    else
      (f_X5_within Fu Λ m_0 1 (h (fx_tg Λ this_0 0) 2) h).bind fun v8 =>
      if v8 = 0 then
        some true
      else
        some false
  ) fun b1 =>
  if b1 = true then
    (f_X5_refuseBad Fu Λ this_0 (-2) h).bind fun (v12, h13) =>
    some (v12, h13)
  else
    (f_X0_sit Fu Λ (fx_tg Λ this_0 5) (fx_tg Λ this_0 0) (h (fx_tg Λ this_0 0) 1) (-1) h).bind fun h15 =>
    (f_X0_leastOfChoir Fu Λ (fx_tg Λ this_0 5) (fx_tg Λ this_0 0) thing_0 m_0 h15).bind fun (v17, h18) =>
    some (v17, h18)
abbrev rm_X5_choir : Room := { frames := 4, cells := 0, slots := 0, locals := 103 }
set_option maxRecDepth 100000 in
set_option maxHeartbeats 4000000 in
theorem m_X5_choir (Fu : Nat) (Λ : fx_L) (this_0 : Int) (thing_0 : Int) (m_0 : Int) (h : fx_H) (r : Int) (ho : fx_H) (hf : f_X5_choir Fu Λ this_0 thing_0 m_0 h = some (r, ho)) : fx_Met yX5_choir cX5_choir 3 (some .int) rm_X5_choir Λ [(7, this_0), (0, thing_0), (0, m_0)] h (some (0, r)) ho := by
  unfold f_X5_choir at hf
  refine fx_enter (ls := [some (7, this_0), some (0, thing_0), some (0, m_0)]) (by decide) (Nat.le_of_ble_eq_true rfl) rfl (fun M G F K => ?_)
  obtain ⟨b1, e2, hf⟩ := fx_bnd hf
  have hT3 : b1 = true → fx_J M G Λ 3 26 [some (7, this_0), some (0, thing_0), some (0, m_0)] [] h := fun c11 => by
    have hf := (if_pos c11).symm.trans hf
    refine fx_aload_n (pc := 26) (t := 5) F 0 rfl rfl dX5_choir_26 ?_
    refine fx_bipush (pc := 27) F ⟨by decide, by decide⟩ (by decide) dX5_choir_27 ?_
    obtain ⟨⟨v12, h13⟩, e14, hf⟩ := fx_bnd hf
    refine fx_cV (pc := 29) F 5 kC_X5 [(0, (-2))] this_0 [] (m_X5_refuseBad Fu Λ this_0 (-2) h _ _ e14) kD_X5_refuseBad kI_X5_refuseBad rfl wM_X5_63 ⟨rfl, rfl⟩ ⟨by decide, by decide⟩ (Nat.le_of_ble_eq_true rfl) rfl dX5_choir_29 ?_
    cases hf
    exact fx_ireturn (pc := 32) F K dX5_choir_32
  have hF4 : ¬ b1 = true → fx_J M G Λ 3 33 [some (7, this_0), some (0, thing_0), some (0, m_0)] [] h := fun c11 => by
    have hf := (if_neg c11).symm.trans hf
    refine fx_aload_n (pc := 33) (t := 5) F 0 rfl rfl dX5_choir_33 ?_
    refine fx_gR (pc := 34) F 5 5 5 0 rfl kC_X5 (by decide) rfl wF_X5_37 dX5_choir_34 ?_
    refine fx_aload_n (pc := 37) (t := 5) F 0 rfl rfl dX5_choir_37 ?_
    refine fx_gR (pc := 38) F 5 0 0 4 rfl kC_X5 (by decide) rfl wF_X5_10 dX5_choir_38 ?_
    refine fx_aload_n (pc := 41) (t := 5) F 0 rfl rfl dX5_choir_41 ?_
    refine fx_gR (pc := 42) F 5 0 0 4 rfl kC_X5 (by decide) rfl wF_X5_10 dX5_choir_42 ?_
    refine fx_gI (pc := 45) F 4 1 1 rfl kC_X4 rfl wF_X5_147 dX5_choir_45 ?_
    refine fx_iconst (pc := 48) F ⟨by decide, by decide⟩ dX5_choir_48 ?_
    obtain ⟨h15, e16, hf⟩ := fx_bnd hf
    refine fx_cVv (pc := 49) F 0 kC_X0 [(6, (fx_tg Λ this_0 0)), (0, (h (fx_tg Λ this_0 0) 1)), (0, (-1))] (fx_tg Λ this_0 5) [] (m_X0_sit Fu Λ (fx_tg Λ this_0 5) (fx_tg Λ this_0 0) (h (fx_tg Λ this_0 0) 1) (-1) h _ e16) kD_X0_sit kI_X0_sit rfl wM_X5_150 ⟨rfl, rfl⟩ ⟨by decide, by decide⟩ (Nat.le_of_ble_eq_true rfl) rfl dX5_choir_49 ?_
    refine fx_aload_n (pc := 52) (t := 5) F 0 rfl rfl dX5_choir_52 ?_
    refine fx_gR (pc := 53) F 5 5 5 0 rfl kC_X5 (by decide) rfl wF_X5_37 dX5_choir_53 ?_
    refine fx_aload_n (pc := 56) (t := 5) F 0 rfl rfl dX5_choir_56 ?_
    refine fx_gR (pc := 57) F 5 0 0 4 rfl kC_X5 (by decide) rfl wF_X5_10 dX5_choir_57 ?_
    refine fx_iload_n (pc := 60) F 1 rfl rfl dX5_choir_60 ?_
    refine fx_iload_n (pc := 61) F 2 rfl rfl dX5_choir_61 ?_
    obtain ⟨⟨v17, h18⟩, e19, hf⟩ := fx_bnd hf
    refine fx_cV (pc := 62) F 0 kC_X0 [(6, (fx_tg Λ this_0 0)), (0, thing_0), (0, m_0)] (fx_tg Λ this_0 5) [] (m_X0_leastOfChoir Fu Λ (fx_tg Λ this_0 5) (fx_tg Λ this_0 0) thing_0 m_0 h15 _ _ e19) kD_X0_leastOfChoir kI_X0_leastOfChoir rfl wM_X5_205 ⟨rfl, rfl⟩ ⟨by decide, by decide⟩ (Nat.le_of_ble_eq_true rfl) rfl dX5_choir_62 ?_
    cases hf
    exact fx_ireturn (pc := 65) F K dX5_choir_65
  refine fx_aload_n (pc := 0) (t := 5) F 0 rfl rfl dX5_choir_0 ?_
  refine fx_gR (pc := 1) F 5 0 0 4 rfl kC_X5 (by decide) rfl wF_X5_10 dX5_choir_1 ?_
  refine fx_iload_n (pc := 4) F 1 rfl rfl dX5_choir_4 ?_
  obtain ⟨v5, e6, e2⟩ := fx_bnd e2
  refine fx_cV (pc := 5) F 4 kC_X4 [(0, thing_0)] (fx_tg Λ this_0 0) [] (m_X4_hasThing Fu Λ (fx_tg Λ this_0 0) thing_0 h _ e6) kD_X4_hasThing kI_X4_hasThing rfl wM_X5_59 ⟨rfl, rfl⟩ ⟨by decide, by decide⟩ (Nat.le_of_ble_eq_true rfl) rfl dX5_choir_5 ?_
  refine fx_jzeq (pc := 8) F 26 (by decide) dX5_choir_8 (fun c7 => ?_) (fun c7 => ?_)
  · have e2 := (if_pos c7).symm.trans e2
    cases e2
    exact hT3 (by decide)
  · have e2 := (if_neg c7).symm.trans e2
    refine fx_iload_n (pc := 11) F 2 rfl rfl dX5_choir_11 ?_
    refine fx_iconst (pc := 12) F ⟨by decide, by decide⟩ dX5_choir_12 ?_
    refine fx_aload_n (pc := 13) (t := 5) F 0 rfl rfl dX5_choir_13 ?_
    refine fx_gR (pc := 14) F 5 0 0 4 rfl kC_X5 (by decide) rfl wF_X5_10 dX5_choir_14 ?_
    refine fx_gI (pc := 17) F 4 2 2 rfl kC_X4 rfl wF_X5_202 dX5_choir_17 ?_
    obtain ⟨v8, e9, e2⟩ := fx_bnd e2
    refine fx_cS (pc := 20) F [(0, m_0), (0, 1), (0, (h (fx_tg Λ this_0 0) 2))] [] (m_X5_within Fu Λ m_0 1 (h (fx_tg Λ this_0 0) 2) h _ e9) kD_X5_within wSt_X5_within wM_X5_82 ⟨rfl, rfl⟩ ⟨by decide, by decide⟩ (Nat.le_of_ble_eq_true rfl) rfl dX5_choir_20 ?_
    refine fx_nzeq (pc := 23) F 33 (by decide) dX5_choir_23 (fun c10 => ?_) (fun c10 => ?_)
    · have e2 := (if_pos c10).symm.trans e2
      cases e2
      exact hT3 (by decide)
    · have e2 := (if_neg c10).symm.trans e2
      cases e2
      exact hF4 (by decide)
def f_X5_told (Fu : Nat) (Λ : fx_L) (this_0 : Int) (person_0 : Int) (pennies_0 : Int) (h : fx_H) : Option (Int × fx_H) :=
  Option.bind (
    (f_X4_hasPerson Fu Λ (fx_tg Λ this_0 0) person_0 h).bind fun v5 =>
    if v5 = 0 then
      some true
    else
      (f_X5_within Fu Λ pennies_0 0 40 h).bind fun v8 =>
      if v8 = 0 then
        some true
      else
        some false
  ) fun b1 =>
  if b1 = true then
    (f_X5_refuseBad Fu Λ this_0 (-2) h).bind fun (v12, h13) =>
    some (v12, h13)
  else
    (fx_rd Λ (fx_up h this_0 13 (fx_w ((h this_0 13) + 1))) (fx_tg Λ (fx_tg Λ this_0 0) 10) person_0).bind fun v15 =>
    (fx_wr Λ (fx_up h this_0 13 (fx_w ((h this_0 13) + 1))) (fx_tg Λ (fx_tg Λ this_0 0) 10) person_0 pennies_0).bind fun h17 =>
    some (v15, h17)
abbrev rm_X5_told : Room := { frames := 2, cells := 0, slots := 0, locals := 43 }
set_option maxRecDepth 100000 in
set_option maxHeartbeats 4000000 in
theorem m_X5_told (Fu : Nat) (Λ : fx_L) (this_0 : Int) (person_0 : Int) (pennies_0 : Int) (h : fx_H) (r : Int) (ho : fx_H) (hf : f_X5_told Fu Λ this_0 person_0 pennies_0 h = some (r, ho)) : fx_Met yX5_told cX5_told 4 (some .int) rm_X5_told Λ [(7, this_0), (0, person_0), (0, pennies_0)] h (some (0, r)) ho := by
  unfold f_X5_told at hf
  refine fx_enter (ls := [some (7, this_0), some (0, person_0), some (0, pennies_0), none]) (by decide) (Nat.le_of_ble_eq_true rfl) rfl (fun M G F K => ?_)
  obtain ⟨b1, e2, hf⟩ := fx_bnd hf
  have hT3 : b1 = true → fx_J M G Λ 4 21 [some (7, this_0), some (0, person_0), some (0, pennies_0), none] [] h := fun c11 => by
    have hf := (if_pos c11).symm.trans hf
    refine fx_aload_n (pc := 21) (t := 5) F 0 rfl rfl dX5_told_21 ?_
    refine fx_bipush (pc := 22) F ⟨by decide, by decide⟩ (by decide) dX5_told_22 ?_
    obtain ⟨⟨v12, h13⟩, e14, hf⟩ := fx_bnd hf
    refine fx_cV (pc := 24) F 5 kC_X5 [(0, (-2))] this_0 [] (m_X5_refuseBad Fu Λ this_0 (-2) h _ _ e14) kD_X5_refuseBad kI_X5_refuseBad rfl wM_X5_63 ⟨rfl, rfl⟩ ⟨by decide, by decide⟩ (Nat.le_of_ble_eq_true rfl) rfl dX5_told_24 ?_
    cases hf
    exact fx_ireturn (pc := 27) F K dX5_told_27
  have hF4 : ¬ b1 = true → fx_J M G Λ 4 28 [some (7, this_0), some (0, person_0), some (0, pennies_0), none] [] h := fun c11 => by
    have hf := (if_neg c11).symm.trans hf
    refine fx_aload_n (pc := 28) (t := 5) F 0 rfl rfl dX5_told_28 ?_
    refine fx_dup (pc := 29) F (show (7 : Nat) ≠ 1 by decide) dX5_told_29 ?_
    refine fx_gI (pc := 30) F 5 13 13 rfl kC_X5 rfl wF_X5_75 dX5_told_30 ?_
    refine fx_iconst (pc := 33) F ⟨by decide, by decide⟩ dX5_told_33 ?_
    refine fx_iadd (pc := 34) F dX5_told_34 ?_
    refine fx_pI (pc := 35) F 5 13 13 rfl kC_X5 rfl rfl (by decide +kernel) wF_X5_75 dX5_told_35 ?_
    refine fx_aload_n (pc := 38) (t := 5) F 0 rfl rfl dX5_told_38 ?_
    refine fx_gR (pc := 39) F 5 0 0 4 rfl kC_X5 (by decide) rfl wF_X5_10 dX5_told_39 ?_
    refine fx_gR (pc := 42) F 4 10 10 8 rfl kC_X4 (by decide) rfl wF_X5_209 dX5_told_42 ?_
    refine fx_iload_n (pc := 45) F 1 rfl rfl dX5_told_45 ?_
    obtain ⟨v15, e16, hf⟩ := fx_bnd hf
    refine fx_raldI (pc := 46) F e16 dX5_told_46 ?_
    refine fx_istore_n (pc := 47) (ls' := [some (7, this_0), some (0, person_0), some (0, pennies_0), some (0, v15)]) F 3 rfl (by decide) rfl rfl dX5_told_47 ?_
    refine fx_aload_n (pc := 48) (t := 5) F 0 rfl rfl dX5_told_48 ?_
    refine fx_gR (pc := 49) F 5 0 0 4 rfl kC_X5 (by decide) rfl wF_X5_10 dX5_told_49 ?_
    refine fx_gR (pc := 52) F 4 10 10 8 rfl kC_X4 (by decide) rfl wF_X5_209 dX5_told_52 ?_
    refine fx_iload_n (pc := 55) F 1 rfl rfl dX5_told_55 ?_
    refine fx_iload_n (pc := 56) F 2 rfl rfl dX5_told_56 ?_
    obtain ⟨h17, e18, hf⟩ := fx_bnd hf
    refine fx_rastI (pc := 57) F e18 dX5_told_57 ?_
    refine fx_iload_n (pc := 58) F 3 rfl rfl dX5_told_58 ?_
    cases hf
    exact fx_ireturn (pc := 59) F K dX5_told_59
  refine fx_aload_n (pc := 0) (t := 5) F 0 rfl rfl dX5_told_0 ?_
  refine fx_gR (pc := 1) F 5 0 0 4 rfl kC_X5 (by decide) rfl wF_X5_10 dX5_told_1 ?_
  refine fx_iload_n (pc := 4) F 1 rfl rfl dX5_told_4 ?_
  obtain ⟨v5, e6, e2⟩ := fx_bnd e2
  refine fx_cV (pc := 5) F 4 kC_X4 [(0, person_0)] (fx_tg Λ this_0 0) [] (m_X4_hasPerson Fu Λ (fx_tg Λ this_0 0) person_0 h _ e6) kD_X4_hasPerson kI_X4_hasPerson rfl wM_X5_100 ⟨rfl, rfl⟩ ⟨by decide, by decide⟩ (Nat.le_of_ble_eq_true rfl) rfl dX5_told_5 ?_
  refine fx_jzeq (pc := 8) F 21 (by decide) dX5_told_8 (fun c7 => ?_) (fun c7 => ?_)
  · have e2 := (if_pos c7).symm.trans e2
    cases e2
    exact hT3 (by decide)
  · have e2 := (if_neg c7).symm.trans e2
    refine fx_iload_n (pc := 11) F 2 rfl rfl dX5_told_11 ?_
    refine fx_iconst (pc := 12) F ⟨by decide, by decide⟩ dX5_told_12 ?_
    refine fx_bipush (pc := 13) F ⟨by decide, by decide⟩ (by decide) dX5_told_13 ?_
    obtain ⟨v8, e9, e2⟩ := fx_bnd e2
    refine fx_cS (pc := 15) F [(0, pennies_0), (0, 0), (0, 40)] [] (m_X5_within Fu Λ pennies_0 0 40 h _ e9) kD_X5_within wSt_X5_within wM_X5_82 ⟨rfl, rfl⟩ ⟨by decide, by decide⟩ (Nat.le_of_ble_eq_true rfl) rfl dX5_told_15 ?_
    refine fx_nzeq (pc := 18) F 28 (by decide) dX5_told_18 (fun c10 => ?_) (fun c10 => ?_)
    · have e2 := (if_pos c10).symm.trans e2
      cases e2
      exact hT3 (by decide)
    · have e2 := (if_neg c10).symm.trans e2
      cases e2
      exact hF4 (by decide)
def s_X2_mayHavePaid_1 (Fu : Nat) (Λ : fx_L) (this_14 : Int) (town_15 : Int) (court_16 : Int) (last_17 : Int) (kind_18 : Int) (ahead_19 : Int) (toCome_20 : Int) (mayFall_21 : Int) (h : fx_H) : Int → Option ((Int) ⊕ ((Int) ⊕ (Int))) := fun person_13 =>
  if person_13 ≤ last_17 then
    (fx_rd Λ h (fx_tg Λ this_14 2) person_13).bind fun v24 =>
    (f_X0_fine Fu Λ court_16 kind_18 (fx_tg Λ this_14 2) ahead_19 person_13 v24 h).bind fun v26 =>
    (fx_rt 1 kind_18).bind fun v28 =>
    Option.bind (
      (fx_rd Λ h (fx_tg Λ town_15 10) person_13).bind fun v34 =>
      if (fx_w (v26 + (fx_w (toCome_20 * v28)))) < v34 then
        some true
      else
        (fx_rd Λ h (fx_tg Λ town_15 10) person_13).bind fun v37 =>
        if v37 < v26 then
          if mayFall_21 = 0 then
            some true
          else
            some false
        else
          some false
    ) fun b30 =>
    if b30 = true then
      some (.inr (.inr 0))
    else
      some (.inl (fx_w (person_13 + 1)))
  else
    some (.inr (.inl person_13))
def f_X2_mayHavePaid (Fu : Nat) (Λ : fx_L) (this_0 : Int) (town_0 : Int) (court_0 : Int) (hour_0 : Int) (last_0 : Int) (h : fx_H) : Option (Int) :=
  (f_X4_kindOf Fu Λ town_0 hour_0 h).bind fun v1 =>
  (f_X0_aheadOf Fu Λ court_0 (fx_tg Λ town_0 8) hour_0 h).bind fun v3 =>
  Option.bind (
    if ((v1 = 2) ∧ (0 < (fx_w ((fx_w ((h town_0 2) - 1)) - last_0)))) then
      some (1 : Int)
    else
      some (0 : Int)
  ) fun v5 =>
  Option.bind (fx_loop (s_X2_mayHavePaid_1 Fu Λ this_0 town_0 court_0 last_0 v1 v3 (fx_w ((fx_w ((h town_0 2) - 1)) - last_0)) v5 h) Fu 0) fun x9 =>
  match x9 with
  | .inl person_63 =>
    some 1
  | .inr r9 => some r9
abbrev rm_X2_mayHavePaid : Room := { frames := 2, cells := 0, slots := 0, locals := 53 }
set_option maxRecDepth 100000 in
set_option maxHeartbeats 4000000 in
theorem m_X2_mayHavePaid (Fu : Nat) (Λ : fx_L) (this_0 : Int) (town_0 : Int) (court_0 : Int) (hour_0 : Int) (last_0 : Int) (h : fx_H) (r : Int) (hf : f_X2_mayHavePaid Fu Λ this_0 town_0 court_0 hour_0 last_0 h = some r) : fx_Met yX2_mayHavePaid cX2_mayHavePaid 12 (some .boolean) rm_X2_mayHavePaid Λ [(4, this_0), (6, town_0), (2, court_0), (0, hour_0), (0, last_0)] h (some (0, r)) h := by
  unfold f_X2_mayHavePaid at hf
  refine fx_enter (ls := [some (4, this_0), some (6, town_0), some (2, court_0), some (0, hour_0), some (0, last_0), none, none, none, none, none, none, none]) (by decide) (Nat.le_of_ble_eq_true rfl) rfl (fun M G F K => ?_)
  refine fx_aload_n (pc := 0) (t := 4) F 1 rfl rfl dX2_mayHavePaid_0 ?_
  refine fx_iload_n (pc := 1) F 3 rfl rfl dX2_mayHavePaid_1 ?_
  obtain ⟨v1, e2, hf⟩ := fx_bnd hf
  refine fx_cV (pc := 2) F 4 kC_X4 [(0, hour_0)] town_0 [] (m_X4_kindOf Fu Λ town_0 hour_0 h _ e2) kD_X4_kindOf kI_X4_kindOf rfl wM_X2_53 ⟨rfl, rfl⟩ ⟨by decide, by decide⟩ (Nat.le_of_ble_eq_true rfl) rfl dX2_mayHavePaid_2 ?_
  refine fx_istore (pc := 5) (ls' := [some (4, this_0), some (6, town_0), some (2, court_0), some (0, hour_0), some (0, last_0), some (0, v1), none, none, none, none, none, none]) F (by decide) rfl rfl dX2_mayHavePaid_5 ?_
  refine fx_aload_n (pc := 7) (t := 0) F 2 rfl rfl dX2_mayHavePaid_7 ?_
  refine fx_aload_n (pc := 8) (t := 4) F 1 rfl rfl dX2_mayHavePaid_8 ?_
  refine fx_gR (pc := 9) F 4 8 8 11 rfl kC_X4 (by decide) rfl wF_X2_57 dX2_mayHavePaid_9 ?_
  refine fx_iload_n (pc := 12) F 3 rfl rfl dX2_mayHavePaid_12 ?_
  obtain ⟨v3, e4, hf⟩ := fx_bnd hf
  refine fx_cV (pc := 13) F 0 kC_X0 [(13, (fx_tg Λ town_0 8)), (0, hour_0)] court_0 [] (m_X0_aheadOf Fu Λ court_0 (fx_tg Λ town_0 8) hour_0 h _ e4) kD_X0_aheadOf kI_X0_aheadOf rfl wM_X2_61 ⟨rfl, rfl⟩ ⟨by decide, by decide⟩ (Nat.le_of_ble_eq_true rfl) rfl dX2_mayHavePaid_13 ?_
  refine fx_astore (pc := 16) (ls' := [some (4, this_0), some (6, town_0), some (2, court_0), some (0, hour_0), some (0, last_0), some (0, v1), some (10, v3), none, none, none, none, none]) (t := 8) F (by decide) rfl rfl dX2_mayHavePaid_16 ?_
  refine fx_aload_n (pc := 18) (t := 4) F 1 rfl rfl dX2_mayHavePaid_18 ?_
  refine fx_gI (pc := 19) F 4 2 2 rfl kC_X4 rfl wF_X2_47 dX2_mayHavePaid_19 ?_
  refine fx_iconst (pc := 22) F ⟨by decide, by decide⟩ dX2_mayHavePaid_22 ?_
  refine fx_isub (pc := 23) F dX2_mayHavePaid_23 ?_
  refine fx_iload (pc := 24) F rfl dX2_mayHavePaid_24 ?_
  refine fx_isub (pc := 26) F dX2_mayHavePaid_26 ?_
  refine fx_istore (pc := 27) (ls' := [some (4, this_0), some (6, town_0), some (2, court_0), some (0, hour_0), some (0, last_0), some (0, v1), some (10, v3), some (0, (fx_w ((fx_w ((h town_0 2) - 1)) - last_0))), none, none, none, none]) F (by decide) rfl rfl dX2_mayHavePaid_27 ?_
  obtain ⟨v5, e6, hf⟩ := fx_bnd hf
  have hJ7 : fx_J M G Λ 12 45 [some (4, this_0), some (6, town_0), some (2, court_0), some (0, hour_0), some (0, last_0), some (0, v1), some (10, v3), some (0, (fx_w ((fx_w ((h town_0 2) - 1)) - last_0))), none, none, none, none] [(0, v5)] h := by
    refine fx_istore (pc := 45) (ls' := [some (4, this_0), some (6, town_0), some (2, court_0), some (0, hour_0), some (0, last_0), some (0, v1), some (10, v3), some (0, (fx_w ((fx_w ((h town_0 2) - 1)) - last_0))), some (0, v5), none, none, none]) F (by decide) rfl rfl dX2_mayHavePaid_45 ?_
    refine fx_iconst (pc := 47) F ⟨by decide, by decide⟩ dX2_mayHavePaid_47 ?_
    refine fx_istore (pc := 48) (ls' := [some (4, this_0), some (6, town_0), some (2, court_0), some (0, hour_0), some (0, last_0), some (0, v1), some (10, v3), some (0, (fx_w ((fx_w ((h town_0 2) - 1)) - last_0))), some (0, v5), some (0, 0), none, none]) F (by decide) rfl rfl dX2_mayHavePaid_48 ?_
    obtain ⟨x9, e64, hf⟩ := fx_bnd hf
    have hE65 : (fun y : (Int) ⊕ (Int) => match y with | .inl z => fx_J M G Λ 12 131 [some (4, this_0), some (6, town_0), some (2, court_0), some (0, hour_0), some (0, last_0), some (0, v1), some (10, v3), some (0, (fx_w ((fx_w ((h town_0 2) - 1)) - last_0))), some (0, v5), some (0, z), none, none] [] h | .inr r9 => some r9 = some r) x9 := by
      cases x9 with
      | inr r9 => exact hf
      | inl y9 =>
        obtain ⟨person_63, hy9⟩ : ∃ y, y = y9 := ⟨_, rfl⟩
        subst hy9
        show fx_J M G Λ 12 131 [some (4, this_0), some (6, town_0), some (2, court_0), some (0, hour_0), some (0, last_0), some (0, v1), some (10, v3), some (0, (fx_w ((fx_w ((h town_0 2) - 1)) - last_0))), some (0, v5), some (0, person_63), none, none] [] h
        refine fx_iconst (pc := 131) F ⟨by decide, by decide⟩ dX2_mayHavePaid_131 ?_
        cases hf
        exact fx_zreturn (pc := 132) F (Or.inr rfl) K dX2_mayHavePaid_132
    refine fx_loop_J (Hd := (fun z : Int => fx_J M G Λ 12 50 [some (4, this_0), some (6, town_0), some (2, court_0), some (0, hour_0), some (0, last_0), some (0, v1), some (10, v3), some (0, (fx_w ((fx_w ((h town_0 2) - 1)) - last_0))), some (0, v5), some (0, z), none, none] [] h)) (Ex := (fun y : (Int) ⊕ (Int) => match y with | .inl z => fx_J M G Λ 12 131 [some (4, this_0), some (6, town_0), some (2, court_0), some (0, hour_0), some (0, last_0), some (0, v1), some (10, v3), some (0, (fx_w ((fx_w ((h town_0 2) - 1)) - last_0))), some (0, v5), some (0, z), none, none] [] h | .inr r9 => some r9 = some r)) ?_ Fu _ _ e64 hE65
    rintro person_42 o9 eq43 ih ex
    unfold s_X2_mayHavePaid_1 at eq43
    show fx_J M G Λ 12 50 [some (4, this_0), some (6, town_0), some (2, court_0), some (0, hour_0), some (0, last_0), some (0, v1), some (10, v3), some (0, (fx_w ((fx_w ((h town_0 2) - 1)) - last_0))), some (0, v5), some (0, person_42), none, none] [] h
    refine fx_iload (pc := 50) F rfl dX2_mayHavePaid_50 ?_
    refine fx_iload (pc := 52) F rfl dX2_mayHavePaid_52 ?_
    refine fx_nle (pc := 54) F 131 (by decide) dX2_mayHavePaid_54 (fun c44 => ?_) (fun c44 => ?_)
    · have eq43 := (if_pos c44).symm.trans eq43
      refine fx_aload_n (pc := 57) (t := 0) F 2 rfl rfl dX2_mayHavePaid_57 ?_
      refine fx_iload (pc := 58) F rfl dX2_mayHavePaid_58 ?_
      refine fx_aload_n (pc := 60) (t := 2) F 0 rfl rfl dX2_mayHavePaid_60 ?_
      refine fx_gR (pc := 61) F 2 2 2 8 rfl kC_X2 (by decide) rfl wF_X2_15 dX2_mayHavePaid_61 ?_
      refine fx_aload (pc := 64) (t := 8) F rfl dX2_mayHavePaid_64 ?_
      refine fx_iload (pc := 66) F rfl dX2_mayHavePaid_66 ?_
      refine fx_aload_n (pc := 68) (t := 2) F 0 rfl rfl dX2_mayHavePaid_68 ?_
      refine fx_gR (pc := 69) F 2 2 2 8 rfl kC_X2 (by decide) rfl wF_X2_15 dX2_mayHavePaid_69 ?_
      refine fx_iload (pc := 72) F rfl dX2_mayHavePaid_72 ?_
      obtain ⟨v45, e46, eq43⟩ := fx_bnd eq43
      refine fx_raldI (pc := 74) F e46 dX2_mayHavePaid_74 ?_
      obtain ⟨v47, e48, eq43⟩ := fx_bnd eq43
      refine fx_cV (pc := 75) F 0 kC_X0 [(0, v1), (10, (fx_tg Λ this_0 2)), (10, v3), (0, person_42), (0, v45)] court_0 [] (m_X0_fine Fu Λ court_0 v1 (fx_tg Λ this_0 2) v3 person_42 v45 h _ e48) kD_X0_fine kI_X0_fine rfl wM_X2_67 ⟨rfl, rfl⟩ ⟨by decide, by decide⟩ (Nat.le_of_ble_eq_true rfl) rfl dX2_mayHavePaid_75 ?_
      refine fx_istore (pc := 78) (ls' := [some (4, this_0), some (6, town_0), some (2, court_0), some (0, hour_0), some (0, last_0), some (0, v1), some (10, v3), some (0, (fx_w ((fx_w ((h town_0 2) - 1)) - last_0))), some (0, v5), some (0, person_42), some (0, v47), none]) F (by decide) rfl rfl dX2_mayHavePaid_78 ?_
      refine fx_iload (pc := 80) F rfl dX2_mayHavePaid_80 ?_
      refine fx_iload (pc := 82) F rfl dX2_mayHavePaid_82 ?_
      refine fx_gets (pc := 84) F 1 (nm := "NEXT_ONE_ADDS") (by decide) (by decide) dX2_mayHavePaid_84 ?_
      refine fx_iload (pc := 87) F rfl dX2_mayHavePaid_87 ?_
      obtain ⟨v49, e50, eq43⟩ := fx_bnd eq43
      refine fx_rtald (pc := 89) F 1 (by decide) e50 dX2_mayHavePaid_89 ?_
      refine fx_imul (pc := 90) F dX2_mayHavePaid_90 ?_
      refine fx_iadd (pc := 91) F dX2_mayHavePaid_91 ?_
      refine fx_istore (pc := 92) (ls' := [some (4, this_0), some (6, town_0), some (2, court_0), some (0, hour_0), some (0, last_0), some (0, v1), some (10, v3), some (0, (fx_w ((fx_w ((h town_0 2) - 1)) - last_0))), some (0, v5), some (0, person_42), some (0, v47), some (0, (fx_w (v47 + (fx_w ((fx_w ((fx_w ((h town_0 2) - 1)) - last_0)) * v49)))))]) F (by decide) rfl rfl dX2_mayHavePaid_92 ?_
      obtain ⟨b51, e52, eq43⟩ := fx_bnd eq43
      have hT53 : b51 = true → fx_J M G Λ 12 123 [some (4, this_0), some (6, town_0), some (2, court_0), some (0, hour_0), some (0, last_0), some (0, v1), some (10, v3), some (0, (fx_w ((fx_w ((h town_0 2) - 1)) - last_0))), some (0, v5), some (0, person_42), some (0, v47), some (0, (fx_w (v47 + (fx_w ((fx_w ((fx_w ((h town_0 2) - 1)) - last_0)) * v49)))))] [] h := fun c62 => by
        have eq43 := (if_pos c62).symm.trans eq43
        refine fx_iconst (pc := 123) F ⟨by decide, by decide⟩ dX2_mayHavePaid_123 ?_
        cases eq43
        have q9 := ex _ rfl
        cases q9
        exact fx_zreturn (pc := 124) F (Or.inl rfl) K dX2_mayHavePaid_124
      have hF54 : ¬ b51 = true → fx_J M G Λ 12 125 [some (4, this_0), some (6, town_0), some (2, court_0), some (0, hour_0), some (0, last_0), some (0, v1), some (10, v3), some (0, (fx_w ((fx_w ((h town_0 2) - 1)) - last_0))), some (0, v5), some (0, person_42), some (0, v47), some (0, (fx_w (v47 + (fx_w ((fx_w ((fx_w ((h town_0 2) - 1)) - last_0)) * v49)))))] [] h := fun c62 => by
        have eq43 := (if_neg c62).symm.trans eq43
        refine fx_iinc (pc := 125) (ls' := [some (4, this_0), some (6, town_0), some (2, court_0), some (0, hour_0), some (0, last_0), some (0, v1), some (10, v3), some (0, (fx_w ((fx_w ((h town_0 2) - 1)) - last_0))), some (0, v5), some (0, (fx_w (person_42 + 1))), some (0, v47), some (0, (fx_w (v47 + (fx_w ((fx_w ((fx_w ((h town_0 2) - 1)) - last_0)) * v49)))))]) F (by decide) rfl rfl rfl dX2_mayHavePaid_125 ?_
        refine fx_goto (pc := 128) F 50 (by decide) dX2_mayHavePaid_128 ?_
        cases eq43
        refine fx_drop (ls' := [some (4, this_0), some (6, town_0), some (2, court_0), some (0, hour_0), some (0, last_0), some (0, v1), some (10, v3), some (0, (fx_w ((fx_w ((h town_0 2) - 1)) - last_0))), some (0, v5), some (0, (fx_w (person_42 + 1))), none, none]) ⟨rfl, rfl, rfl, rfl, rfl, rfl, rfl, rfl, rfl, rfl, trivial⟩ ?_
        exact ih _ rfl
      refine fx_aload_n (pc := 94) (t := 4) F 1 rfl rfl dX2_mayHavePaid_94 ?_
      refine fx_gR (pc := 95) F 4 10 10 8 rfl kC_X4 (by decide) rfl wF_X2_74 dX2_mayHavePaid_95 ?_
      refine fx_iload (pc := 98) F rfl dX2_mayHavePaid_98 ?_
      obtain ⟨v55, e56, e52⟩ := fx_bnd e52
      refine fx_raldI (pc := 100) F e56 dX2_mayHavePaid_100 ?_
      refine fx_iload (pc := 101) F rfl dX2_mayHavePaid_101 ?_
      refine fx_jgt (pc := 103) F 123 (by decide) dX2_mayHavePaid_103 (fun c57 => ?_) (fun c57 => ?_)
      · have e52 := (if_pos c57).symm.trans e52
        cases e52
        exact hT53 (by decide)
      · have e52 := (if_neg c57).symm.trans e52
        refine fx_aload_n (pc := 106) (t := 4) F 1 rfl rfl dX2_mayHavePaid_106 ?_
        refine fx_gR (pc := 107) F 4 10 10 8 rfl kC_X4 (by decide) rfl wF_X2_74 dX2_mayHavePaid_107 ?_
        refine fx_iload (pc := 110) F rfl dX2_mayHavePaid_110 ?_
        obtain ⟨v58, e59, e52⟩ := fx_bnd e52
        refine fx_raldI (pc := 112) F e59 dX2_mayHavePaid_112 ?_
        refine fx_iload (pc := 113) F rfl dX2_mayHavePaid_113 ?_
        refine fx_nlt (pc := 115) F 125 (by decide) dX2_mayHavePaid_115 (fun c60 => ?_) (fun c60 => ?_)
        · have e52 := (if_pos c60).symm.trans e52
          refine fx_iload (pc := 118) F rfl dX2_mayHavePaid_118 ?_
          refine fx_nzeq (pc := 120) F 125 (by decide) dX2_mayHavePaid_120 (fun c61 => ?_) (fun c61 => ?_)
          · have e52 := (if_pos c61).symm.trans e52
            cases e52
            exact hT53 (by decide)
          · have e52 := (if_neg c61).symm.trans e52
            cases e52
            exact hF54 (by decide)
        · have e52 := (if_neg c60).symm.trans e52
          cases e52
          exact hF54 (by decide)
    · have eq43 := (if_neg c44).symm.trans eq43
      cases eq43
      exact ex _ rfl
  refine fx_iload (pc := 29) F rfl dX2_mayHavePaid_29 ?_
  refine fx_iconst (pc := 31) F ⟨by decide, by decide⟩ dX2_mayHavePaid_31 ?_
  have hT8 : (((v1 = 2) ∧ (0 < (fx_w ((fx_w ((h town_0 2) - 1)) - last_0))))) → fx_J M G Λ 12 40 [some (4, this_0), some (6, town_0), some (2, court_0), some (0, hour_0), some (0, last_0), some (0, v1), some (10, v3), some (0, (fx_w ((fx_w ((h town_0 2) - 1)) - last_0))), none, none, none, none] [] h := fun c12 => by
    have e6 := (if_pos c12).symm.trans e6
    refine fx_iconst (pc := 40) F ⟨by decide, by decide⟩ dX2_mayHavePaid_40 ?_
    cases e6
    refine fx_goto (pc := 41) F 45 (by decide) dX2_mayHavePaid_41 ?_
    exact hJ7
  have hF9 : ¬ (((v1 = 2) ∧ (0 < (fx_w ((fx_w ((h town_0 2) - 1)) - last_0))))) → fx_J M G Λ 12 44 [some (4, this_0), some (6, town_0), some (2, court_0), some (0, hour_0), some (0, last_0), some (0, v1), some (10, v3), some (0, (fx_w ((fx_w ((h town_0 2) - 1)) - last_0))), none, none, none, none] [] h := fun c12 => by
    have e6 := (if_neg c12).symm.trans e6
    refine fx_iconst (pc := 44) F ⟨by decide, by decide⟩ dX2_mayHavePaid_44 ?_
    cases e6
    exact hJ7
  refine fx_neq (pc := 32) F 44 (by decide) dX2_mayHavePaid_32 (fun c10 => ?_) (fun c10 => ?_)
  · refine fx_iload (pc := 35) F rfl dX2_mayHavePaid_35 ?_
    refine fx_nzgt (pc := 37) F 44 (by decide) dX2_mayHavePaid_37 (fun c11 => ?_) (fun c11 => ?_)
    · exact hT8 ⟨c10, c11⟩
    · exact hF9 (fun q => c11 q.2)
  · exact hF9 (fun q => c10 q.1)
def f_X2_countWay (Fu : Nat) (Λ : fx_L) (this_0 : Int) (h : fx_H) : Option (fx_H) :=
  Option.bind (
    if (h this_0 0) = 0 then
      (fx_cp Λ h (fx_tg Λ this_0 2) 0 (fx_tg Λ this_0 1) 0 5).bind fun h5 =>
      some h5
    else
      some h
  ) fun h1 =>
  some (fx_up h1 this_0 0 (fx_w ((h1 this_0 0) + 1)))
abbrev rm_X2_countWay : Room := { frames := 1, cells := 0, slots := 0, locals := 26 }
set_option maxRecDepth 100000 in
set_option maxHeartbeats 4000000 in
theorem m_X2_countWay (Fu : Nat) (Λ : fx_L) (this_0 : Int) (h : fx_H) (ho : fx_H) (hf : f_X2_countWay Fu Λ this_0 h = some ho) : fx_Met yX2_countWay cX2_countWay 1 none rm_X2_countWay Λ [(4, this_0)] h none ho := by
  unfold f_X2_countWay at hf
  refine fx_enter (ls := [some (4, this_0)]) (by decide) (Nat.le_of_ble_eq_true rfl) rfl (fun M G F K => ?_)
  obtain ⟨h1, e2, hf⟩ := fx_bnd hf
  have hJ3 : fx_J M G Λ 1 21 [some (4, this_0)] [] h1 := by
    refine fx_aload_n (pc := 21) (t := 2) F 0 rfl rfl dX2_countWay_21 ?_
    refine fx_dup (pc := 22) F (show (4 : Nat) ≠ 1 by decide) dX2_countWay_22 ?_
    refine fx_gI (pc := 23) F 2 0 0 rfl kC_X2 rfl wF_X2_28 dX2_countWay_23 ?_
    refine fx_iconst (pc := 26) F ⟨by decide, by decide⟩ dX2_countWay_26 ?_
    refine fx_iadd (pc := 27) F dX2_countWay_27 ?_
    refine fx_pI (pc := 28) F 2 0 0 rfl kC_X2 rfl rfl (by decide +kernel) wF_X2_28 dX2_countWay_28 ?_
    cases hf
    exact fx_vreturn (pc := 31) F K dX2_countWay_31
  refine fx_aload_n (pc := 0) (t := 2) F 0 rfl rfl dX2_countWay_0 ?_
  refine fx_gI (pc := 1) F 2 0 0 rfl kC_X2 rfl wF_X2_28 dX2_countWay_1 ?_
  refine fx_nzeq (pc := 4) F 21 (by decide) dX2_countWay_4 (fun c4 => ?_) (fun c4 => ?_)
  · have e2 := (if_pos c4).symm.trans e2
    refine fx_aload_n (pc := 7) (t := 2) F 0 rfl rfl dX2_countWay_7 ?_
    refine fx_gR (pc := 8) F 2 2 2 8 rfl kC_X2 (by decide) rfl wF_X2_15 dX2_countWay_8 ?_
    refine fx_iconst (pc := 11) F ⟨by decide, by decide⟩ dX2_countWay_11 ?_
    refine fx_aload_n (pc := 12) (t := 2) F 0 rfl rfl dX2_countWay_12 ?_
    refine fx_gR (pc := 13) F 2 1 1 8 rfl kC_X2 (by decide) rfl wF_X2_9 dX2_countWay_13 ?_
    refine fx_iconst (pc := 16) F ⟨by decide, by decide⟩ dX2_countWay_16 ?_
    refine fx_iconst (pc := 17) F ⟨by decide, by decide⟩ dX2_countWay_17 ?_
    obtain ⟨h5, e6, e2⟩ := fx_bnd e2
    refine fx_racopy (pc := 18) F e6 wM_X2_77 wNa_arraycopy wSt_arraycopy wI_J10 (by decide) (Nat.le_of_ble_eq_true rfl) dX2_countWay_18 ?_
    cases e2
    exact hJ3
  · have e2 := (if_neg c4).symm.trans e2
    cases e2
    exact hJ3
def s_X2_findWays_1 (Fu : Nat) (Λ : fx_L) (this_13 : Int) (town_14 : Int) (court_15 : Int) (hour_16 : Int) : Int × Int × fx_H → Option ((Int × Int × fx_H) ⊕ (Int × Int × fx_H)) := fun (person_10, step_11, h12) =>
  if ((step_11 < 1000000) ∧ (0 ≤ person_10)) then
    (fx_rd Λ h12 (fx_tg Λ this_13 3) person_10).bind fun v23 =>
    (fx_wr Λ h12 (fx_tg Λ this_13 3) person_10 (fx_w (v23 + 1))).bind fun h25 =>
    (fx_rd Λ h25 (fx_tg Λ this_13 3) person_10).bind fun v27 =>
    if (h25 town_14 0) < v27 then
      (fx_wr Λ h25 (fx_tg Λ this_13 2) person_10 9).bind fun h30 =>
      some (.inl ((fx_w (person_10 + (-1))), (fx_w (step_11 + 1)), h30))
    else
      Option.bind (
        (fx_rd Λ h25 (fx_tg Λ this_13 3) person_10).bind fun v35 =>
        if v35 = (h25 town_14 0) then
          some (9 : Int)
        else
          (fx_rd Λ h25 (fx_tg Λ this_13 3) person_10).bind fun v38 =>
          some v38
      ) fun v32 =>
      (fx_wr Λ h25 (fx_tg Λ this_13 2) person_10 v32).bind fun h40 =>
      (f_X2_mayHavePaid Fu Λ this_13 town_14 court_15 hour_16 person_10 h40).bind fun v42 =>
      if v42 = 0 then
        some (.inl (person_10, (fx_w (step_11 + 1)), h40))
      else
        if person_10 < (fx_w ((h40 town_14 2) - 1)) then
          (fx_wr Λ h40 (fx_tg Λ this_13 3) (fx_w (person_10 + 1)) (-1)).bind fun h46 =>
          some (.inl ((fx_w (person_10 + 1)), (fx_w (step_11 + 1)), h46))
        else
          (f_X2_countWay Fu Λ this_13 h40).bind fun h48 =>
          some (.inl (person_10, (fx_w (step_11 + 1)), h48))
  else
    some (.inr (person_10, step_11, h12))
def f_X2_findWays (Fu : Nat) (Λ : fx_L) (this_0 : Int) (town_0 : Int) (court_0 : Int) (hour_0 : Int) (changes_0 : Int) (h : fx_H) : Option (fx_H) :=
  if (((h this_0 4) = changes_0) ∧ ((h this_0 5) = hour_0)) then
    some h
  else
    (f_J7_fill_53178 Fu Λ (fx_tg Λ this_0 2) 9 (fx_up (fx_up (fx_up h this_0 4 changes_0) this_0 5 hour_0) this_0 0 0)).bind fun h6 =>
    (fx_wr Λ h6 (fx_tg Λ this_0 3) 0 (-1)).bind fun h8 =>
    Option.bind (fx_loop (s_X2_findWays_1 Fu Λ this_0 town_0 court_0 hour_0) Fu (0, 0, h8)) fun (person_86, step_87, h88) =>
    some h88
abbrev rm_X2_findWays : Room := { frames := 3, cells := 0, slots := 0, locals := 84 }
set_option maxRecDepth 100000 in
set_option maxHeartbeats 4000000 in
theorem m_X2_findWays (Fu : Nat) (Λ : fx_L) (this_0 : Int) (town_0 : Int) (court_0 : Int) (hour_0 : Int) (changes_0 : Int) (h : fx_H) (ho : fx_H) (hf : f_X2_findWays Fu Λ this_0 town_0 court_0 hour_0 changes_0 h = some ho) : fx_Met yX2_findWays cX2_findWays 7 none rm_X2_findWays Λ [(4, this_0), (6, town_0), (2, court_0), (0, hour_0), (0, changes_0)] h none ho := by
  unfold f_X2_findWays at hf
  refine fx_enter (ls := [some (4, this_0), some (6, town_0), some (2, court_0), some (0, hour_0), some (0, changes_0), none, none]) (by decide) (Nat.le_of_ble_eq_true rfl) rfl (fun M G F K => ?_)
  refine fx_aload_n (pc := 0) (t := 2) F 0 rfl rfl dX2_findWays_0 ?_
  refine fx_gI (pc := 1) F 2 4 4 rfl kC_X2 rfl wF_X2_21 dX2_findWays_1 ?_
  refine fx_iload (pc := 4) F rfl dX2_findWays_4 ?_
  have hT1 : ((((h this_0 4) = changes_0) ∧ ((h this_0 5) = hour_0))) → fx_J M G Λ 7 17 [some (4, this_0), some (6, town_0), some (2, court_0), some (0, hour_0), some (0, changes_0), none, none] [] h := fun c5 => by
    have hf := (if_pos c5).symm.trans hf
    cases hf
    exact fx_vreturn (pc := 17) F K dX2_findWays_17
  have hF2 : ¬ ((((h this_0 4) = changes_0) ∧ ((h this_0 5) = hour_0))) → fx_J M G Λ 7 18 [some (4, this_0), some (6, town_0), some (2, court_0), some (0, hour_0), some (0, changes_0), none, none] [] h := fun c5 => by
    have hf := (if_neg c5).symm.trans hf
    refine fx_aload_n (pc := 18) (t := 2) F 0 rfl rfl dX2_findWays_18 ?_
    refine fx_iload (pc := 19) F rfl dX2_findWays_19 ?_
    refine fx_pI (pc := 21) F 2 4 4 rfl kC_X2 rfl rfl (by decide +kernel) wF_X2_21 dX2_findWays_21 ?_
    refine fx_aload_n (pc := 24) (t := 2) F 0 rfl rfl dX2_findWays_24 ?_
    refine fx_iload_n (pc := 25) F 3 rfl rfl dX2_findWays_25 ?_
    refine fx_pI (pc := 26) F 2 5 5 rfl kC_X2 rfl rfl (by decide +kernel) wF_X2_25 dX2_findWays_26 ?_
    refine fx_aload_n (pc := 29) (t := 2) F 0 rfl rfl dX2_findWays_29 ?_
    refine fx_iconst (pc := 30) F ⟨by decide, by decide⟩ dX2_findWays_30 ?_
    refine fx_pI (pc := 31) F 2 0 0 rfl kC_X2 rfl rfl (by decide +kernel) wF_X2_28 dX2_findWays_31 ?_
    refine fx_iconst (pc := 34) F ⟨by decide, by decide⟩ dX2_findWays_34 ?_
    refine fx_istore (pc := 35) (ls' := [some (4, this_0), some (6, town_0), some (2, court_0), some (0, hour_0), some (0, changes_0), some (0, 0), none]) F (by decide) rfl rfl dX2_findWays_35 ?_
    refine fx_aload_n (pc := 37) (t := 2) F 0 rfl rfl dX2_findWays_37 ?_
    refine fx_gR (pc := 38) F 2 2 2 8 rfl kC_X2 (by decide) rfl wF_X2_15 dX2_findWays_38 ?_
    refine fx_bipush (pc := 41) F ⟨by decide, by decide⟩ (by decide) dX2_findWays_41 ?_
    obtain ⟨h6, e7, hf⟩ := fx_bnd hf
    refine fx_cSv (pc := 43) F [(10, (fx_tg Λ this_0 2)), (0, 9)] [] (m_J7_fill_53178 Fu Λ (fx_tg Λ this_0 2) 9 (fx_up (fx_up (fx_up h this_0 4 changes_0) this_0 5 hour_0) this_0 0 0) _ e7) kD_J7_fill_53178 wSt_J7_fill_53178 wM_X2_31 ⟨rfl, rfl⟩ ⟨by decide, by decide⟩ (Nat.le_of_ble_eq_true rfl) rfl dX2_findWays_43 ?_
    refine fx_aload_n (pc := 46) (t := 2) F 0 rfl rfl dX2_findWays_46 ?_
    refine fx_gR (pc := 47) F 2 3 3 8 rfl kC_X2 (by decide) rfl wF_X2_18 dX2_findWays_47 ?_
    refine fx_iconst (pc := 50) F ⟨by decide, by decide⟩ dX2_findWays_50 ?_
    refine fx_iconst (pc := 51) F ⟨by decide, by decide⟩ dX2_findWays_51 ?_
    obtain ⟨h8, e9, hf⟩ := fx_bnd hf
    refine fx_rastI (pc := 52) F e9 dX2_findWays_52 ?_
    refine fx_iconst (pc := 53) F ⟨by decide, by decide⟩ dX2_findWays_53 ?_
    refine fx_istore (pc := 54) (ls' := [some (4, this_0), some (6, town_0), some (2, court_0), some (0, hour_0), some (0, changes_0), some (0, 0), some (0, 0)]) F (by decide) rfl rfl dX2_findWays_54 ?_
    obtain ⟨⟨person_86, step_87, h88⟩, e89, hf⟩ := fx_bnd hf
    have hE90 : fx_J M G Λ 7 191 [some (4, this_0), some (6, town_0), some (2, court_0), some (0, hour_0), some (0, changes_0), some (0, person_86), some (0, step_87)] [] h88 := by
      cases hf
      exact fx_vreturn (pc := 191) F K dX2_findWays_191
    refine fx_loop_J (Hd := (fun z : Int × Int × fx_H => fx_J M G Λ 7 56 [some (4, this_0), some (6, town_0), some (2, court_0), some (0, hour_0), some (0, changes_0), some (0, z.1), some (0, z.2.1)] [] z.2.2)) (Ex := (fun z : Int × Int × fx_H => fx_J M G Λ 7 191 [some (4, this_0), some (6, town_0), some (2, court_0), some (0, hour_0), some (0, changes_0), some (0, z.1), some (0, z.2.1)] [] z.2.2)) ?_ Fu _ _ e89 hE90
    rintro ⟨person_50, step_51, h52⟩ o9 eq53 ih ex
    unfold s_X2_findWays_1 at eq53
    show fx_J M G Λ 7 56 [some (4, this_0), some (6, town_0), some (2, court_0), some (0, hour_0), some (0, changes_0), some (0, person_50), some (0, step_51)] [] h52
    refine fx_iload (pc := 56) F rfl dX2_findWays_56 ?_
    refine fx_ldc (pc := 58) (z := 1000000) F (by decide) ⟨by decide, by decide⟩ wK_X2_37 dX2_findWays_58 ?_
    have hT54 : (((step_51 < 1000000) ∧ (0 ≤ person_50))) → fx_J M G Λ 7 68 [some (4, this_0), some (6, town_0), some (2, court_0), some (0, hour_0), some (0, changes_0), some (0, person_50), some (0, step_51)] [] h52 := fun c58 => by
      have eq53 := (if_pos c58).symm.trans eq53
      refine fx_aload_n (pc := 68) (t := 2) F 0 rfl rfl dX2_findWays_68 ?_
      refine fx_gR (pc := 69) F 2 3 3 8 rfl kC_X2 (by decide) rfl wF_X2_18 dX2_findWays_69 ?_
      refine fx_iload (pc := 72) F rfl dX2_findWays_72 ?_
      refine fx_dup2 (pc := 74) F (show (0 : Nat) ≠ 1 by decide) (show (10 : Nat) ≠ 1 by decide) dX2_findWays_74 ?_
      obtain ⟨v59, e60, eq53⟩ := fx_bnd eq53
      refine fx_raldI (pc := 75) F e60 dX2_findWays_75 ?_
      refine fx_iconst (pc := 76) F ⟨by decide, by decide⟩ dX2_findWays_76 ?_
      refine fx_iadd (pc := 77) F dX2_findWays_77 ?_
      obtain ⟨h61, e62, eq53⟩ := fx_bnd eq53
      refine fx_rastI (pc := 78) F e62 dX2_findWays_78 ?_
      refine fx_aload_n (pc := 79) (t := 2) F 0 rfl rfl dX2_findWays_79 ?_
      refine fx_gR (pc := 80) F 2 3 3 8 rfl kC_X2 (by decide) rfl wF_X2_18 dX2_findWays_80 ?_
      refine fx_iload (pc := 83) F rfl dX2_findWays_83 ?_
      obtain ⟨v63, e64, eq53⟩ := fx_bnd eq53
      refine fx_raldI (pc := 85) F e64 dX2_findWays_85 ?_
      refine fx_aload_n (pc := 86) (t := 4) F 1 rfl rfl dX2_findWays_86 ?_
      refine fx_gI (pc := 87) F 4 0 0 rfl kC_X4 rfl wF_X2_38 dX2_findWays_87 ?_
      refine fx_ngt (pc := 90) F 108 (by decide) dX2_findWays_90 (fun c65 => ?_) (fun c65 => ?_)
      · have eq53 := (if_pos c65).symm.trans eq53
        refine fx_aload_n (pc := 93) (t := 2) F 0 rfl rfl dX2_findWays_93 ?_
        refine fx_gR (pc := 94) F 2 2 2 8 rfl kC_X2 (by decide) rfl wF_X2_15 dX2_findWays_94 ?_
        refine fx_iload (pc := 97) F rfl dX2_findWays_97 ?_
        refine fx_bipush (pc := 99) F ⟨by decide, by decide⟩ (by decide) dX2_findWays_99 ?_
        obtain ⟨h66, e67, eq53⟩ := fx_bnd eq53
        refine fx_rastI (pc := 101) F e67 dX2_findWays_101 ?_
        refine fx_iinc (pc := 102) (ls' := [some (4, this_0), some (6, town_0), some (2, court_0), some (0, hour_0), some (0, changes_0), some (0, (fx_w (person_50 + (-1)))), some (0, step_51)]) F (by decide) rfl rfl rfl dX2_findWays_102 ?_
        refine fx_goto (pc := 105) F 185 (by decide) dX2_findWays_105 ?_
        refine fx_iinc (pc := 185) (ls' := [some (4, this_0), some (6, town_0), some (2, court_0), some (0, hour_0), some (0, changes_0), some (0, (fx_w (person_50 + (-1)))), some (0, (fx_w (step_51 + 1)))]) F (by decide) rfl rfl rfl dX2_findWays_185 ?_
        refine fx_goto (pc := 188) F 56 (by decide) dX2_findWays_188 ?_
        cases eq53
        exact ih _ rfl
      · have eq53 := (if_neg c65).symm.trans eq53
        refine fx_aload_n (pc := 108) (t := 2) F 0 rfl rfl dX2_findWays_108 ?_
        refine fx_gR (pc := 109) F 2 2 2 8 rfl kC_X2 (by decide) rfl wF_X2_15 dX2_findWays_109 ?_
        refine fx_iload (pc := 112) F rfl dX2_findWays_112 ?_
        obtain ⟨v68, e69, eq53⟩ := fx_bnd eq53
        have hJ70 : fx_J M G Λ 7 140 [some (4, this_0), some (6, town_0), some (2, court_0), some (0, hour_0), some (0, changes_0), some (0, person_50), some (0, step_51)] [(0, v68), (0, person_50), (10, (fx_tg Λ this_0 2))] h61 := by
          obtain ⟨h76, e77, eq53⟩ := fx_bnd eq53
          refine fx_rastI (pc := 140) F e77 dX2_findWays_140 ?_
          refine fx_aload_n (pc := 141) (t := 2) F 0 rfl rfl dX2_findWays_141 ?_
          refine fx_aload_n (pc := 142) (t := 4) F 1 rfl rfl dX2_findWays_142 ?_
          refine fx_aload_n (pc := 143) (t := 0) F 2 rfl rfl dX2_findWays_143 ?_
          refine fx_iload_n (pc := 144) F 3 rfl rfl dX2_findWays_144 ?_
          refine fx_iload (pc := 145) F rfl dX2_findWays_145 ?_
          obtain ⟨v78, e79, eq53⟩ := fx_bnd eq53
          refine fx_cV (pc := 147) F 2 kC_X2 [(6, town_0), (2, court_0), (0, hour_0), (0, person_50)] this_0 [] (m_X2_mayHavePaid Fu Λ this_0 town_0 court_0 hour_0 person_50 h76 _ e79) kD_X2_mayHavePaid kI_X2_mayHavePaid rfl wM_X2_43 ⟨rfl, rfl⟩ ⟨by decide, by decide⟩ (Nat.le_of_ble_eq_true rfl) rfl dX2_findWays_147 ?_
          refine fx_nzeq (pc := 150) F 156 (by decide) dX2_findWays_150 (fun c80 => ?_) (fun c80 => ?_)
          · have eq53 := (if_pos c80).symm.trans eq53
            refine fx_goto (pc := 153) F 185 (by decide) dX2_findWays_153 ?_
            refine fx_iinc (pc := 185) (ls' := [some (4, this_0), some (6, town_0), some (2, court_0), some (0, hour_0), some (0, changes_0), some (0, person_50), some (0, (fx_w (step_51 + 1)))]) F (by decide) rfl rfl rfl dX2_findWays_185 ?_
            refine fx_goto (pc := 188) F 56 (by decide) dX2_findWays_188 ?_
            cases eq53
            exact ih _ rfl
          · have eq53 := (if_neg c80).symm.trans eq53
            refine fx_iload (pc := 156) F rfl dX2_findWays_156 ?_
            refine fx_aload_n (pc := 158) (t := 4) F 1 rfl rfl dX2_findWays_158 ?_
            refine fx_gI (pc := 159) F 4 2 2 rfl kC_X4 rfl wF_X2_47 dX2_findWays_159 ?_
            refine fx_iconst (pc := 162) F ⟨by decide, by decide⟩ dX2_findWays_162 ?_
            refine fx_isub (pc := 163) F dX2_findWays_163 ?_
            refine fx_nlt (pc := 164) F 181 (by decide) dX2_findWays_164 (fun c81 => ?_) (fun c81 => ?_)
            · have eq53 := (if_pos c81).symm.trans eq53
              refine fx_iinc (pc := 167) (ls' := [some (4, this_0), some (6, town_0), some (2, court_0), some (0, hour_0), some (0, changes_0), some (0, (fx_w (person_50 + 1))), some (0, step_51)]) F (by decide) rfl rfl rfl dX2_findWays_167 ?_
              refine fx_aload_n (pc := 170) (t := 2) F 0 rfl rfl dX2_findWays_170 ?_
              refine fx_gR (pc := 171) F 2 3 3 8 rfl kC_X2 (by decide) rfl wF_X2_18 dX2_findWays_171 ?_
              refine fx_iload (pc := 174) F rfl dX2_findWays_174 ?_
              refine fx_iconst (pc := 176) F ⟨by decide, by decide⟩ dX2_findWays_176 ?_
              obtain ⟨h82, e83, eq53⟩ := fx_bnd eq53
              refine fx_rastI (pc := 177) F e83 dX2_findWays_177 ?_
              refine fx_goto (pc := 178) F 185 (by decide) dX2_findWays_178 ?_
              refine fx_iinc (pc := 185) (ls' := [some (4, this_0), some (6, town_0), some (2, court_0), some (0, hour_0), some (0, changes_0), some (0, (fx_w (person_50 + 1))), some (0, (fx_w (step_51 + 1)))]) F (by decide) rfl rfl rfl dX2_findWays_185 ?_
              refine fx_goto (pc := 188) F 56 (by decide) dX2_findWays_188 ?_
              cases eq53
              exact ih _ rfl
            · have eq53 := (if_neg c81).symm.trans eq53
              refine fx_aload_n (pc := 181) (t := 2) F 0 rfl rfl dX2_findWays_181 ?_
              obtain ⟨h84, e85, eq53⟩ := fx_bnd eq53
              refine fx_cVv (pc := 182) F 2 kC_X2 [] this_0 [] (m_X2_countWay Fu Λ this_0 h76 _ e85) kD_X2_countWay kI_X2_countWay rfl wM_X2_50 ⟨rfl, rfl⟩ ⟨by decide, by decide⟩ (Nat.le_of_ble_eq_true rfl) rfl dX2_findWays_182 ?_
              refine fx_iinc (pc := 185) (ls' := [some (4, this_0), some (6, town_0), some (2, court_0), some (0, hour_0), some (0, changes_0), some (0, person_50), some (0, (fx_w (step_51 + 1)))]) F (by decide) rfl rfl rfl dX2_findWays_185 ?_
              refine fx_goto (pc := 188) F 56 (by decide) dX2_findWays_188 ?_
              cases eq53
              exact ih _ rfl
        refine fx_aload_n (pc := 114) (t := 2) F 0 rfl rfl dX2_findWays_114 ?_
        refine fx_gR (pc := 115) F 2 3 3 8 rfl kC_X2 (by decide) rfl wF_X2_18 dX2_findWays_115 ?_
        refine fx_iload (pc := 118) F rfl dX2_findWays_118 ?_
        obtain ⟨v71, e72, e69⟩ := fx_bnd e69
        refine fx_raldI (pc := 120) F e72 dX2_findWays_120 ?_
        refine fx_aload_n (pc := 121) (t := 4) F 1 rfl rfl dX2_findWays_121 ?_
        refine fx_gI (pc := 122) F 4 0 0 rfl kC_X4 rfl wF_X2_38 dX2_findWays_122 ?_
        refine fx_neq (pc := 125) F 133 (by decide) dX2_findWays_125 (fun c73 => ?_) (fun c73 => ?_)
        · have e69 := (if_pos c73).symm.trans e69
          refine fx_bipush (pc := 128) F ⟨by decide, by decide⟩ (by decide) dX2_findWays_128 ?_
          cases e69
          refine fx_goto (pc := 130) F 140 (by decide) dX2_findWays_130 ?_
          exact hJ70
        · have e69 := (if_neg c73).symm.trans e69
          refine fx_aload_n (pc := 133) (t := 2) F 0 rfl rfl dX2_findWays_133 ?_
          refine fx_gR (pc := 134) F 2 3 3 8 rfl kC_X2 (by decide) rfl wF_X2_18 dX2_findWays_134 ?_
          refine fx_iload (pc := 137) F rfl dX2_findWays_137 ?_
          obtain ⟨v74, e75, e69⟩ := fx_bnd e69
          refine fx_raldI (pc := 139) F e75 dX2_findWays_139 ?_
          cases e69
          exact hJ70
    have hF55 : ¬ (((step_51 < 1000000) ∧ (0 ≤ person_50))) → fx_J M G Λ 7 191 [some (4, this_0), some (6, town_0), some (2, court_0), some (0, hour_0), some (0, changes_0), some (0, person_50), some (0, step_51)] [] h52 := fun c58 => by
      have eq53 := (if_neg c58).symm.trans eq53
      cases eq53
      exact ex _ rfl
    refine fx_nlt (pc := 60) F 191 (by decide) dX2_findWays_60 (fun c56 => ?_) (fun c56 => ?_)
    · refine fx_iload (pc := 63) F rfl dX2_findWays_63 ?_
      refine fx_nzge (pc := 65) F 191 (by decide) dX2_findWays_65 (fun c57 => ?_) (fun c57 => ?_)
      · exact hT54 ⟨c56, c57⟩
      · exact hF55 (fun q => c57 q.2)
    · exact hF55 (fun q => c56 q.1)
  refine fx_neq (pc := 6) F 18 (by decide) dX2_findWays_6 (fun c3 => ?_) (fun c3 => ?_)
  · refine fx_aload_n (pc := 9) (t := 2) F 0 rfl rfl dX2_findWays_9 ?_
    refine fx_gI (pc := 10) F 2 5 5 rfl kC_X2 rfl wF_X2_25 dX2_findWays_10 ?_
    refine fx_iload_n (pc := 13) F 3 rfl rfl dX2_findWays_13 ?_
    refine fx_neq (pc := 14) F 18 (by decide) dX2_findWays_14 (fun c4 => ?_) (fun c4 => ?_)
    · exact hT1 ⟨c3, c4⟩
    · exact hF2 (fun q => c4 q.2)
  · exact hF2 (fun q => c3 q.1)
