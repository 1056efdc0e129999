theorem fx_in1 {w : Cond} (h : w ∈ tables_1_1) (hg : goodWord w = true) : w ∈ fx_WS := List.mem_filter.mpr ⟨List.mem_append_right _ (show w ∈ tables_1_1 ++ (tables_1_2 ++ (tables_1_3 ++ (tables_1_4 ++ (tables_1_5 ++ tables_1_6)))) from List.mem_append_left _ h), hg⟩
theorem fx_in2 {w : Cond} (h : w ∈ tables_1_2) (hg : goodWord w = true) : w ∈ fx_WS := List.mem_filter.mpr ⟨List.mem_append_right _ (show w ∈ tables_1_1 ++ (tables_1_2 ++ (tables_1_3 ++ (tables_1_4 ++ (tables_1_5 ++ tables_1_6)))) from List.mem_append_right _ (List.mem_append_left _ h)), hg⟩
theorem fx_in3 {w : Cond} (h : w ∈ tables_1_3) (hg : goodWord w = true) : w ∈ fx_WS := List.mem_filter.mpr ⟨List.mem_append_right _ (show w ∈ tables_1_1 ++ (tables_1_2 ++ (tables_1_3 ++ (tables_1_4 ++ (tables_1_5 ++ tables_1_6)))) from List.mem_append_right _ (List.mem_append_right _ (List.mem_append_left _ h))), hg⟩
theorem fx_in4 {w : Cond} (h : w ∈ tables_1_4) (hg : goodWord w = true) : w ∈ fx_WS := List.mem_filter.mpr ⟨List.mem_append_right _ (show w ∈ tables_1_1 ++ (tables_1_2 ++ (tables_1_3 ++ (tables_1_4 ++ (tables_1_5 ++ tables_1_6)))) from List.mem_append_right _ (List.mem_append_right _ (List.mem_append_right _ (List.mem_append_left _ h)))), hg⟩
theorem fx_in5 {w : Cond} (h : w ∈ tables_1_5) (hg : goodWord w = true) : w ∈ fx_WS := List.mem_filter.mpr ⟨List.mem_append_right _ (show w ∈ tables_1_1 ++ (tables_1_2 ++ (tables_1_3 ++ (tables_1_4 ++ (tables_1_5 ++ tables_1_6)))) from List.mem_append_right _ (List.mem_append_right _ (List.mem_append_right _ (List.mem_append_right _ (List.mem_append_left _ h))))), hg⟩
theorem fx_in6 {w : Cond} (h : w ∈ tables_1_6) (hg : goodWord w = true) : w ∈ fx_WS := List.mem_filter.mpr ⟨List.mem_append_right _ (show w ∈ tables_1_1 ++ (tables_1_2 ++ (tables_1_3 ++ (tables_1_4 ++ (tables_1_5 ++ tables_1_6)))) from List.mem_append_right _ (List.mem_append_right _ (List.mem_append_right _ (List.mem_append_right _ (List.mem_append_right _ (h)))))), hg⟩
theorem fx_in0 {w : Cond} (h : w ∈ k2_sels lw_privs) (hg : goodWord w = true) : w ∈ fx_WS := List.mem_filter.mpr ⟨List.mem_append_left _ h, hg⟩
theorem wI_L : Cond.initialized RL ∈ fx_WS := fx_in1 (List.mem_of_getElem? (i := 0) (by rfl)) (by rfl)
theorem wI_X5 : Cond.initialized RX5 ∈ fx_WS := fx_in1 (List.mem_of_getElem? (i := 1) (by rfl)) (by rfl)
theorem wI_X4 : Cond.initialized RX4 ∈ fx_WS := fx_in1 (List.mem_of_getElem? (i := 2) (by rfl)) (by rfl)
theorem wI_J7 : Cond.initialized RJ7 ∈ fx_WS := fx_in1 (List.mem_of_getElem? (i := 3) (by rfl)) (by rfl)
theorem wI_X3 : Cond.initialized RX3 ∈ fx_WS := fx_in1 (List.mem_of_getElem? (i := 4) (by rfl)) (by rfl)
theorem wI_X0 : Cond.initialized RX0 ∈ fx_WS := fx_in1 (List.mem_of_getElem? (i := 5) (by rfl)) (by rfl)
theorem wI_X1 : Cond.initialized RX1 ∈ fx_WS := fx_in1 (List.mem_of_getElem? (i := 6) (by rfl)) (by rfl)
theorem wI_X2 : Cond.initialized RX2 ∈ fx_WS := fx_in1 (List.mem_of_getElem? (i := 7) (by rfl)) (by rfl)
theorem wI_X6 : Cond.initialized RX6 ∈ fx_WS := fx_in1 (List.mem_of_getElem? (i := 8) (by rfl)) (by rfl)
theorem wI_J10 : Cond.initialized "java/lang/System" ∈ fx_WS := fx_in1 (List.mem_of_getElem? (i := 9) (by rfl)) (by rfl)
theorem wI_J9 : Cond.initialized "java/lang/Math" ∈ fx_WS := fx_in1 (List.mem_of_getElem? (i := 10) (by rfl)) (by rfl)
theorem wI_J0 : Cond.initialized RJ0 ∈ fx_WS := fx_in1 (List.mem_of_getElem? (i := 11) (by rfl)) (by rfl)
theorem wI_J1 : Cond.initialized RJ1 ∈ fx_WS := fx_in1 (List.mem_of_getElem? (i := 12) (by rfl)) (by rfl)
theorem wI_J3 : Cond.initialized RJ3 ∈ fx_WS := fx_in1 (List.mem_of_getElem? (i := 13) (by rfl)) (by rfl)
theorem wI_J2 : Cond.initialized RJ2 ∈ fx_WS := fx_in1 (List.mem_of_getElem? (i := 14) (by rfl)) (by rfl)
theorem wC_L_7 : Cond.classLink RL 7 RX5 ∈ fx_WS := fx_in1 (List.mem_of_getElem? (i := 15) (by rfl)) (by rfl)
theorem wNew_X5 : Cond.instantiable RX5 14 ∈ fx_WS := fx_in1 (List.mem_of_getElem? (i := 16) (by rfl)) (by rfl)
theorem wM_L_9 : Cond.methodLink RL 9 yX5_init ∈ fx_WS := fx_in1 (List.mem_of_getElem? (i := 17) (by rfl)) (by rfl)
theorem wIn_X5_init : Cond.instanceMethod yX5_init ∈ fx_WS := fx_in1 (List.mem_of_getElem? (i := 18) (by rfl)) (by rfl)
theorem wCo_X5_init : Cond.code yX5_init cX5_init 2 none ∈ fx_WS := fx_in1 (List.mem_of_getElem? (i := 19) (by rfl)) (by rfl)
theorem wM_X5_1 : Cond.methodLink RX5 1 objectInit ∈ fx_WS := fx_in1 (List.mem_of_getElem? (i := 20) (by rfl)) (by rfl)
theorem wIn_objectInit : Cond.instanceMethod objectInit ∈ fx_WS := fx_in1 (List.mem_of_getElem? (i := 21) (by rfl)) (by rfl)
theorem wCo_objectInit : Cond.code objectInit ⟨#[0xb1]⟩ 1 none ∈ fx_WS := fx_in1 (List.mem_of_getElem? (i := 22) (by rfl)) (by rfl)
theorem wC_X5_7 : Cond.classLink RX5 7 RX4 ∈ fx_WS := fx_in1 (List.mem_of_getElem? (i := 23) (by rfl)) (by rfl)
theorem wNew_X4 : Cond.instantiable RX4 14 ∈ fx_WS := fx_in1 (List.mem_of_getElem? (i := 24) (by rfl)) (by rfl)
theorem wM_X5_9 : Cond.methodLink RX5 9 yX4_init ∈ fx_WS := fx_in1 (List.mem_of_getElem? (i := 25) (by rfl)) (by rfl)
theorem wIn_X4_init : Cond.instanceMethod yX4_init ∈ fx_WS := fx_in1 (List.mem_of_getElem? (i := 26) (by rfl)) (by rfl)
theorem wCo_X4_init : Cond.code yX4_init cX4_init 1 none ∈ fx_WS := fx_in1 (List.mem_of_getElem? (i := 27) (by rfl)) (by rfl)
theorem wM_X4_3 : Cond.methodLink RX4 3 objectInit ∈ fx_WS := fx_in1 (List.mem_of_getElem? (i := 28) (by rfl)) (by rfl)
theorem wC_X4_18 : Cond.classLink RX4 18 "[[I" ∈ fx_WS := fx_in1 (List.mem_of_getElem? (i := 29) (by rfl)) (by rfl)
theorem wM_X4_38 : Cond.methodLink RX4 38 yX4_begin ∈ fx_WS := fx_in1 (List.mem_of_getElem? (i := 31) (by rfl)) (by rfl)
theorem wIn_X4_begin : Cond.instanceMethod yX4_begin ∈ fx_WS := fx_in1 (List.mem_of_getElem? (i := 32) (by rfl)) (by rfl)
theorem wSel_X4_begin : Cond.selects yX4_begin.cls yX4_begin yX4_begin ∈ fx_WS := fx_in1 (List.mem_of_getElem? (i := 33) (by rfl)) (by rfl)
theorem wCo_X4_begin : Cond.code yX4_begin cX4_begin 1 none ∈ fx_WS := fx_in1 (List.mem_of_getElem? (i := 34) (by rfl)) (by rfl)
theorem wM_X4_48 : Cond.methodLink RX4 48 yX4_settle ∈ fx_WS := fx_in1 (List.mem_of_getElem? (i := 35) (by rfl)) (by rfl)
theorem wIn_X4_settle : Cond.instanceMethod yX4_settle ∈ fx_WS := fx_in1 (List.mem_of_getElem? (i := 36) (by rfl)) (by rfl)
theorem wSel_X4_settle : Cond.selects yX4_settle.cls yX4_settle yX4_settle ∈ fx_WS := fx_in1 (List.mem_of_getElem? (i := 37) (by rfl)) (by rfl)
theorem wCo_X4_settle : Cond.code yX4_settle cX4_settle 4 none ∈ fx_WS := fx_in1 (List.mem_of_getElem? (i := 38) (by rfl)) (by rfl)
theorem wM_X4_64 : Cond.methodLink RX4 64 yJ7_fill_53178 ∈ fx_WS := fx_in1 (List.mem_of_getElem? (i := 39) (by rfl)) (by rfl)
theorem wSt_J7_fill_53178 : Cond.static yJ7_fill_53178 ∈ fx_WS := fx_in1 (List.mem_of_getElem? (i := 40) (by rfl)) (by rfl)
theorem wCo_J7_fill_53178 : Cond.code yJ7_fill_53178 cJ7_fill_53178 4 none ∈ fx_WS := fx_in1 (List.mem_of_getElem? (i := 41) (by rfl)) (by rfl)
theorem wF_X4_41 : Cond.fieldLink RX4 41 (TX4 0).1 (TX4 0).2.1 (TX4 0).2.2.1 ∈ fx_WS := fx_in1 (List.mem_of_getElem? (i := 42) (by rfl)) (by rfl)
theorem wF_X5_67 : Cond.fieldLink RX5 67 (TX4 0).1 (TX4 0).2.1 (TX4 0).2.2.1 ∈ fx_WS := fx_in1 (List.mem_of_getElem? (i := 43) (by rfl)) (by rfl)
theorem wF_X0_41 : Cond.fieldLink RX0 41 (TX4 0).1 (TX4 0).2.1 (TX4 0).2.2.1 ∈ fx_WS := fx_in1 (List.mem_of_getElem? (i := 44) (by rfl)) (by rfl)
theorem wF_X2_38 : Cond.fieldLink RX2 38 (TX4 0).1 (TX4 0).2.1 (TX4 0).2.2.1 ∈ fx_WS := fx_in1 (List.mem_of_getElem? (i := 45) (by rfl)) (by rfl)
theorem wF_X3_91 : Cond.fieldLink RX3 91 (TX4 0).1 (TX4 0).2.1 (TX4 0).2.2.1 ∈ fx_WS := fx_in1 (List.mem_of_getElem? (i := 46) (by rfl)) (by rfl)
theorem wF_X1_142 : Cond.fieldLink RX1 142 (TX4 0).1 (TX4 0).2.1 (TX4 0).2.2.1 ∈ fx_WS := fx_in1 (List.mem_of_getElem? (i := 47) (by rfl)) (by rfl)
theorem wF_X4_45 : Cond.fieldLink RX4 45 (TX4 1).1 (TX4 1).2.1 (TX4 1).2.2.1 ∈ fx_WS := fx_in1 (List.mem_of_getElem? (i := 48) (by rfl)) (by rfl)
theorem wF_X3_125 : Cond.fieldLink RX3 125 (TX4 1).1 (TX4 1).2.1 (TX4 1).2.2.1 ∈ fx_WS := fx_in1 (List.mem_of_getElem? (i := 49) (by rfl)) (by rfl)
theorem wF_X5_147 : Cond.fieldLink RX5 147 (TX4 1).1 (TX4 1).2.1 (TX4 1).2.2.1 ∈ fx_WS := fx_in1 (List.mem_of_getElem? (i := 50) (by rfl)) (by rfl)
theorem wF_X0_30 : Cond.fieldLink RX0 30 (TX4 2).1 (TX4 2).2.1 (TX4 2).2.2.1 ∈ fx_WS := fx_in1 (List.mem_of_getElem? (i := 51) (by rfl)) (by rfl)
theorem wF_X2_47 : Cond.fieldLink RX2 47 (TX4 2).1 (TX4 2).2.1 (TX4 2).2.2.1 ∈ fx_WS := fx_in1 (List.mem_of_getElem? (i := 52) (by rfl)) (by rfl)
theorem wF_X4_52 : Cond.fieldLink RX4 52 (TX4 2).1 (TX4 2).2.1 (TX4 2).2.2.1 ∈ fx_WS := fx_in1 (List.mem_of_getElem? (i := 53) (by rfl)) (by rfl)
theorem wF_X1_87 : Cond.fieldLink RX1 87 (TX4 2).1 (TX4 2).2.1 (TX4 2).2.2.1 ∈ fx_WS := fx_in1 (List.mem_of_getElem? (i := 54) (by rfl)) (by rfl)
theorem wF_X3_114 : Cond.fieldLink RX3 114 (TX4 2).1 (TX4 2).2.1 (TX4 2).2.2.1 ∈ fx_WS := fx_in1 (List.mem_of_getElem? (i := 55) (by rfl)) (by rfl)
theorem wF_X5_202 : Cond.fieldLink RX5 202 (TX4 2).1 (TX4 2).2.1 (TX4 2).2.2.1 ∈ fx_WS := fx_in1 (List.mem_of_getElem? (i := 56) (by rfl)) (by rfl)
theorem wF_X1_52 : Cond.fieldLink RX1 52 (TX4 3).1 (TX4 3).2.1 (TX4 3).2.2.1 ∈ fx_WS := fx_in1 (List.mem_of_getElem? (i := 57) (by rfl)) (by rfl)
theorem wF_X4_55 : Cond.fieldLink RX4 55 (TX4 3).1 (TX4 3).2.1 (TX4 3).2.2.1 ∈ fx_WS := fx_in1 (List.mem_of_getElem? (i := 58) (by rfl)) (by rfl)
theorem wF_X0_72 : Cond.fieldLink RX0 72 (TX4 3).1 (TX4 3).2.1 (TX4 3).2.2.1 ∈ fx_WS := fx_in1 (List.mem_of_getElem? (i := 59) (by rfl)) (by rfl)
theorem wF_X3_116 : Cond.fieldLink RX3 116 (TX4 3).1 (TX4 3).2.1 (TX4 3).2.2.1 ∈ fx_WS := fx_in1 (List.mem_of_getElem? (i := 60) (by rfl)) (by rfl)
theorem wF_X5_191 : Cond.fieldLink RX5 191 (TX4 3).1 (TX4 3).2.1 (TX4 3).2.2.1 ∈ fx_WS := fx_in1 (List.mem_of_getElem? (i := 61) (by rfl)) (by rfl)
theorem wF_X0_37 : Cond.fieldLink RX0 37 (TX4 4).1 (TX4 4).2.1 (TX4 4).2.2.1 ∈ fx_WS := fx_in1 (List.mem_of_getElem? (i := 62) (by rfl)) (by rfl)
theorem wF_X4_58 : Cond.fieldLink RX4 58 (TX4 4).1 (TX4 4).2.1 (TX4 4).2.2.1 ∈ fx_WS := fx_in1 (List.mem_of_getElem? (i := 63) (by rfl)) (by rfl)
theorem wF_X3_127 : Cond.fieldLink RX3 127 (TX4 4).1 (TX4 4).2.1 (TX4 4).2.2.1 ∈ fx_WS := fx_in1 (List.mem_of_getElem? (i := 64) (by rfl)) (by rfl)
theorem wF_X5_260 : Cond.fieldLink RX5 260 (TX4 4).1 (TX4 4).2.1 (TX4 4).2.2.1 ∈ fx_WS := fx_in1 (List.mem_of_getElem? (i := 65) (by rfl)) (by rfl)
theorem wF_X4_61 : Cond.fieldLink RX4 61 (TX4 5).1 (TX4 5).2.1 (TX4 5).2.2.1 ∈ fx_WS := fx_in1 (List.mem_of_getElem? (i := 66) (by rfl)) (by rfl)
theorem wF_X5_117 : Cond.fieldLink RX5 117 (TX4 5).1 (TX4 5).2.1 (TX4 5).2.2.1 ∈ fx_WS := fx_in1 (List.mem_of_getElem? (i := 67) (by rfl)) (by rfl)
theorem wF_X4_9 : Cond.fieldLink RX4 9 (TX4 6).1 (TX4 6).2.1 (TX4 6).2.2.1 ∈ fx_WS := fx_in1 (List.mem_of_getElem? (i := 68) (by rfl)) (by rfl)
theorem wF_X0_44 : Cond.fieldLink RX0 44 (TX4 6).1 (TX4 6).2.1 (TX4 6).2.2.1 ∈ fx_WS := fx_in1 (List.mem_of_getElem? (i := 69) (by rfl)) (by rfl)
theorem wF_X5_257 : Cond.fieldLink RX5 257 (TX4 6).1 (TX4 6).2.1 (TX4 6).2.2.1 ∈ fx_WS := fx_in1 (List.mem_of_getElem? (i := 70) (by rfl)) (by rfl)
theorem wF_X4_15 : Cond.fieldLink RX4 15 (TX4 7).1 (TX4 7).2.1 (TX4 7).2.2.1 ∈ fx_WS := fx_in1 (List.mem_of_getElem? (i := 71) (by rfl)) (by rfl)
theorem wF_X3_121 : Cond.fieldLink RX3 121 (TX4 7).1 (TX4 7).2.1 (TX4 7).2.2.1 ∈ fx_WS := fx_in1 (List.mem_of_getElem? (i := 72) (by rfl)) (by rfl)
theorem wF_X5_263 : Cond.fieldLink RX5 263 (TX4 7).1 (TX4 7).2.1 (TX4 7).2.2.1 ∈ fx_WS := fx_in1 (List.mem_of_getElem? (i := 73) (by rfl)) (by rfl)
theorem wF_X4_20 : Cond.fieldLink RX4 20 (TX4 8).1 (TX4 8).2.1 (TX4 8).2.2.1 ∈ fx_WS := fx_in1 (List.mem_of_getElem? (i := 74) (by rfl)) (by rfl)
theorem wF_X2_57 : Cond.fieldLink RX2 57 (TX4 8).1 (TX4 8).2.1 (TX4 8).2.2.1 ∈ fx_WS := fx_in1 (List.mem_of_getElem? (i := 75) (by rfl)) (by rfl)
theorem wF_X0_55 : Cond.fieldLink RX0 55 (TX4 8).1 (TX4 8).2.1 (TX4 8).2.2.1 ∈ fx_WS := fx_in1 (List.mem_of_getElem? (i := 76) (by rfl)) (by rfl)
theorem wF_X5_106 : Cond.fieldLink RX5 106 (TX4 8).1 (TX4 8).2.1 (TX4 8).2.2.1 ∈ fx_WS := fx_in1 (List.mem_of_getElem? (i := 77) (by rfl)) (by rfl)
theorem wF_X1_100 : Cond.fieldLink RX1 100 (TX4 8).1 (TX4 8).2.1 (TX4 8).2.2.1 ∈ fx_WS := fx_in1 (List.mem_of_getElem? (i := 78) (by rfl)) (by rfl)
theorem wF_X3_132 : Cond.fieldLink RX3 132 (TX4 8).1 (TX4 8).2.1 (TX4 8).2.2.1 ∈ fx_WS := fx_in1 (List.mem_of_getElem? (i := 79) (by rfl)) (by rfl)
theorem wF_X4_23 : Cond.fieldLink RX4 23 (TX4 9).1 (TX4 9).2.1 (TX4 9).2.2.1 ∈ fx_WS := fx_in1 (List.mem_of_getElem? (i := 80) (by rfl)) (by rfl)
theorem wF_X5_129 : Cond.fieldLink RX5 129 (TX4 9).1 (TX4 9).2.1 (TX4 9).2.2.1 ∈ fx_WS := fx_in1 (List.mem_of_getElem? (i := 81) (by rfl)) (by rfl)
theorem wF_X3_139 : Cond.fieldLink RX3 139 (TX4 9).1 (TX4 9).2.1 (TX4 9).2.2.1 ∈ fx_WS := fx_in1 (List.mem_of_getElem? (i := 82) (by rfl)) (by rfl)
theorem wF_X1_157 : Cond.fieldLink RX1 157 (TX4 9).1 (TX4 9).2.1 (TX4 9).2.2.1 ∈ fx_WS := fx_in1 (List.mem_of_getElem? (i := 83) (by rfl)) (by rfl)
theorem wF_X4_26 : Cond.fieldLink RX4 26 (TX4 10).1 (TX4 10).2.1 (TX4 10).2.2.1 ∈ fx_WS := fx_in1 (List.mem_of_getElem? (i := 84) (by rfl)) (by rfl)
theorem wF_X2_74 : Cond.fieldLink RX2 74 (TX4 10).1 (TX4 10).2.1 (TX4 10).2.2.1 ∈ fx_WS := fx_in1 (List.mem_of_getElem? (i := 85) (by rfl)) (by rfl)
theorem wF_X5_209 : Cond.fieldLink RX5 209 (TX4 10).1 (TX4 10).2.1 (TX4 10).2.2.1 ∈ fx_WS := fx_in1 (List.mem_of_getElem? (i := 86) (by rfl)) (by rfl)
theorem wF_X4_29 : Cond.fieldLink RX4 29 (TX4 11).1 (TX4 11).2.1 (TX4 11).2.2.1 ∈ fx_WS := fx_in1 (List.mem_of_getElem? (i := 87) (by rfl)) (by rfl)
theorem wF_X4_32 : Cond.fieldLink RX4 32 (TX4 12).1 (TX4 12).2.1 (TX4 12).2.2.1 ∈ fx_WS := fx_in1 (List.mem_of_getElem? (i := 88) (by rfl)) (by rfl)
theorem wF_X4_35 : Cond.fieldLink RX4 35 (TX4 13).1 (TX4 13).2.1 (TX4 13).2.2.1 ∈ fx_WS := fx_in1 (List.mem_of_getElem? (i := 89) (by rfl)) (by rfl)
theorem wA_int : Cond.arrayClass .int ∈ fx_WS := fx_in1 (List.mem_of_getElem? (i := 119) (by rfl)) (by rfl)
theorem wC_X5_27 : Cond.classLink RX5 27 RX3 ∈ fx_WS := fx_in1 (List.mem_of_getElem? (i := 121) (by rfl)) (by rfl)
theorem wNew_X3 : Cond.instantiable RX3 7 ∈ fx_WS := fx_in1 (List.mem_of_getElem? (i := 122) (by rfl)) (by rfl)
theorem wIn_X3_init : Cond.instanceMethod yX3_init ∈ fx_WS := fx_in1 (List.mem_of_getElem? (i := 124) (by rfl)) (by rfl)
theorem wCo_X3_init : Cond.code yX3_init cX3_init 1 none ∈ fx_WS := fx_in1 (List.mem_of_getElem? (i := 125) (by rfl)) (by rfl)
theorem wM_X3_3 : Cond.methodLink RX3 3 objectInit ∈ fx_WS := fx_in1 (List.mem_of_getElem? (i := 126) (by rfl)) (by rfl)
theorem wF_X3_9 : Cond.fieldLink RX3 9 (TX3 0).1 (TX3 0).2.1 (TX3 0).2.2.1 ∈ fx_WS := fx_in1 (List.mem_of_getElem? (i := 127) (by rfl)) (by rfl)
theorem wF_X3_15 : Cond.fieldLink RX3 15 (TX3 1).1 (TX3 1).2.1 (TX3 1).2.2.1 ∈ fx_WS := fx_in1 (List.mem_of_getElem? (i := 128) (by rfl)) (by rfl)
theorem wF_X5_132 : Cond.fieldLink RX5 132 (TX3 1).1 (TX3 1).2.1 (TX3 1).2.2.1 ∈ fx_WS := fx_in1 (List.mem_of_getElem? (i := 129) (by rfl)) (by rfl)
theorem wF_X3_24 : Cond.fieldLink RX3 24 (TX3 2).1 (TX3 2).2.1 (TX3 2).2.2.1 ∈ fx_WS := fx_in1 (List.mem_of_getElem? (i := 130) (by rfl)) (by rfl)
theorem wF_X3_37 : Cond.fieldLink RX3 37 (TX3 3).1 (TX3 3).2.1 (TX3 3).2.2.1 ∈ fx_WS := fx_in1 (List.mem_of_getElem? (i := 131) (by rfl)) (by rfl)
theorem wF_X3_142 : Cond.fieldLink RX3 142 (TX3 4).1 (TX3 4).2.1 (TX3 4).2.2.1 ∈ fx_WS := fx_in1 (List.mem_of_getElem? (i := 132) (by rfl)) (by rfl)
theorem wF_X3_27 : Cond.fieldLink RX3 27 (TX3 5).1 (TX3 5).2.1 (TX3 5).2.2.1 ∈ fx_WS := fx_in1 (List.mem_of_getElem? (i := 133) (by rfl)) (by rfl)
theorem wF_X3_30 : Cond.fieldLink RX3 30 (TX3 6).1 (TX3 6).2.1 (TX3 6).2.2.1 ∈ fx_WS := fx_in1 (List.mem_of_getElem? (i := 134) (by rfl)) (by rfl)
theorem wA_boolean : Cond.arrayClass .boolean ∈ fx_WS := fx_in1 (List.mem_of_getElem? (i := 150) (by rfl)) (by rfl)
theorem wA_byte : Cond.arrayClass .byte ∈ fx_WS := fx_in1 (List.mem_of_getElem? (i := 151) (by rfl)) (by rfl)
theorem wC_X5_34 : Cond.classLink RX5 34 RX0 ∈ fx_WS := fx_in1 (List.mem_of_getElem? (i := 152) (by rfl)) (by rfl)
theorem wNew_X0 : Cond.instantiable RX0 6 ∈ fx_WS := fx_in1 (List.mem_of_getElem? (i := 153) (by rfl)) (by rfl)
theorem wM_X5_36 : Cond.methodLink RX5 36 yX0_init ∈ fx_WS := fx_in1 (List.mem_of_getElem? (i := 154) (by rfl)) (by rfl)
theorem wIn_X0_init : Cond.instanceMethod yX0_init ∈ fx_WS := fx_in1 (List.mem_of_getElem? (i := 155) (by rfl)) (by rfl)
theorem wCo_X0_init : Cond.code yX0_init cX0_init 1 none ∈ fx_WS := fx_in1 (List.mem_of_getElem? (i := 156) (by rfl)) (by rfl)
theorem wM_X0_3 : Cond.methodLink RX0 3 objectInit ∈ fx_WS := fx_in1 (List.mem_of_getElem? (i := 157) (by rfl)) (by rfl)
theorem wM_X0_24 : Cond.methodLink RX0 24 yJ7_fill_53178 ∈ fx_WS := fx_in1 (List.mem_of_getElem? (i := 158) (by rfl)) (by rfl)
theorem wF_X0_9 : Cond.fieldLink RX0 9 (TX0 0).1 (TX0 0).2.1 (TX0 0).2.2.1 ∈ fx_WS := fx_in1 (List.mem_of_getElem? (i := 159) (by rfl)) (by rfl)
theorem wF_X5_154 : Cond.fieldLink RX5 154 (TX0 0).1 (TX0 0).2.1 (TX0 0).2.2.1 ∈ fx_WS := fx_in1 (List.mem_of_getElem? (i := 160) (by rfl)) (by rfl)
theorem wF_X0_15 : Cond.fieldLink RX0 15 (TX0 1).1 (TX0 1).2.1 (TX0 1).2.2.1 ∈ fx_WS := fx_in1 (List.mem_of_getElem? (i := 161) (by rfl)) (by rfl)
theorem wF_X0_18 : Cond.fieldLink RX0 18 (TX0 2).1 (TX0 2).2.1 (TX0 2).2.2.1 ∈ fx_WS := fx_in1 (List.mem_of_getElem? (i := 162) (by rfl)) (by rfl)
theorem wF_X0_21 : Cond.fieldLink RX0 21 (TX0 3).1 (TX0 3).2.1 (TX0 3).2.2.1 ∈ fx_WS := fx_in1 (List.mem_of_getElem? (i := 163) (by rfl)) (by rfl)
theorem wF_X0_36 : Cond.fieldLink RX0 36 (TX0 4).1 (TX0 4).2.1 (TX0 4).2.2.1 ∈ fx_WS := fx_in1 (List.mem_of_getElem? (i := 164) (by rfl)) (by rfl)
theorem wF_X0_40 : Cond.fieldLink RX0 40 (TX0 5).1 (TX0 5).2.1 (TX0 5).2.2.1 ∈ fx_WS := fx_in1 (List.mem_of_getElem? (i := 165) (by rfl)) (by rfl)
theorem wC_X5_41 : Cond.classLink RX5 41 RX1 ∈ fx_WS := fx_in1 (List.mem_of_getElem? (i := 179) (by rfl)) (by rfl)
theorem wNew_X1 : Cond.instantiable RX1 13 ∈ fx_WS := fx_in1 (List.mem_of_getElem? (i := 180) (by rfl)) (by rfl)
theorem wIn_X1_init : Cond.instanceMethod yX1_init ∈ fx_WS := fx_in1 (List.mem_of_getElem? (i := 182) (by rfl)) (by rfl)
theorem wCo_X1_init : Cond.code yX1_init cX1_init 1 none ∈ fx_WS := fx_in1 (List.mem_of_getElem? (i := 183) (by rfl)) (by rfl)
theorem wM_X1_3 : Cond.methodLink RX1 3 objectInit ∈ fx_WS := fx_in1 (List.mem_of_getElem? (i := 184) (by rfl)) (by rfl)
theorem wC_X1_9 : Cond.classLink RX1 9 "[[I" ∈ fx_WS := fx_in1 (List.mem_of_getElem? (i := 185) (by rfl)) (by rfl)
theorem wF_X1_11 : Cond.fieldLink RX1 11 (TX1 0).1 (TX1 0).2.1 (TX1 0).2.2.1 ∈ fx_WS := fx_in1 (List.mem_of_getElem? (i := 186) (by rfl)) (by rfl)
theorem wF_X5_188 : Cond.fieldLink RX5 188 (TX1 0).1 (TX1 0).2.1 (TX1 0).2.2.1 ∈ fx_WS := fx_in1 (List.mem_of_getElem? (i := 187) (by rfl)) (by rfl)
theorem wF_X1_16 : Cond.fieldLink RX1 16 (TX1 1).1 (TX1 1).2.1 (TX1 1).2.2.1 ∈ fx_WS := fx_in1 (List.mem_of_getElem? (i := 188) (by rfl)) (by rfl)
theorem wF_X5_172 : Cond.fieldLink RX5 172 (TX1 1).1 (TX1 1).2.1 (TX1 1).2.2.1 ∈ fx_WS := fx_in1 (List.mem_of_getElem? (i := 189) (by rfl)) (by rfl)
theorem wF_X1_72 : Cond.fieldLink RX1 72 (TX1 2).1 (TX1 2).2.1 (TX1 2).2.2.1 ∈ fx_WS := fx_in1 (List.mem_of_getElem? (i := 190) (by rfl)) (by rfl)
theorem wF_X5_169 : Cond.fieldLink RX5 169 (TX1 2).1 (TX1 2).2.1 (TX1 2).2.2.1 ∈ fx_WS := fx_in1 (List.mem_of_getElem? (i := 191) (by rfl)) (by rfl)
theorem wF_X1_19 : Cond.fieldLink RX1 19 (TX1 3).1 (TX1 3).2.1 (TX1 3).2.2.1 ∈ fx_WS := fx_in1 (List.mem_of_getElem? (i := 192) (by rfl)) (by rfl)
theorem wF_X1_48 : Cond.fieldLink RX1 48 (TX1 4).1 (TX1 4).2.1 (TX1 4).2.2.1 ∈ fx_WS := fx_in1 (List.mem_of_getElem? (i := 193) (by rfl)) (by rfl)
theorem wF_X1_22 : Cond.fieldLink RX1 22 (TX1 5).1 (TX1 5).2.1 (TX1 5).2.2.1 ∈ fx_WS := fx_in1 (List.mem_of_getElem? (i := 194) (by rfl)) (by rfl)
theorem wF_X1_26 : Cond.fieldLink RX1 26 (TX1 6).1 (TX1 6).2.1 (TX1 6).2.2.1 ∈ fx_WS := fx_in1 (List.mem_of_getElem? (i := 195) (by rfl)) (by rfl)
theorem wF_X1_29 : Cond.fieldLink RX1 29 (TX1 7).1 (TX1 7).2.1 (TX1 7).2.2.1 ∈ fx_WS := fx_in1 (List.mem_of_getElem? (i := 196) (by rfl)) (by rfl)
theorem wF_X1_33 : Cond.fieldLink RX1 33 (TX1 8).1 (TX1 8).2.1 (TX1 8).2.2.1 ∈ fx_WS := fx_in1 (List.mem_of_getElem? (i := 197) (by rfl)) (by rfl)
theorem wF_X1_36 : Cond.fieldLink RX1 36 (TX1 9).1 (TX1 9).2.1 (TX1 9).2.2.1 ∈ fx_WS := fx_in1 (List.mem_of_getElem? (i := 198) (by rfl)) (by rfl)
theorem wF_X1_39 : Cond.fieldLink RX1 39 (TX1 10).1 (TX1 10).2.1 (TX1 10).2.2.1 ∈ fx_WS := fx_in1 (List.mem_of_getElem? (i := 199) (by rfl)) (by rfl)
theorem wF_X1_42 : Cond.fieldLink RX1 42 (TX1 11).1 (TX1 11).2.1 (TX1 11).2.2.1 ∈ fx_WS := fx_in1 (List.mem_of_getElem? (i := 200) (by rfl)) (by rfl)
theorem wF_X1_45 : Cond.fieldLink RX1 45 (TX1 12).1 (TX1 12).2.1 (TX1 12).2.2.1 ∈ fx_WS := fx_in1 (List.mem_of_getElem? (i := 201) (by rfl)) (by rfl)
theorem wC_X5_48 : Cond.classLink RX5 48 RX2 ∈ fx_WS := fx_in1 (List.mem_of_getElem? (i := 229) (by rfl)) (by rfl)
theorem wNew_X2 : Cond.instantiable RX2 6 ∈ fx_WS := fx_in1 (List.mem_of_getElem? (i := 230) (by rfl)) (by rfl)
theorem wIn_X2_init : Cond.instanceMethod yX2_init ∈ fx_WS := fx_in1 (List.mem_of_getElem? (i := 232) (by rfl)) (by rfl)
theorem wCo_X2_init : Cond.code yX2_init cX2_init 1 none ∈ fx_WS := fx_in1 (List.mem_of_getElem? (i := 233) (by rfl)) (by rfl)
theorem wM_X2_3 : Cond.methodLink RX2 3 objectInit ∈ fx_WS := fx_in1 (List.mem_of_getElem? (i := 234) (by rfl)) (by rfl)
theorem wF_X2_28 : Cond.fieldLink RX2 28 (TX2 0).1 (TX2 0).2.1 (TX2 0).2.2.1 ∈ fx_WS := fx_in1 (List.mem_of_getElem? (i := 235) (by rfl)) (by rfl)
theorem wF_X5_216 : Cond.fieldLink RX5 216 (TX2 0).1 (TX2 0).2.1 (TX2 0).2.2.1 ∈ fx_WS := fx_in1 (List.mem_of_getElem? (i := 236) (by rfl)) (by rfl)
theorem wF_X2_9 : Cond.fieldLink RX2 9 (TX2 1).1 (TX2 1).2.1 (TX2 1).2.2.1 ∈ fx_WS := fx_in1 (List.mem_of_getElem? (i := 237) (by rfl)) (by rfl)
theorem wF_X5_219 : Cond.fieldLink RX5 219 (TX2 1).1 (TX2 1).2.1 (TX2 1).2.2.1 ∈ fx_WS := fx_in1 (List.mem_of_getElem? (i := 238) (by rfl)) (by rfl)
theorem wF_X2_15 : Cond.fieldLink RX2 15 (TX2 2).1 (TX2 2).2.1 (TX2 2).2.2.1 ∈ fx_WS := fx_in1 (List.mem_of_getElem? (i := 239) (by rfl)) (by rfl)
theorem wF_X2_18 : Cond.fieldLink RX2 18 (TX2 3).1 (TX2 3).2.1 (TX2 3).2.2.1 ∈ fx_WS := fx_in2 (List.mem_of_getElem? (i := 0) (by rfl)) (by rfl)
theorem wF_X2_21 : Cond.fieldLink RX2 21 (TX2 4).1 (TX2 4).2.1 (TX2 4).2.2.1 ∈ fx_WS := fx_in2 (List.mem_of_getElem? (i := 1) (by rfl)) (by rfl)
theorem wF_X2_25 : Cond.fieldLink RX2 25 (TX2 5).1 (TX2 5).2.1 (TX2 5).2.2.1 ∈ fx_WS := fx_in2 (List.mem_of_getElem? (i := 2) (by rfl)) (by rfl)
theorem wF_X5_10 : Cond.fieldLink RX5 10 (TX5 0).1 (TX5 0).2.1 (TX5 0).2.2.1 ∈ fx_WS := fx_in2 (List.mem_of_getElem? (i := 16) (by rfl)) (by rfl)
theorem wF_X5_16 : Cond.fieldLink RX5 16 (TX5 1).1 (TX5 1).2.1 (TX5 1).2.2.1 ∈ fx_WS := fx_in2 (List.mem_of_getElem? (i := 17) (by rfl)) (by rfl)
theorem wF_X5_19 : Cond.fieldLink RX5 19 (TX5 2).1 (TX5 2).2.1 (TX5 2).2.2.1 ∈ fx_WS := fx_in2 (List.mem_of_getElem? (i := 18) (by rfl)) (by rfl)
theorem wF_X5_23 : Cond.fieldLink RX5 23 (TX5 3).1 (TX5 3).2.1 (TX5 3).2.2.1 ∈ fx_WS := fx_in2 (List.mem_of_getElem? (i := 19) (by rfl)) (by rfl)
theorem wF_X5_30 : Cond.fieldLink RX5 30 (TX5 4).1 (TX5 4).2.1 (TX5 4).2.2.1 ∈ fx_WS := fx_in2 (List.mem_of_getElem? (i := 20) (by rfl)) (by rfl)
theorem wF_X5_37 : Cond.fieldLink RX5 37 (TX5 5).1 (TX5 5).2.1 (TX5 5).2.2.1 ∈ fx_WS := fx_in2 (List.mem_of_getElem? (i := 21) (by rfl)) (by rfl)
theorem wF_X5_44 : Cond.fieldLink RX5 44 (TX5 6).1 (TX5 6).2.1 (TX5 6).2.2.1 ∈ fx_WS := fx_in2 (List.mem_of_getElem? (i := 22) (by rfl)) (by rfl)
theorem wF_X5_51 : Cond.fieldLink RX5 51 (TX5 7).1 (TX5 7).2.1 (TX5 7).2.2.1 ∈ fx_WS := fx_in2 (List.mem_of_getElem? (i := 23) (by rfl)) (by rfl)
theorem wF_X5_238 : Cond.fieldLink RX5 238 (TX5 8).1 (TX5 8).2.1 (TX5 8).2.2.1 ∈ fx_WS := fx_in2 (List.mem_of_getElem? (i := 24) (by rfl)) (by rfl)
theorem wF_X5_55 : Cond.fieldLink RX5 55 (TX5 9).1 (TX5 9).2.1 (TX5 9).2.2.1 ∈ fx_WS := fx_in2 (List.mem_of_getElem? (i := 25) (by rfl)) (by rfl)
theorem wF_X5_241 : Cond.fieldLink RX5 241 (TX5 10).1 (TX5 10).2.1 (TX5 10).2.2.1 ∈ fx_WS := fx_in2 (List.mem_of_getElem? (i := 26) (by rfl)) (by rfl)
theorem wF_X5_244 : Cond.fieldLink RX5 244 (TX5 11).1 (TX5 11).2.1 (TX5 11).2.2.1 ∈ fx_WS := fx_in2 (List.mem_of_getElem? (i := 27) (by rfl)) (by rfl)
theorem wF_X5_247 : Cond.fieldLink RX5 247 (TX5 12).1 (TX5 12).2.1 (TX5 12).2.2.1 ∈ fx_WS := fx_in2 (List.mem_of_getElem? (i := 28) (by rfl)) (by rfl)
theorem wF_X5_75 : Cond.fieldLink RX5 75 (TX5 13).1 (TX5 13).2.1 (TX5 13).2.2.1 ∈ fx_WS := fx_in2 (List.mem_of_getElem? (i := 29) (by rfl)) (by rfl)
theorem wM_L_13 : Cond.methodLink RL 13 yX5_thing ∈ fx_WS := fx_in2 (List.mem_of_getElem? (i := 59) (by rfl)) (by rfl)
theorem wIn_X5_thing : Cond.instanceMethod yX5_thing ∈ fx_WS := fx_in2 (List.mem_of_getElem? (i := 60) (by rfl)) (by rfl)
theorem wSel_X5_thing : Cond.selects yX5_thing.cls yX5_thing yX5_thing ∈ fx_WS := fx_in2 (List.mem_of_getElem? (i := 61) (by rfl)) (by rfl)
theorem wCo_X5_thing : Cond.code yX5_thing cX5_thing 2 (some .int) ∈ fx_WS := fx_in2 (List.mem_of_getElem? (i := 62) (by rfl)) (by rfl)
theorem wM_X5_59 : Cond.methodLink RX5 59 yX4_hasThing ∈ fx_WS := fx_in2 (List.mem_of_getElem? (i := 63) (by rfl)) (by rfl)
theorem wIn_X4_hasThing : Cond.instanceMethod yX4_hasThing ∈ fx_WS := fx_in2 (List.mem_of_getElem? (i := 64) (by rfl)) (by rfl)
theorem wSel_X4_hasThing : Cond.selects yX4_hasThing.cls yX4_hasThing yX4_hasThing ∈ fx_WS := fx_in2 (List.mem_of_getElem? (i := 65) (by rfl)) (by rfl)
theorem wCo_X4_hasThing : Cond.code yX4_hasThing cX4_hasThing 2 (some .boolean) ∈ fx_WS := fx_in2 (List.mem_of_getElem? (i := 66) (by rfl)) (by rfl)
theorem wSt_X5_within : Cond.static yX5_within ∈ fx_WS := fx_in2 (List.mem_of_getElem? (i := 68) (by rfl)) (by rfl)
theorem wCo_X5_within : Cond.code yX5_within cX5_within 3 (some .boolean) ∈ fx_WS := fx_in2 (List.mem_of_getElem? (i := 69) (by rfl)) (by rfl)
theorem wM_X5_63 : Cond.methodLink RX5 63 yX5_refuseBad ∈ fx_WS := fx_in2 (List.mem_of_getElem? (i := 70) (by rfl)) (by rfl)
theorem wIn_X5_refuseBad : Cond.instanceMethod yX5_refuseBad ∈ fx_WS := fx_in2 (List.mem_of_getElem? (i := 72) (by rfl)) (by rfl)
theorem wCo_X5_refuseBad : Cond.code yX5_refuseBad cX5_refuseBad 2 (some .int) ∈ fx_WS := fx_in2 (List.mem_of_getElem? (i := 73) (by rfl)) (by rfl)
theorem wM_X5_71 : Cond.methodLink RX5 71 yX5_refuseFull ∈ fx_WS := fx_in2 (List.mem_of_getElem? (i := 74) (by rfl)) (by rfl)
theorem wIn_X5_refuseFull : Cond.instanceMethod yX5_refuseFull ∈ fx_WS := fx_in2 (List.mem_of_getElem? (i := 76) (by rfl)) (by rfl)
theorem wCo_X5_refuseFull : Cond.code yX5_refuseFull cX5_refuseFull 1 (some .int) ∈ fx_WS := fx_in2 (List.mem_of_getElem? (i := 77) (by rfl)) (by rfl)
theorem wM_X5_78 : Cond.methodLink RX5 78 yX4_addThing ∈ fx_WS := fx_in2 (List.mem_of_getElem? (i := 78) (by rfl)) (by rfl)
theorem wIn_X4_addThing : Cond.instanceMethod yX4_addThing ∈ fx_WS := fx_in2 (List.mem_of_getElem? (i := 79) (by rfl)) (by rfl)
theorem wSel_X4_addThing : Cond.selects yX4_addThing.cls yX4_addThing yX4_addThing ∈ fx_WS := fx_in2 (List.mem_of_getElem? (i := 80) (by rfl)) (by rfl)
theorem wCo_X4_addThing : Cond.code yX4_addThing cX4_addThing 2 none ∈ fx_WS := fx_in2 (List.mem_of_getElem? (i := 81) (by rfl)) (by rfl)
theorem wM_L_18 : Cond.methodLink RL 18 yX5_town ∈ fx_WS := fx_in2 (List.mem_of_getElem? (i := 82) (by rfl)) (by rfl)
theorem wIn_X5_town : Cond.instanceMethod yX5_town ∈ fx_WS := fx_in2 (List.mem_of_getElem? (i := 83) (by rfl)) (by rfl)
theorem wSel_X5_town : Cond.selects yX5_town.cls yX5_town yX5_town ∈ fx_WS := fx_in2 (List.mem_of_getElem? (i := 84) (by rfl)) (by rfl)
theorem wCo_X5_town : Cond.code yX5_town cX5_town 3 (some .int) ∈ fx_WS := fx_in2 (List.mem_of_getElem? (i := 85) (by rfl)) (by rfl)
theorem wM_X5_82 : Cond.methodLink RX5 82 yX5_within ∈ fx_WS := fx_in2 (List.mem_of_getElem? (i := 86) (by rfl)) (by rfl)
theorem wM_X5_86 : Cond.methodLink RX5 86 yX4_settle ∈ fx_WS := fx_in2 (List.mem_of_getElem? (i := 87) (by rfl)) (by rfl)
theorem wM_L_23 : Cond.methodLink RL 23 yX5_put ∈ fx_WS := fx_in2 (List.mem_of_getElem? (i := 88) (by rfl)) (by rfl)
theorem wIn_X5_put : Cond.instanceMethod yX5_put ∈ fx_WS := fx_in2 (List.mem_of_getElem? (i := 89) (by rfl)) (by rfl)
theorem wSel_X5_put : Cond.selects yX5_put.cls yX5_put yX5_put ∈ fx_WS := fx_in2 (List.mem_of_getElem? (i := 90) (by rfl)) (by rfl)
theorem wCo_X5_put : Cond.code yX5_put cX5_put 4 (some .int) ∈ fx_WS := fx_in2 (List.mem_of_getElem? (i := 91) (by rfl)) (by rfl)
theorem wM_X5_90 : Cond.methodLink RX5 90 yX4_hasHour ∈ fx_WS := fx_in2 (List.mem_of_getElem? (i := 92) (by rfl)) (by rfl)
theorem wIn_X4_hasHour : Cond.instanceMethod yX4_hasHour ∈ fx_WS := fx_in2 (List.mem_of_getElem? (i := 93) (by rfl)) (by rfl)
theorem wSel_X4_hasHour : Cond.selects yX4_hasHour.cls yX4_hasHour yX4_hasHour ∈ fx_WS := fx_in2 (List.mem_of_getElem? (i := 94) (by rfl)) (by rfl)
theorem wCo_X4_hasHour : Cond.code yX4_hasHour cX4_hasHour 2 (some .boolean) ∈ fx_WS := fx_in2 (List.mem_of_getElem? (i := 95) (by rfl)) (by rfl)
theorem wM_X5_93 : Cond.methodLink RX5 93 yX5_putKind ∈ fx_WS := fx_in2 (List.mem_of_getElem? (i := 96) (by rfl)) (by rfl)
theorem wIn_X5_putKind : Cond.instanceMethod yX5_putKind ∈ fx_WS := fx_in2 (List.mem_of_getElem? (i := 98) (by rfl)) (by rfl)
theorem wCo_X5_putKind : Cond.code yX5_putKind cX5_putKind 4 (some .int) ∈ fx_WS := fx_in2 (List.mem_of_getElem? (i := 99) (by rfl)) (by rfl)
theorem wM_X5_97 : Cond.methodLink RX5 97 yX5_putLine ∈ fx_WS := fx_in2 (List.mem_of_getElem? (i := 100) (by rfl)) (by rfl)
theorem wIn_X5_putLine : Cond.instanceMethod yX5_putLine ∈ fx_WS := fx_in2 (List.mem_of_getElem? (i := 102) (by rfl)) (by rfl)
theorem wCo_X5_putLine : Cond.code yX5_putLine cX5_putLine 3 (some .int) ∈ fx_WS := fx_in2 (List.mem_of_getElem? (i := 103) (by rfl)) (by rfl)
theorem wM_X5_100 : Cond.methodLink RX5 100 yX4_hasPerson ∈ fx_WS := fx_in2 (List.mem_of_getElem? (i := 104) (by rfl)) (by rfl)
theorem wIn_X4_hasPerson : Cond.instanceMethod yX4_hasPerson ∈ fx_WS := fx_in2 (List.mem_of_getElem? (i := 105) (by rfl)) (by rfl)
theorem wSel_X4_hasPerson : Cond.selects yX4_hasPerson.cls yX4_hasPerson yX4_hasPerson ∈ fx_WS := fx_in2 (List.mem_of_getElem? (i := 106) (by rfl)) (by rfl)
theorem wCo_X4_hasPerson : Cond.code yX4_hasPerson cX4_hasPerson 2 (some .boolean) ∈ fx_WS := fx_in2 (List.mem_of_getElem? (i := 107) (by rfl)) (by rfl)
theorem wM_X5_103 : Cond.methodLink RX5 103 yX5_putRich ∈ fx_WS := fx_in2 (List.mem_of_getElem? (i := 108) (by rfl)) (by rfl)
theorem wIn_X5_putRich : Cond.instanceMethod yX5_putRich ∈ fx_WS := fx_in2 (List.mem_of_getElem? (i := 110) (by rfl)) (by rfl)
theorem wCo_X5_putRich : Cond.code yX5_putRich cX5_putRich 3 (some .int) ∈ fx_WS := fx_in2 (List.mem_of_getElem? (i := 111) (by rfl)) (by rfl)
theorem wM_L_28 : Cond.methodLink RL 28 yX5_does ∈ fx_WS := fx_in2 (List.mem_of_getElem? (i := 112) (by rfl)) (by rfl)
theorem wIn_X5_does : Cond.instanceMethod yX5_does ∈ fx_WS := fx_in2 (List.mem_of_getElem? (i := 113) (by rfl)) (by rfl)
theorem wSel_X5_does : Cond.selects yX5_does.cls yX5_does yX5_does ∈ fx_WS := fx_in2 (List.mem_of_getElem? (i := 114) (by rfl)) (by rfl)
theorem wCo_X5_does : Cond.code yX5_does cX5_does 6 (some .int) ∈ fx_WS := fx_in2 (List.mem_of_getElem? (i := 115) (by rfl)) (by rfl)
theorem wM_X5_110 : Cond.methodLink RX5 110 yX4_rememberDoing ∈ fx_WS := fx_in2 (List.mem_of_getElem? (i := 116) (by rfl)) (by rfl)
theorem wIn_X4_rememberDoing : Cond.instanceMethod yX4_rememberDoing ∈ fx_WS := fx_in2 (List.mem_of_getElem? (i := 117) (by rfl)) (by rfl)
theorem wSel_X4_rememberDoing : Cond.selects yX4_rememberDoing.cls yX4_rememberDoing yX4_rememberDoing ∈ fx_WS := fx_in2 (List.mem_of_getElem? (i := 118) (by rfl)) (by rfl)
theorem wCo_X4_rememberDoing : Cond.code yX4_rememberDoing cX4_rememberDoing 4 none ∈ fx_WS := fx_in2 (List.mem_of_getElem? (i := 119) (by rfl)) (by rfl)
theorem wM_X4_90 : Cond.methodLink RX4 90 yX4_forgetOldest ∈ fx_WS := fx_in2 (List.mem_of_getElem? (i := 120) (by rfl)) (by rfl)
theorem wIn_X4_forgetOldest : Cond.instanceMethod yX4_forgetOldest ∈ fx_WS := fx_in2 (List.mem_of_getElem? (i := 122) (by rfl)) (by rfl)
theorem wCo_X4_forgetOldest : Cond.code yX4_forgetOldest cX4_forgetOldest 1 none ∈ fx_WS := fx_in2 (List.mem_of_getElem? (i := 123) (by rfl)) (by rfl)
theorem wM_X4_70 : Cond.methodLink RX4 70 arraycopyName ∈ fx_WS := fx_in2 (List.mem_of_getElem? (i := 124) (by rfl)) (by rfl)
theorem wSt_arraycopy : Cond.static arraycopyName ∈ fx_WS := fx_in2 (List.mem_of_getElem? (i := 125) (by rfl)) (by rfl)
theorem wNa_arraycopy : Cond.native arraycopyName ∈ fx_WS := fx_in2 (List.mem_of_getElem? (i := 126) (by rfl)) (by rfl)
theorem wM_X5_114 : Cond.methodLink RX5 114 yX5_shown ∈ fx_WS := fx_in2 (List.mem_of_getElem? (i := 127) (by rfl)) (by rfl)
theorem wSt_X5_shown : Cond.static yX5_shown ∈ fx_WS := fx_in2 (List.mem_of_getElem? (i := 128) (by rfl)) (by rfl)
theorem wCo_X5_shown : Cond.code yX5_shown cX5_shown 1 (some .int) ∈ fx_WS := fx_in2 (List.mem_of_getElem? (i := 129) (by rfl)) (by rfl)
theorem wM_L_32 : Cond.methodLink RL 32 yX5_undo ∈ fx_WS := fx_in2 (List.mem_of_getElem? (i := 130) (by rfl)) (by rfl)
theorem wIn_X5_undo : Cond.instanceMethod yX5_undo ∈ fx_WS := fx_in2 (List.mem_of_getElem? (i := 131) (by rfl)) (by rfl)
theorem wSel_X5_undo : Cond.selects yX5_undo.cls yX5_undo yX5_undo ∈ fx_WS := fx_in2 (List.mem_of_getElem? (i := 132) (by rfl)) (by rfl)
theorem wCo_X5_undo : Cond.code yX5_undo cX5_undo 1 (some .int) ∈ fx_WS := fx_in2 (List.mem_of_getElem? (i := 133) (by rfl)) (by rfl)
theorem wM_X5_120 : Cond.methodLink RX5 120 yX5_refuseNo ∈ fx_WS := fx_in2 (List.mem_of_getElem? (i := 134) (by rfl)) (by rfl)
theorem wIn_X5_refuseNo : Cond.instanceMethod yX5_refuseNo ∈ fx_WS := fx_in2 (List.mem_of_getElem? (i := 136) (by rfl)) (by rfl)
theorem wCo_X5_refuseNo : Cond.code yX5_refuseNo cX5_refuseNo 1 (some .int) ∈ fx_WS := fx_in2 (List.mem_of_getElem? (i := 137) (by rfl)) (by rfl)
theorem wM_X5_123 : Cond.methodLink RX5 123 yX4_undoLast ∈ fx_WS := fx_in2 (List.mem_of_getElem? (i := 138) (by rfl)) (by rfl)
theorem wIn_X4_undoLast : Cond.instanceMethod yX4_undoLast ∈ fx_WS := fx_in2 (List.mem_of_getElem? (i := 139) (by rfl)) (by rfl)
theorem wSel_X4_undoLast : Cond.selects yX4_undoLast.cls yX4_undoLast yX4_undoLast ∈ fx_WS := fx_in2 (List.mem_of_getElem? (i := 140) (by rfl)) (by rfl)
theorem wCo_X4_undoLast : Cond.code yX4_undoLast cX4_undoLast 1 none ∈ fx_WS := fx_in2 (List.mem_of_getElem? (i := 141) (by rfl)) (by rfl)
theorem wM_L_37 : Cond.methodLink RL 37 yX5_need ∈ fx_WS := fx_in2 (List.mem_of_getElem? (i := 142) (by rfl)) (by rfl)
theorem wIn_X5_need : Cond.instanceMethod yX5_need ∈ fx_WS := fx_in2 (List.mem_of_getElem? (i := 143) (by rfl)) (by rfl)
theorem wSel_X5_need : Cond.selects yX5_need.cls yX5_need yX5_need ∈ fx_WS := fx_in2 (List.mem_of_getElem? (i := 144) (by rfl)) (by rfl)
theorem wCo_X5_need : Cond.code yX5_need cX5_need 5 (some .int) ∈ fx_WS := fx_in2 (List.mem_of_getElem? (i := 145) (by rfl)) (by rfl)
theorem wM_X5_126 : Cond.methodLink RX5 126 yX4_mostNeeded ∈ fx_WS := fx_in2 (List.mem_of_getElem? (i := 146) (by rfl)) (by rfl)
theorem wIn_X4_mostNeeded : Cond.instanceMethod yX4_mostNeeded ∈ fx_WS := fx_in2 (List.mem_of_getElem? (i := 147) (by rfl)) (by rfl)
theorem wSel_X4_mostNeeded : Cond.selects yX4_mostNeeded.cls yX4_mostNeeded yX4_mostNeeded ∈ fx_WS := fx_in2 (List.mem_of_getElem? (i := 148) (by rfl)) (by rfl)
theorem wCo_X4_mostNeeded : Cond.code yX4_mostNeeded cX4_mostNeeded 3 (some .int) ∈ fx_WS := fx_in2 (List.mem_of_getElem? (i := 149) (by rfl)) (by rfl)
theorem wM_X4_80 : Cond.methodLink RX4 80 yX4_needed ∈ fx_WS := fx_in2 (List.mem_of_getElem? (i := 150) (by rfl)) (by rfl)
theorem wIn_X4_needed : Cond.instanceMethod yX4_needed ∈ fx_WS := fx_in2 (List.mem_of_getElem? (i := 151) (by rfl)) (by rfl)
theorem wSel_X4_needed : Cond.selects yX4_needed.cls yX4_needed yX4_needed ∈ fx_WS := fx_in2 (List.mem_of_getElem? (i := 152) (by rfl)) (by rfl)
theorem wCo_X4_needed : Cond.code yX4_needed cX4_needed 4 (some .int) ∈ fx_WS := fx_in2 (List.mem_of_getElem? (i := 153) (by rfl)) (by rfl)
theorem wM_X4_84 : Cond.methodLink RX4 84 Lib.Math.min.name ∈ fx_WS := fx_in2 (List.mem_of_getElem? (i := 154) (by rfl)) (by rfl)
theorem wSt_min : Cond.static Lib.Math.min.name ∈ fx_WS := fx_in2 (List.mem_of_getElem? (i := 155) (by rfl)) (by rfl)
theorem wCo_min : Cond.code Lib.Math.min.name Lib.Math.min.code 2 (some .int) ∈ fx_WS := fx_in2 (List.mem_of_getElem? (i := 156) (by rfl)) (by rfl)
theorem wM_L_43 : Cond.methodLink RL 43 yX5_type ∈ fx_WS := fx_in2 (List.mem_of_getElem? (i := 157) (by rfl)) (by rfl)
theorem wIn_X5_type : Cond.instanceMethod yX5_type ∈ fx_WS := fx_in2 (List.mem_of_getElem? (i := 158) (by rfl)) (by rfl)
theorem wSel_X5_type : Cond.selects yX5_type.cls yX5_type yX5_type ∈ fx_WS := fx_in2 (List.mem_of_getElem? (i := 159) (by rfl)) (by rfl)
theorem wCo_X5_type : Cond.code yX5_type cX5_type 5 (some .int) ∈ fx_WS := fx_in2 (List.mem_of_getElem? (i := 160) (by rfl)) (by rfl)
theorem wM_X5_135 : Cond.methodLink RX5 135 yX3_append ∈ fx_WS := fx_in2 (List.mem_of_getElem? (i := 161) (by rfl)) (by rfl)
theorem wIn_X3_append : Cond.instanceMethod yX3_append ∈ fx_WS := fx_in2 (List.mem_of_getElem? (i := 162) (by rfl)) (by rfl)
theorem wSel_X3_append : Cond.selects yX3_append.cls yX3_append yX3_append ∈ fx_WS := fx_in2 (List.mem_of_getElem? (i := 163) (by rfl)) (by rfl)
theorem wCo_X3_append : Cond.code yX3_append cX3_append 2 none ∈ fx_WS := fx_in2 (List.mem_of_getElem? (i := 164) (by rfl)) (by rfl)
theorem wM_L_48 : Cond.methodLink RL 48 yX5_clear ∈ fx_WS := fx_in2 (List.mem_of_getElem? (i := 165) (by rfl)) (by rfl)
theorem wIn_X5_clear : Cond.instanceMethod yX5_clear ∈ fx_WS := fx_in2 (List.mem_of_getElem? (i := 166) (by rfl)) (by rfl)
theorem wSel_X5_clear : Cond.selects yX5_clear.cls yX5_clear yX5_clear ∈ fx_WS := fx_in2 (List.mem_of_getElem? (i := 167) (by rfl)) (by rfl)
theorem wCo_X5_clear : Cond.code yX5_clear cX5_clear 2 (some .int) ∈ fx_WS := fx_in2 (List.mem_of_getElem? (i := 168) (by rfl)) (by rfl)
theorem wM_L_52 : Cond.methodLink RL 52 yX5_read ∈ fx_WS := fx_in2 (List.mem_of_getElem? (i := 169) (by rfl)) (by rfl)
theorem wIn_X5_read : Cond.instanceMethod yX5_read ∈ fx_WS := fx_in2 (List.mem_of_getElem? (i := 170) (by rfl)) (by rfl)
theorem wSel_X5_read : Cond.selects yX5_read.cls yX5_read yX5_read ∈ fx_WS := fx_in2 (List.mem_of_getElem? (i := 171) (by rfl)) (by rfl)
theorem wCo_X5_read : Cond.code yX5_read cX5_read 2 (some .int) ∈ fx_WS := fx_in2 (List.mem_of_getElem? (i := 172) (by rfl)) (by rfl)
theorem wM_X5_139 : Cond.methodLink RX5 139 yX3_readInto ∈ fx_WS := fx_in2 (List.mem_of_getElem? (i := 173) (by rfl)) (by rfl)
theorem wIn_X3_readInto : Cond.instanceMethod yX3_readInto ∈ fx_WS := fx_in2 (List.mem_of_getElem? (i := 174) (by rfl)) (by rfl)
theorem wSel_X3_readInto : Cond.selects yX3_readInto.cls yX3_readInto yX3_readInto ∈ fx_WS := fx_in2 (List.mem_of_getElem? (i := 175) (by rfl)) (by rfl)
theorem wCo_X3_readInto : Cond.code yX3_readInto cX3_readInto 4 (some .int) ∈ fx_WS := fx_in2 (List.mem_of_getElem? (i := 176) (by rfl)) (by rfl)
theorem wM_X3_19 : Cond.methodLink RX3 19 yX4_begin ∈ fx_WS := fx_in2 (List.mem_of_getElem? (i := 177) (by rfl)) (by rfl)
theorem wM_X3_34 : Cond.methodLink RX3 34 yX3_nextToken ∈ fx_WS := fx_in2 (List.mem_of_getElem? (i := 178) (by rfl)) (by rfl)
theorem wIn_X3_nextToken : Cond.instanceMethod yX3_nextToken ∈ fx_WS := fx_in2 (List.mem_of_getElem? (i := 180) (by rfl)) (by rfl)
theorem wCo_X3_nextToken : Cond.code yX3_nextToken cX3_nextToken 2 none ∈ fx_WS := fx_in2 (List.mem_of_getElem? (i := 181) (by rfl)) (by rfl)
theorem wM_X3_149 : Cond.methodLink RX3 149 yX3_isLetter ∈ fx_WS := fx_in2 (List.mem_of_getElem? (i := 182) (by rfl)) (by rfl)
theorem wSt_X3_isLetter : Cond.static yX3_isLetter ∈ fx_WS := fx_in2 (List.mem_of_getElem? (i := 183) (by rfl)) (by rfl)
theorem wCo_X3_isLetter : Cond.code yX3_isLetter cX3_isLetter 1 (some .boolean) ∈ fx_WS := fx_in2 (List.mem_of_getElem? (i := 184) (by rfl)) (by rfl)
theorem wM_X3_153 : Cond.methodLink RX3 153 yX3_isFigure ∈ fx_WS := fx_in2 (List.mem_of_getElem? (i := 185) (by rfl)) (by rfl)
theorem wSt_X3_isFigure : Cond.static yX3_isFigure ∈ fx_WS := fx_in2 (List.mem_of_getElem? (i := 186) (by rfl)) (by rfl)
theorem wCo_X3_isFigure : Cond.code yX3_isFigure cX3_isFigure 1 (some .boolean) ∈ fx_WS := fx_in2 (List.mem_of_getElem? (i := 187) (by rfl)) (by rfl)
theorem wM_X3_40 : Cond.methodLink RX3 40 yX3_readItem ∈ fx_WS := fx_in2 (List.mem_of_getElem? (i := 188) (by rfl)) (by rfl)
theorem wIn_X3_readItem : Cond.instanceMethod yX3_readItem ∈ fx_WS := fx_in2 (List.mem_of_getElem? (i := 190) (by rfl)) (by rfl)
theorem wCo_X3_readItem : Cond.code yX3_readItem cX3_readItem 2 none ∈ fx_WS := fx_in2 (List.mem_of_getElem? (i := 191) (by rfl)) (by rfl)
theorem wM_X3_44 : Cond.methodLink RX3 44 yX3_fail ∈ fx_WS := fx_in2 (List.mem_of_getElem? (i := 192) (by rfl)) (by rfl)
theorem wIn_X3_fail : Cond.instanceMethod yX3_fail ∈ fx_WS := fx_in2 (List.mem_of_getElem? (i := 194) (by rfl)) (by rfl)
theorem wCo_X3_fail : Cond.code yX3_fail cX3_fail 1 none ∈ fx_WS := fx_in2 (List.mem_of_getElem? (i := 195) (by rfl)) (by rfl)
theorem wM_X3_49 : Cond.methodLink RX3 49 yX3_spells ∈ fx_WS := fx_in2 (List.mem_of_getElem? (i := 197) (by rfl)) (by rfl)
theorem wIn_X3_spells : Cond.instanceMethod yX3_spells ∈ fx_WS := fx_in2 (List.mem_of_getElem? (i := 199) (by rfl)) (by rfl)
theorem wCo_X3_spells : Cond.code yX3_spells cX3_spells 3 (some .boolean) ∈ fx_WS := fx_in2 (List.mem_of_getElem? (i := 200) (by rfl)) (by rfl)
theorem wM_X3_156 : Cond.methodLink RX3 156 yJ0_length_8abf5 ∈ fx_WS := fx_in2 (List.mem_of_getElem? (i := 201) (by rfl)) (by rfl)
theorem wIn_J0_length_8abf5 : Cond.instanceMethod yJ0_length_8abf5 ∈ fx_WS := fx_in2 (List.mem_of_getElem? (i := 202) (by rfl)) (by rfl)
theorem wSel_J0_length_8abf5 : Cond.selects yJ0_length_8abf5.cls yJ0_length_8abf5 yJ0_length_8abf5 ∈ fx_WS := fx_in2 (List.mem_of_getElem? (i := 203) (by rfl)) (by rfl)
theorem wCo_J0_length_8abf5 : Cond.code yJ0_length_8abf5 cJ0_length_8abf5 1 (some .int) ∈ fx_WS := fx_in2 (List.mem_of_getElem? (i := 204) (by rfl)) (by rfl)
theorem wM_J0_335 : Cond.methodLink RJ0 335 yJ0_coder_7d493 ∈ fx_WS := fx_in2 (List.mem_of_getElem? (i := 205) (by rfl)) (by rfl)
theorem wIn_J0_coder_7d493 : Cond.instanceMethod yJ0_coder_7d493 ∈ fx_WS := fx_in2 (List.mem_of_getElem? (i := 206) (by rfl)) (by rfl)
theorem wSel_J0_coder_7d493 : Cond.selects yJ0_coder_7d493.cls yJ0_coder_7d493 yJ0_coder_7d493 ∈ fx_WS := fx_in2 (List.mem_of_getElem? (i := 207) (by rfl)) (by rfl)
theorem wCo_J0_coder_7d493 : Cond.code yJ0_coder_7d493 cJ0_coder_7d493 1 (some .byte) ∈ fx_WS := fx_in2 (List.mem_of_getElem? (i := 208) (by rfl)) (by rfl)
theorem wF_J0_38 : Cond.fieldLink RJ0 38 "java/lang/String" "COMPACT_STRINGS" "Z" ∈ fx_WS := fx_in2 (List.mem_of_getElem? (i := 209) (by rfl)) (by rfl)
theorem wM_X3_160 : Cond.methodLink RX3 160 yJ0_charAt_5068e ∈ fx_WS := fx_in2 (List.mem_of_getElem? (i := 211) (by rfl)) (by rfl)
theorem wIn_J0_charAt_5068e : Cond.instanceMethod yJ0_charAt_5068e ∈ fx_WS := fx_in2 (List.mem_of_getElem? (i := 212) (by rfl)) (by rfl)
theorem wSel_J0_charAt_5068e : Cond.selects yJ0_charAt_5068e.cls yJ0_charAt_5068e yJ0_charAt_5068e ∈ fx_WS := fx_in2 (List.mem_of_getElem? (i := 213) (by rfl)) (by rfl)
theorem wCo_J0_charAt_5068e : Cond.code yJ0_charAt_5068e cJ0_charAt_5068e 2 (some .char) ∈ fx_WS := fx_in2 (List.mem_of_getElem? (i := 214) (by rfl)) (by rfl)
theorem wM_J0_492 : Cond.methodLink RJ0 492 yJ0_isLatin1_aae02 ∈ fx_WS := fx_in2 (List.mem_of_getElem? (i := 215) (by rfl)) (by rfl)
theorem wIn_J0_isLatin1_aae02 : Cond.instanceMethod yJ0_isLatin1_aae02 ∈ fx_WS := fx_in2 (List.mem_of_getElem? (i := 216) (by rfl)) (by rfl)
theorem wSel_J0_isLatin1_aae02 : Cond.selects yJ0_isLatin1_aae02.cls yJ0_isLatin1_aae02 yJ0_isLatin1_aae02 ∈ fx_WS := fx_in2 (List.mem_of_getElem? (i := 217) (by rfl)) (by rfl)
theorem wCo_J0_isLatin1_aae02 : Cond.code yJ0_isLatin1_aae02 cJ0_isLatin1_aae02 1 (some .boolean) ∈ fx_WS := fx_in2 (List.mem_of_getElem? (i := 218) (by rfl)) (by rfl)
theorem wM_J0_495 : Cond.methodLink RJ0 495 yJ1_charAt_3b067 ∈ fx_WS := fx_in2 (List.mem_of_getElem? (i := 219) (by rfl)) (by rfl)
theorem wSt_J1_charAt_3b067 : Cond.static yJ1_charAt_3b067 ∈ fx_WS := fx_in2 (List.mem_of_getElem? (i := 220) (by rfl)) (by rfl)
theorem wCo_J1_charAt_3b067 : Cond.code yJ1_charAt_3b067 cJ1_charAt_3b067 2 (some .char) ∈ fx_WS := fx_in2 (List.mem_of_getElem? (i := 221) (by rfl)) (by rfl)
theorem wM_J1_9 : Cond.methodLink RJ1 9 yJ0_checkIndex_df160 ∈ fx_WS := fx_in2 (List.mem_of_getElem? (i := 222) (by rfl)) (by rfl)
theorem wSt_J0_checkIndex_df160 : Cond.static yJ0_checkIndex_df160 ∈ fx_WS := fx_in2 (List.mem_of_getElem? (i := 223) (by rfl)) (by rfl)
theorem wCo_J0_checkIndex_df160 : Cond.code yJ0_checkIndex_df160 cJ0_checkIndex_df160 2 none ∈ fx_WS := fx_in2 (List.mem_of_getElem? (i := 224) (by rfl)) (by rfl)
theorem wF_J0_1053 : Cond.fieldLink RJ0 1053 "jdk/internal/util/Preconditions" "SIOOBE_FORMATTER" "Ljava/util/function/BiFunction;" ∈ fx_WS := fx_in2 (List.mem_of_getElem? (i := 225) (by rfl)) (by rfl)
theorem wM_J0_1059 : Cond.methodLink RJ0 1059 yJ3_checkIndex_8e157 ∈ fx_WS := fx_in2 (List.mem_of_getElem? (i := 227) (by rfl)) (by rfl)
theorem wSt_J3_checkIndex_8e157 : Cond.static yJ3_checkIndex_8e157 ∈ fx_WS := fx_in2 (List.mem_of_getElem? (i := 228) (by rfl)) (by rfl)
theorem wCo_J3_checkIndex_8e157 : Cond.code yJ3_checkIndex_8e157 cJ3_checkIndex_8e157 3 (some .int) ∈ fx_WS := fx_in2 (List.mem_of_getElem? (i := 229) (by rfl)) (by rfl)
theorem wM_J0_498 : Cond.methodLink RJ0 498 yJ2_charAt_3b067 ∈ fx_WS := fx_in2 (List.mem_of_getElem? (i := 230) (by rfl)) (by rfl)
theorem wSt_J2_charAt_3b067 : Cond.static yJ2_charAt_3b067 ∈ fx_WS := fx_in2 (List.mem_of_getElem? (i := 231) (by rfl)) (by rfl)
theorem wCo_J2_charAt_3b067 : Cond.code yJ2_charAt_3b067 cJ2_charAt_3b067 2 (some .char) ∈ fx_WS := fx_in2 (List.mem_of_getElem? (i := 232) (by rfl)) (by rfl)
theorem wM_J2_67 : Cond.methodLink RJ2 67 yJ2_checkIndex_2214a ∈ fx_WS := fx_in2 (List.mem_of_getElem? (i := 233) (by rfl)) (by rfl)
theorem wSt_J2_checkIndex_2214a : Cond.static yJ2_checkIndex_2214a ∈ fx_WS := fx_in2 (List.mem_of_getElem? (i := 234) (by rfl)) (by rfl)
theorem wCo_J2_checkIndex_2214a : Cond.code yJ2_checkIndex_2214a cJ2_checkIndex_2214a 2 none ∈ fx_WS := fx_in2 (List.mem_of_getElem? (i := 235) (by rfl)) (by rfl)
theorem wM_J2_48 : Cond.methodLink RJ2 48 yJ2_length_9d52b ∈ fx_WS := fx_in2 (List.mem_of_getElem? (i := 236) (by rfl)) (by rfl)
theorem wSt_J2_length_9d52b : Cond.static yJ2_length_9d52b ∈ fx_WS := fx_in2 (List.mem_of_getElem? (i := 237) (by rfl)) (by rfl)
theorem wCo_J2_length_9d52b : Cond.code yJ2_length_9d52b cJ2_length_9d52b 1 (some .int) ∈ fx_WS := fx_in2 (List.mem_of_getElem? (i := 238) (by rfl)) (by rfl)
theorem wM_J2_414 : Cond.methodLink RJ2 414 yJ0_checkIndex_df160 ∈ fx_WS := fx_in2 (List.mem_of_getElem? (i := 239) (by rfl)) (by rfl)
theorem wM_J2_71 : Cond.methodLink RJ2 71 yJ2_getChar_3b067 ∈ fx_WS := fx_in3 (List.mem_of_getElem? (i := 0) (by rfl)) (by rfl)
theorem wSt_J2_getChar_3b067 : Cond.static yJ2_getChar_3b067 ∈ fx_WS := fx_in3 (List.mem_of_getElem? (i := 1) (by rfl)) (by rfl)
theorem wCo_J2_getChar_3b067 : Cond.code yJ2_getChar_3b067 cJ2_getChar_3b067 2 (some .char) ∈ fx_WS := fx_in3 (List.mem_of_getElem? (i := 2) (by rfl)) (by rfl)
theorem wF_J2_44 : Cond.fieldLink RJ2 44 "java/lang/StringUTF16" "$assertionsDisabled" "Z" ∈ fx_WS := fx_in3 (List.mem_of_getElem? (i := 3) (by rfl)) (by rfl)
theorem wF_J2_59 : Cond.fieldLink RJ2 59 "java/lang/StringUTF16" "HI_BYTE_SHIFT" "I" ∈ fx_WS := fx_in3 (List.mem_of_getElem? (i := 5) (by rfl)) (by rfl)
theorem wF_J2_63 : Cond.fieldLink RJ2 63 "java/lang/StringUTF16" "LO_BYTE_SHIFT" "I" ∈ fx_WS := fx_in3 (List.mem_of_getElem? (i := 7) (by rfl)) (by rfl)
theorem wM_X3_53 : Cond.methodLink RX3 53 yX3_readThing ∈ fx_WS := fx_in3 (List.mem_of_getElem? (i := 9) (by rfl)) (by rfl)
theorem wIn_X3_readThing : Cond.instanceMethod yX3_readThing ∈ fx_WS := fx_in3 (List.mem_of_getElem? (i := 11) (by rfl)) (by rfl)
theorem wCo_X3_readThing : Cond.code yX3_readThing cX3_readThing 3 none ∈ fx_WS := fx_in3 (List.mem_of_getElem? (i := 12) (by rfl)) (by rfl)
theorem wM_X3_94 : Cond.methodLink RX3 94 yX3_figure ∈ fx_WS := fx_in3 (List.mem_of_getElem? (i := 13) (by rfl)) (by rfl)
theorem wIn_X3_figure : Cond.instanceMethod yX3_figure ∈ fx_WS := fx_in3 (List.mem_of_getElem? (i := 15) (by rfl)) (by rfl)
theorem wCo_X3_figure : Cond.code yX3_figure cX3_figure 1 (some .int) ∈ fx_WS := fx_in3 (List.mem_of_getElem? (i := 16) (by rfl)) (by rfl)
theorem wM_X3_98 : Cond.methodLink RX3 98 yX4_hasThing ∈ fx_WS := fx_in3 (List.mem_of_getElem? (i := 17) (by rfl)) (by rfl)
theorem wM_X3_102 : Cond.methodLink RX3 102 yX4_addThing ∈ fx_WS := fx_in3 (List.mem_of_getElem? (i := 18) (by rfl)) (by rfl)
theorem wM_X3_58 : Cond.methodLink RX3 58 yX3_readPeople ∈ fx_WS := fx_in3 (List.mem_of_getElem? (i := 20) (by rfl)) (by rfl)
theorem wIn_X3_readPeople : Cond.instanceMethod yX3_readPeople ∈ fx_WS := fx_in3 (List.mem_of_getElem? (i := 22) (by rfl)) (by rfl)
theorem wCo_X3_readPeople : Cond.code yX3_readPeople cX3_readPeople 3 none ∈ fx_WS := fx_in3 (List.mem_of_getElem? (i := 23) (by rfl)) (by rfl)
theorem wM_X3_106 : Cond.methodLink RX3 106 yX3_number ∈ fx_WS := fx_in3 (List.mem_of_getElem? (i := 24) (by rfl)) (by rfl)
theorem wIn_X3_number : Cond.instanceMethod yX3_number ∈ fx_WS := fx_in3 (List.mem_of_getElem? (i := 26) (by rfl)) (by rfl)
theorem wCo_X3_number : Cond.code yX3_number cX3_number 3 (some .int) ∈ fx_WS := fx_in3 (List.mem_of_getElem? (i := 27) (by rfl)) (by rfl)
theorem wM_X3_110 : Cond.methodLink RX3 110 yX3_stops ∈ fx_WS := fx_in3 (List.mem_of_getElem? (i := 29) (by rfl)) (by rfl)
theorem wIn_X3_stops : Cond.instanceMethod yX3_stops ∈ fx_WS := fx_in3 (List.mem_of_getElem? (i := 31) (by rfl)) (by rfl)
theorem wCo_X3_stops : Cond.code yX3_stops cX3_stops 1 (some .boolean) ∈ fx_WS := fx_in3 (List.mem_of_getElem? (i := 32) (by rfl)) (by rfl)
theorem wM_X3_63 : Cond.methodLink RX3 63 yX3_readHours ∈ fx_WS := fx_in3 (List.mem_of_getElem? (i := 34) (by rfl)) (by rfl)
theorem wIn_X3_readHours : Cond.instanceMethod yX3_readHours ∈ fx_WS := fx_in3 (List.mem_of_getElem? (i := 36) (by rfl)) (by rfl)
theorem wCo_X3_readHours : Cond.code yX3_readHours cX3_readHours 3 none ∈ fx_WS := fx_in3 (List.mem_of_getElem? (i := 37) (by rfl)) (by rfl)
theorem wM_X3_68 : Cond.methodLink RX3 68 yX3_readHour ∈ fx_WS := fx_in3 (List.mem_of_getElem? (i := 39) (by rfl)) (by rfl)
theorem wIn_X3_readHour : Cond.instanceMethod yX3_readHour ∈ fx_WS := fx_in3 (List.mem_of_getElem? (i := 41) (by rfl)) (by rfl)
theorem wCo_X3_readHour : Cond.code yX3_readHour cX3_readHour 4 none ∈ fx_WS := fx_in3 (List.mem_of_getElem? (i := 42) (by rfl)) (by rfl)
theorem wM_X3_118 : Cond.methodLink RX3 118 yX4_hasHour ∈ fx_WS := fx_in3 (List.mem_of_getElem? (i := 43) (by rfl)) (by rfl)
theorem wM_X3_73 : Cond.methodLink RX3 73 yX3_readLine ∈ fx_WS := fx_in3 (List.mem_of_getElem? (i := 45) (by rfl)) (by rfl)
theorem wIn_X3_readLine : Cond.instanceMethod yX3_readLine ∈ fx_WS := fx_in3 (List.mem_of_getElem? (i := 47) (by rfl)) (by rfl)
theorem wCo_X3_readLine : Cond.code yX3_readLine cX3_readLine 3 none ∈ fx_WS := fx_in3 (List.mem_of_getElem? (i := 48) (by rfl)) (by rfl)
theorem wM_X3_78 : Cond.methodLink RX3 78 yX3_readRich ∈ fx_WS := fx_in3 (List.mem_of_getElem? (i := 50) (by rfl)) (by rfl)
theorem wIn_X3_readRich : Cond.instanceMethod yX3_readRich ∈ fx_WS := fx_in3 (List.mem_of_getElem? (i := 52) (by rfl)) (by rfl)
theorem wCo_X3_readRich : Cond.code yX3_readRich cX3_readRich 3 none ∈ fx_WS := fx_in3 (List.mem_of_getElem? (i := 53) (by rfl)) (by rfl)
theorem wM_X3_83 : Cond.methodLink RX3 83 yX3_readDoes ∈ fx_WS := fx_in3 (List.mem_of_getElem? (i := 55) (by rfl)) (by rfl)
theorem wIn_X3_readDoes : Cond.instanceMethod yX3_readDoes ∈ fx_WS := fx_in3 (List.mem_of_getElem? (i := 57) (by rfl)) (by rfl)
theorem wCo_X3_readDoes : Cond.code yX3_readDoes cX3_readDoes 5 none ∈ fx_WS := fx_in3 (List.mem_of_getElem? (i := 58) (by rfl)) (by rfl)
theorem wM_X3_129 : Cond.methodLink RX3 129 yX4_hasPerson ∈ fx_WS := fx_in3 (List.mem_of_getElem? (i := 59) (by rfl)) (by rfl)
theorem wM_X3_88 : Cond.methodLink RX3 88 yX3_readNeed ∈ fx_WS := fx_in3 (List.mem_of_getElem? (i := 61) (by rfl)) (by rfl)
theorem wIn_X3_readNeed : Cond.instanceMethod yX3_readNeed ∈ fx_WS := fx_in3 (List.mem_of_getElem? (i := 63) (by rfl)) (by rfl)
theorem wCo_X3_readNeed : Cond.code yX3_readNeed cX3_readNeed 5 none ∈ fx_WS := fx_in3 (List.mem_of_getElem? (i := 64) (by rfl)) (by rfl)
theorem wM_X3_136 : Cond.methodLink RX3 136 yX4_mostNeeded ∈ fx_WS := fx_in3 (List.mem_of_getElem? (i := 65) (by rfl)) (by rfl)
theorem wM_X5_143 : Cond.methodLink RX5 143 yX4_takeOver ∈ fx_WS := fx_in3 (List.mem_of_getElem? (i := 66) (by rfl)) (by rfl)
theorem wIn_X4_takeOver : Cond.instanceMethod yX4_takeOver ∈ fx_WS := fx_in3 (List.mem_of_getElem? (i := 67) (by rfl)) (by rfl)
theorem wSel_X4_takeOver : Cond.selects yX4_takeOver.cls yX4_takeOver yX4_takeOver ∈ fx_WS := fx_in3 (List.mem_of_getElem? (i := 68) (by rfl)) (by rfl)
theorem wCo_X4_takeOver : Cond.code yX4_takeOver cX4_takeOver 3 none ∈ fx_WS := fx_in3 (List.mem_of_getElem? (i := 69) (by rfl)) (by rfl)
theorem wM_L_56 : Cond.methodLink RL 56 yX5_at ∈ fx_WS := fx_in3 (List.mem_of_getElem? (i := 70) (by rfl)) (by rfl)
theorem wIn_X5_at : Cond.instanceMethod yX5_at ∈ fx_WS := fx_in3 (List.mem_of_getElem? (i := 71) (by rfl)) (by rfl)
theorem wSel_X5_at : Cond.selects yX5_at.cls yX5_at yX5_at ∈ fx_WS := fx_in3 (List.mem_of_getElem? (i := 72) (by rfl)) (by rfl)
theorem wCo_X5_at : Cond.code yX5_at cX5_at 2 (some .int) ∈ fx_WS := fx_in3 (List.mem_of_getElem? (i := 73) (by rfl)) (by rfl)
theorem wM_X5_150 : Cond.methodLink RX5 150 yX0_sit ∈ fx_WS := fx_in3 (List.mem_of_getElem? (i := 74) (by rfl)) (by rfl)
theorem wIn_X0_sit : Cond.instanceMethod yX0_sit ∈ fx_WS := fx_in3 (List.mem_of_getElem? (i := 75) (by rfl)) (by rfl)
theorem wSel_X0_sit : Cond.selects yX0_sit.cls yX0_sit yX0_sit ∈ fx_WS := fx_in3 (List.mem_of_getElem? (i := 76) (by rfl)) (by rfl)
theorem wCo_X0_sit : Cond.code yX0_sit cX0_sit 7 none ∈ fx_WS := fx_in3 (List.mem_of_getElem? (i := 77) (by rfl)) (by rfl)
theorem wM_L_60 : Cond.methodLink RL 60 yX5_pays ∈ fx_WS := fx_in3 (List.mem_of_getElem? (i := 79) (by rfl)) (by rfl)
theorem wIn_X5_pays : Cond.instanceMethod yX5_pays ∈ fx_WS := fx_in3 (List.mem_of_getElem? (i := 80) (by rfl)) (by rfl)
theorem wSel_X5_pays : Cond.selects yX5_pays.cls yX5_pays yX5_pays ∈ fx_WS := fx_in3 (List.mem_of_getElem? (i := 81) (by rfl)) (by rfl)
theorem wCo_X5_pays : Cond.code yX5_pays cX5_pays 3 (some .int) ∈ fx_WS := fx_in3 (List.mem_of_getElem? (i := 82) (by rfl)) (by rfl)
theorem wM_X5_158 : Cond.methodLink RX5 158 yX0_fineIn ∈ fx_WS := fx_in3 (List.mem_of_getElem? (i := 83) (by rfl)) (by rfl)
theorem wIn_X0_fineIn : Cond.instanceMethod yX0_fineIn ∈ fx_WS := fx_in3 (List.mem_of_getElem? (i := 84) (by rfl)) (by rfl)
theorem wSel_X0_fineIn : Cond.selects yX0_fineIn.cls yX0_fineIn yX0_fineIn ∈ fx_WS := fx_in3 (List.mem_of_getElem? (i := 85) (by rfl)) (by rfl)
theorem wCo_X0_fineIn : Cond.code yX0_fineIn cX0_fineIn 5 (some .int) ∈ fx_WS := fx_in3 (List.mem_of_getElem? (i := 86) (by rfl)) (by rfl)
theorem wM_X0_51 : Cond.methodLink RX0 51 yX4_kindOf ∈ fx_WS := fx_in3 (List.mem_of_getElem? (i := 87) (by rfl)) (by rfl)
theorem wIn_X4_kindOf : Cond.instanceMethod yX4_kindOf ∈ fx_WS := fx_in3 (List.mem_of_getElem? (i := 88) (by rfl)) (by rfl)
theorem wSel_X4_kindOf : Cond.selects yX4_kindOf.cls yX4_kindOf yX4_kindOf ∈ fx_WS := fx_in3 (List.mem_of_getElem? (i := 89) (by rfl)) (by rfl)
theorem wCo_X4_kindOf : Cond.code yX4_kindOf cX4_kindOf 2 (some .int) ∈ fx_WS := fx_in3 (List.mem_of_getElem? (i := 90) (by rfl)) (by rfl)
theorem wM_X0_59 : Cond.methodLink RX0 59 yX0_aheadOf ∈ fx_WS := fx_in3 (List.mem_of_getElem? (i := 91) (by rfl)) (by rfl)
theorem wIn_X0_aheadOf : Cond.instanceMethod yX0_aheadOf ∈ fx_WS := fx_in3 (List.mem_of_getElem? (i := 92) (by rfl)) (by rfl)
theorem wSel_X0_aheadOf : Cond.selects yX0_aheadOf.cls yX0_aheadOf yX0_aheadOf ∈ fx_WS := fx_in3 (List.mem_of_getElem? (i := 93) (by rfl)) (by rfl)
theorem wCo_X0_aheadOf : Cond.code yX0_aheadOf cX0_aheadOf 3 (some (.array .int)) ∈ fx_WS := fx_in3 (List.mem_of_getElem? (i := 94) (by rfl)) (by rfl)
theorem wM_X0_63 : Cond.methodLink RX0 63 yX0_fine ∈ fx_WS := fx_in3 (List.mem_of_getElem? (i := 95) (by rfl)) (by rfl)
theorem wIn_X0_fine : Cond.instanceMethod yX0_fine ∈ fx_WS := fx_in3 (List.mem_of_getElem? (i := 96) (by rfl)) (by rfl)
theorem wSel_X0_fine : Cond.selects yX0_fine.cls yX0_fine yX0_fine ∈ fx_WS := fx_in3 (List.mem_of_getElem? (i := 97) (by rfl)) (by rfl)
theorem wCo_X0_fine : Cond.code yX0_fine cX0_fine 10 (some .int) ∈ fx_WS := fx_in3 (List.mem_of_getElem? (i := 98) (by rfl)) (by rfl)
theorem wM_X0_81 : Cond.methodLink RX0 81 yX0_isFined ∈ fx_WS := fx_in3 (List.mem_of_getElem? (i := 99) (by rfl)) (by rfl)
theorem wIn_X0_isFined : Cond.instanceMethod yX0_isFined ∈ fx_WS := fx_in3 (List.mem_of_getElem? (i := 101) (by rfl)) (by rfl)
theorem wCo_X0_isFined : Cond.code yX0_isFined cX0_isFined 3 (some .boolean) ∈ fx_WS := fx_in3 (List.mem_of_getElem? (i := 102) (by rfl)) (by rfl)
theorem wM_X0_85 : Cond.methodLink RX0 85 yX0_boughtBy ∈ fx_WS := fx_in3 (List.mem_of_getElem? (i := 103) (by rfl)) (by rfl)
theorem wIn_X0_boughtBy : Cond.instanceMethod yX0_boughtBy ∈ fx_WS := fx_in3 (List.mem_of_getElem? (i := 105) (by rfl)) (by rfl)
theorem wCo_X0_boughtBy : Cond.code yX0_boughtBy cX0_boughtBy 3 (some .int) ∈ fx_WS := fx_in3 (List.mem_of_getElem? (i := 106) (by rfl)) (by rfl)
theorem wM_X0_88 : Cond.methodLink RX0 88 yX0_wasDone ∈ fx_WS := fx_in3 (List.mem_of_getElem? (i := 107) (by rfl)) (by rfl)
theorem wIn_X0_wasDone : Cond.instanceMethod yX0_wasDone ∈ fx_WS := fx_in3 (List.mem_of_getElem? (i := 109) (by rfl)) (by rfl)
theorem wCo_X0_wasDone : Cond.code yX0_wasDone cX0_wasDone 5 (some .boolean) ∈ fx_WS := fx_in3 (List.mem_of_getElem? (i := 110) (by rfl)) (by rfl)
theorem wM_L_64 : Cond.methodLink RL 64 yX5_all ∈ fx_WS := fx_in3 (List.mem_of_getElem? (i := 111) (by rfl)) (by rfl)
theorem wIn_X5_all : Cond.instanceMethod yX5_all ∈ fx_WS := fx_in3 (List.mem_of_getElem? (i := 112) (by rfl)) (by rfl)
theorem wSel_X5_all : Cond.selects yX5_all.cls yX5_all yX5_all ∈ fx_WS := fx_in3 (List.mem_of_getElem? (i := 113) (by rfl)) (by rfl)
theorem wCo_X5_all : Cond.code yX5_all cX5_all 1 (some .int) ∈ fx_WS := fx_in3 (List.mem_of_getElem? (i := 114) (by rfl)) (by rfl)
theorem wM_X5_162 : Cond.methodLink RX5 162 yX5_allFines ∈ fx_WS := fx_in3 (List.mem_of_getElem? (i := 115) (by rfl)) (by rfl)
theorem wIn_X5_allFines : Cond.instanceMethod yX5_allFines ∈ fx_WS := fx_in3 (List.mem_of_getElem? (i := 117) (by rfl)) (by rfl)
theorem wCo_X5_allFines : Cond.code yX5_allFines cX5_allFines 2 (some .int) ∈ fx_WS := fx_in3 (List.mem_of_getElem? (i := 118) (by rfl)) (by rfl)
theorem wM_X5_194 : Cond.methodLink RX5 194 yX0_finesOf ∈ fx_WS := fx_in3 (List.mem_of_getElem? (i := 119) (by rfl)) (by rfl)
theorem wIn_X0_finesOf : Cond.instanceMethod yX0_finesOf ∈ fx_WS := fx_in3 (List.mem_of_getElem? (i := 120) (by rfl)) (by rfl)
theorem wSel_X0_finesOf : Cond.selects yX0_finesOf.cls yX0_finesOf yX0_finesOf ∈ fx_WS := fx_in3 (List.mem_of_getElem? (i := 121) (by rfl)) (by rfl)
theorem wCo_X0_finesOf : Cond.code yX0_finesOf cX0_finesOf 6 (some .int) ∈ fx_WS := fx_in3 (List.mem_of_getElem? (i := 122) (by rfl)) (by rfl)
theorem wM_X0_67 : Cond.methodLink RX0 67 yX0_finesOfHour ∈ fx_WS := fx_in3 (List.mem_of_getElem? (i := 123) (by rfl)) (by rfl)
theorem wIn_X0_finesOfHour : Cond.instanceMethod yX0_finesOfHour ∈ fx_WS := fx_in3 (List.mem_of_getElem? (i := 125) (by rfl)) (by rfl)
theorem wCo_X0_finesOfHour : Cond.code yX0_finesOfHour cX0_finesOfHour 6 (some .int) ∈ fx_WS := fx_in3 (List.mem_of_getElem? (i := 126) (by rfl)) (by rfl)
theorem wM_L_68 : Cond.methodLink RL 68 yX5_least ∈ fx_WS := fx_in3 (List.mem_of_getElem? (i := 127) (by rfl)) (by rfl)
theorem wIn_X5_least : Cond.instanceMethod yX5_least ∈ fx_WS := fx_in3 (List.mem_of_getElem? (i := 128) (by rfl)) (by rfl)
theorem wSel_X5_least : Cond.selects yX5_least.cls yX5_least yX5_least ∈ fx_WS := fx_in3 (List.mem_of_getElem? (i := 129) (by rfl)) (by rfl)
theorem wCo_X5_least : Cond.code yX5_least cX5_least 5 (some .int) ∈ fx_WS := fx_in3 (List.mem_of_getElem? (i := 130) (by rfl)) (by rfl)
theorem wM_X5_165 : Cond.methodLink RX5 165 yX1_findLeast ∈ fx_WS := fx_in3 (List.mem_of_getElem? (i := 131) (by rfl)) (by rfl)
theorem wIn_X1_findLeast : Cond.instanceMethod yX1_findLeast ∈ fx_WS := fx_in3 (List.mem_of_getElem? (i := 132) (by rfl)) (by rfl)
theorem wSel_X1_findLeast : Cond.selects yX1_findLeast.cls yX1_findLeast yX1_findLeast ∈ fx_WS := fx_in3 (List.mem_of_getElem? (i := 133) (by rfl)) (by rfl)
theorem wCo_X1_findLeast : Cond.code yX1_findLeast cX1_findLeast 4 (some .boolean) ∈ fx_WS := fx_in3 (List.mem_of_getElem? (i := 134) (by rfl)) (by rfl)
theorem wM_X1_57 : Cond.methodLink RX1 57 yX1_writeRows ∈ fx_WS := fx_in3 (List.mem_of_getElem? (i := 135) (by rfl)) (by rfl)
theorem wIn_X1_writeRows : Cond.instanceMethod yX1_writeRows ∈ fx_WS := fx_in3 (List.mem_of_getElem? (i := 137) (by rfl)) (by rfl)
theorem wCo_X1_writeRows : Cond.code yX1_writeRows cX1_writeRows 4 none ∈ fx_WS := fx_in3 (List.mem_of_getElem? (i := 138) (by rfl)) (by rfl)
theorem wM_X1_170 : Cond.methodLink RX1 170 yX4_needed ∈ fx_WS := fx_in3 (List.mem_of_getElem? (i := 139) (by rfl)) (by rfl)
theorem wM_X1_173 : Cond.methodLink RX1 173 yX1_writeRowsOf ∈ fx_WS := fx_in3 (List.mem_of_getElem? (i := 140) (by rfl)) (by rfl)
theorem wIn_X1_writeRowsOf : Cond.instanceMethod yX1_writeRowsOf ∈ fx_WS := fx_in3 (List.mem_of_getElem? (i := 142) (by rfl)) (by rfl)
theorem wCo_X1_writeRowsOf : Cond.code yX1_writeRowsOf cX1_writeRowsOf 5 none ∈ fx_WS := fx_in3 (List.mem_of_getElem? (i := 143) (by rfl)) (by rfl)
theorem wM_X1_177 : Cond.methodLink RX1 177 yX1_writeFirstRow ∈ fx_WS := fx_in3 (List.mem_of_getElem? (i := 144) (by rfl)) (by rfl)
theorem wIn_X1_writeFirstRow : Cond.instanceMethod yX1_writeFirstRow ∈ fx_WS := fx_in3 (List.mem_of_getElem? (i := 146) (by rfl)) (by rfl)
theorem wCo_X1_writeFirstRow : Cond.code yX1_writeFirstRow cX1_writeFirstRow 7 none ∈ fx_WS := fx_in3 (List.mem_of_getElem? (i := 147) (by rfl)) (by rfl)
theorem wM_X1_180 : Cond.methodLink RX1 180 yJ7_fill_53178 ∈ fx_WS := fx_in3 (List.mem_of_getElem? (i := 148) (by rfl)) (by rfl)
theorem wM_X1_164 : Cond.methodLink RX1 164 arraycopyName ∈ fx_WS := fx_in3 (List.mem_of_getElem? (i := 149) (by rfl)) (by rfl)
theorem wSt_X5_nextOrder : Cond.static yX5_nextOrder ∈ fx_WS := fx_in3 (List.mem_of_getElem? (i := 151) (by rfl)) (by rfl)
theorem wCo_X5_nextOrder : Cond.code yX5_nextOrder cX5_nextOrder 6 (some .boolean) ∈ fx_WS := fx_in3 (List.mem_of_getElem? (i := 152) (by rfl)) (by rfl)
theorem wM_X5_270 : Cond.methodLink RX5 270 yX5_swap ∈ fx_WS := fx_in3 (List.mem_of_getElem? (i := 153) (by rfl)) (by rfl)
theorem wSt_X5_swap : Cond.static yX5_swap ∈ fx_WS := fx_in3 (List.mem_of_getElem? (i := 154) (by rfl)) (by rfl)
theorem wCo_X5_swap : Cond.code yX5_swap cX5_swap 4 none ∈ fx_WS := fx_in3 (List.mem_of_getElem? (i := 155) (by rfl)) (by rfl)
theorem wM_X1_61 : Cond.methodLink RX1 61 yX1_waysTogether ∈ fx_WS := fx_in3 (List.mem_of_getElem? (i := 156) (by rfl)) (by rfl)
theorem wIn_X1_waysTogether : Cond.instanceMethod yX1_waysTogether ∈ fx_WS := fx_in3 (List.mem_of_getElem? (i := 158) (by rfl)) (by rfl)
theorem wCo_X1_waysTogether : Cond.code yX1_waysTogether cX1_waysTogether 5 (some .long) ∈ fx_WS := fx_in3 (List.mem_of_getElem? (i := 159) (by rfl)) (by rfl)
theorem wK_X1_65 : Cond.constantLong RX1 65 (50000) ∈ fx_WS := fx_in3 (List.mem_of_getElem? (i := 160) (by rfl)) (by rfl)
theorem wK_X1_67 : Cond.constant RX1 67 (1000000) ∈ fx_WS := fx_in3 (List.mem_of_getElem? (i := 161) (by rfl)) (by rfl)
theorem wM_X1_68 : Cond.methodLink RX1 68 yX1_search ∈ fx_WS := fx_in3 (List.mem_of_getElem? (i := 162) (by rfl)) (by rfl)
theorem wIn_X1_search : Cond.instanceMethod yX1_search ∈ fx_WS := fx_in3 (List.mem_of_getElem? (i := 164) (by rfl)) (by rfl)
theorem wCo_X1_search : Cond.code yX1_search cX1_search 9 (some .int) ∈ fx_WS := fx_in3 (List.mem_of_getElem? (i := 165) (by rfl)) (by rfl)
theorem wM_X1_125 : Cond.methodLink RX1 125 yX1_clearDay ∈ fx_WS := fx_in3 (List.mem_of_getElem? (i := 166) (by rfl)) (by rfl)
theorem wIn_X1_clearDay : Cond.instanceMethod yX1_clearDay ∈ fx_WS := fx_in3 (List.mem_of_getElem? (i := 168) (by rfl)) (by rfl)
theorem wCo_X1_clearDay : Cond.code yX1_clearDay cX1_clearDay 2 none ∈ fx_WS := fx_in3 (List.mem_of_getElem? (i := 169) (by rfl)) (by rfl)
theorem wM_X1_153 : Cond.methodLink RX1 153 yX1_liftRow ∈ fx_WS := fx_in3 (List.mem_of_getElem? (i := 170) (by rfl)) (by rfl)
theorem wIn_X1_liftRow : Cond.instanceMethod yX1_liftRow ∈ fx_WS := fx_in3 (List.mem_of_getElem? (i := 172) (by rfl)) (by rfl)
theorem wCo_X1_liftRow : Cond.code yX1_liftRow cX1_liftRow 3 none ∈ fx_WS := fx_in3 (List.mem_of_getElem? (i := 173) (by rfl)) (by rfl)
theorem wM_X1_149 : Cond.methodLink RX1 149 yX1_startPerson ∈ fx_WS := fx_in3 (List.mem_of_getElem? (i := 174) (by rfl)) (by rfl)
theorem wIn_X1_startPerson : Cond.instanceMethod yX1_startPerson ∈ fx_WS := fx_in3 (List.mem_of_getElem? (i := 176) (by rfl)) (by rfl)
theorem wCo_X1_startPerson : Cond.code yX1_startPerson cX1_startPerson 8 none ∈ fx_WS := fx_in3 (List.mem_of_getElem? (i := 177) (by rfl)) (by rfl)
theorem wM_X1_160 : Cond.methodLink RX1 160 yX0_added ∈ fx_WS := fx_in3 (List.mem_of_getElem? (i := 178) (by rfl)) (by rfl)
theorem wIn_X0_added : Cond.instanceMethod yX0_added ∈ fx_WS := fx_in3 (List.mem_of_getElem? (i := 179) (by rfl)) (by rfl)
theorem wSel_X0_added : Cond.selects yX0_added.cls yX0_added yX0_added ∈ fx_WS := fx_in3 (List.mem_of_getElem? (i := 180) (by rfl)) (by rfl)
theorem wCo_X0_added : Cond.code yX0_added cX0_added 8 (some .int) ∈ fx_WS := fx_in3 (List.mem_of_getElem? (i := 181) (by rfl)) (by rfl)
theorem wM_X0_95 : Cond.methodLink RX0 95 yX0_othersWith ∈ fx_WS := fx_in3 (List.mem_of_getElem? (i := 184) (by rfl)) (by rfl)
theorem wIn_X0_othersWith : Cond.instanceMethod yX0_othersWith ∈ fx_WS := fx_in3 (List.mem_of_getElem? (i := 186) (by rfl)) (by rfl)
theorem wCo_X0_othersWith : Cond.code yX0_othersWith cX0_othersWith 7 (some .int) ∈ fx_WS := fx_in3 (List.mem_of_getElem? (i := 187) (by rfl)) (by rfl)
theorem wM_X0_99 : Cond.methodLink RX0 99 yX0_addedToCopies ∈ fx_WS := fx_in3 (List.mem_of_getElem? (i := 188) (by rfl)) (by rfl)
theorem wIn_X0_addedToCopies : Cond.instanceMethod yX0_addedToCopies ∈ fx_WS := fx_in3 (List.mem_of_getElem? (i := 190) (by rfl)) (by rfl)
theorem wCo_X0_addedToCopies : Cond.code yX0_addedToCopies cX0_addedToCopies 7 (some .int) ∈ fx_WS := fx_in3 (List.mem_of_getElem? (i := 191) (by rfl)) (by rfl)
theorem wM_X1_114 : Cond.methodLink RX1 114 yX1_priceOfRow ∈ fx_WS := fx_in3 (List.mem_of_getElem? (i := 192) (by rfl)) (by rfl)
theorem wIn_X1_priceOfRow : Cond.instanceMethod yX1_priceOfRow ∈ fx_WS := fx_in3 (List.mem_of_getElem? (i := 194) (by rfl)) (by rfl)
theorem wCo_X1_priceOfRow : Cond.code yX1_priceOfRow cX1_priceOfRow 6 (some .int) ∈ fx_WS := fx_in3 (List.mem_of_getElem? (i := 195) (by rfl)) (by rfl)
theorem wM_X1_121 : Cond.methodLink RX1 121 yX1_layRow ∈ fx_WS := fx_in3 (List.mem_of_getElem? (i := 196) (by rfl)) (by rfl)
theorem wIn_X1_layRow : Cond.instanceMethod yX1_layRow ∈ fx_WS := fx_in3 (List.mem_of_getElem? (i := 198) (by rfl)) (by rfl)
theorem wCo_X1_layRow : Cond.code yX1_layRow cX1_layRow 5 none ∈ fx_WS := fx_in3 (List.mem_of_getElem? (i := 199) (by rfl)) (by rfl)
theorem wM_X1_75 : Cond.methodLink RX1 75 yX1_copyDay ∈ fx_WS := fx_in3 (List.mem_of_getElem? (i := 200) (by rfl)) (by rfl)
theorem wSt_X1_copyDay : Cond.static yX1_copyDay ∈ fx_WS := fx_in3 (List.mem_of_getElem? (i := 201) (by rfl)) (by rfl)
theorem wCo_X1_copyDay : Cond.code yX1_copyDay cX1_copyDay 3 none ∈ fx_WS := fx_in3 (List.mem_of_getElem? (i := 202) (by rfl)) (by rfl)
theorem wM_L_72 : Cond.methodLink RL 72 yX5_fewest ∈ fx_WS := fx_in3 (List.mem_of_getElem? (i := 203) (by rfl)) (by rfl)
theorem wIn_X5_fewest : Cond.instanceMethod yX5_fewest ∈ fx_WS := fx_in3 (List.mem_of_getElem? (i := 204) (by rfl)) (by rfl)
theorem wSel_X5_fewest : Cond.selects yX5_fewest.cls yX5_fewest yX5_fewest ∈ fx_WS := fx_in3 (List.mem_of_getElem? (i := 205) (by rfl)) (by rfl)
theorem wCo_X5_fewest : Cond.code yX5_fewest cX5_fewest 2 (some .int) ∈ fx_WS := fx_in3 (List.mem_of_getElem? (i := 206) (by rfl)) (by rfl)
theorem wM_X5_175 : Cond.methodLink RX5 175 yX1_fewestHours ∈ fx_WS := fx_in3 (List.mem_of_getElem? (i := 207) (by rfl)) (by rfl)
theorem wIn_X1_fewestHours : Cond.instanceMethod yX1_fewestHours ∈ fx_WS := fx_in3 (List.mem_of_getElem? (i := 208) (by rfl)) (by rfl)
theorem wSel_X1_fewestHours : Cond.selects yX1_fewestHours.cls yX1_fewestHours yX1_fewestHours ∈ fx_WS := fx_in3 (List.mem_of_getElem? (i := 209) (by rfl)) (by rfl)
theorem wCo_X1_fewestHours : Cond.code yX1_fewestHours cX1_fewestHours 4 (some .int) ∈ fx_WS := fx_in3 (List.mem_of_getElem? (i := 210) (by rfl)) (by rfl)
theorem wM_L_76 : Cond.methodLink RL 76 yX5_list ∈ fx_WS := fx_in3 (List.mem_of_getElem? (i := 211) (by rfl)) (by rfl)
theorem wIn_X5_list : Cond.instanceMethod yX5_list ∈ fx_WS := fx_in3 (List.mem_of_getElem? (i := 212) (by rfl)) (by rfl)
theorem wSel_X5_list : Cond.selects yX5_list.cls yX5_list yX5_list ∈ fx_WS := fx_in3 (List.mem_of_getElem? (i := 213) (by rfl)) (by rfl)
theorem wCo_X5_list : Cond.code yX5_list cX5_list 2 (some .int) ∈ fx_WS := fx_in3 (List.mem_of_getElem? (i := 214) (by rfl)) (by rfl)
theorem wM_X5_179 : Cond.methodLink RX5 179 yX1_finesByNumber ∈ fx_WS := fx_in3 (List.mem_of_getElem? (i := 215) (by rfl)) (by rfl)
theorem wIn_X1_finesByNumber : Cond.instanceMethod yX1_finesByNumber ∈ fx_WS := fx_in3 (List.mem_of_getElem? (i := 216) (by rfl)) (by rfl)
theorem wSel_X1_finesByNumber : Cond.selects yX1_finesByNumber.cls yX1_finesByNumber yX1_finesByNumber ∈ fx_WS := fx_in3 (List.mem_of_getElem? (i := 217) (by rfl)) (by rfl)
theorem wCo_X1_finesByNumber : Cond.code yX1_finesByNumber cX1_finesByNumber 3 (some .int) ∈ fx_WS := fx_in3 (List.mem_of_getElem? (i := 218) (by rfl)) (by rfl)
theorem wM_X1_79 : Cond.methodLink RX1 79 yX1_startOrders ∈ fx_WS := fx_in3 (List.mem_of_getElem? (i := 219) (by rfl)) (by rfl)
theorem wIn_X1_startOrders : Cond.instanceMethod yX1_startOrders ∈ fx_WS := fx_in3 (List.mem_of_getElem? (i := 221) (by rfl)) (by rfl)
theorem wCo_X1_startOrders : Cond.code yX1_startOrders cX1_startOrders 3 none ∈ fx_WS := fx_in3 (List.mem_of_getElem? (i := 222) (by rfl)) (by rfl)
theorem wM_X1_83 : Cond.methodLink RX1 83 yX1_finesInOrder ∈ fx_WS := fx_in3 (List.mem_of_getElem? (i := 223) (by rfl)) (by rfl)
theorem wIn_X1_finesInOrder : Cond.instanceMethod yX1_finesInOrder ∈ fx_WS := fx_in3 (List.mem_of_getElem? (i := 225) (by rfl)) (by rfl)
theorem wCo_X1_finesInOrder : Cond.code yX1_finesInOrder cX1_finesInOrder 4 (some .int) ∈ fx_WS := fx_in3 (List.mem_of_getElem? (i := 226) (by rfl)) (by rfl)
theorem wM_X1_107 : Cond.methodLink RX1 107 yX1_setPrices ∈ fx_WS := fx_in3 (List.mem_of_getElem? (i := 227) (by rfl)) (by rfl)
theorem wIn_X1_setPrices : Cond.instanceMethod yX1_setPrices ∈ fx_WS := fx_in3 (List.mem_of_getElem? (i := 229) (by rfl)) (by rfl)
theorem wCo_X1_setPrices : Cond.code yX1_setPrices cX1_setPrices 8 none ∈ fx_WS := fx_in3 (List.mem_of_getElem? (i := 230) (by rfl)) (by rfl)
theorem wM_X1_134 : Cond.methodLink RX1 134 yX4_kindOf ∈ fx_WS := fx_in3 (List.mem_of_getElem? (i := 231) (by rfl)) (by rfl)
theorem wM_X1_138 : Cond.methodLink RX1 138 yX0_aheadOf ∈ fx_WS := fx_in3 (List.mem_of_getElem? (i := 232) (by rfl)) (by rfl)
theorem wM_X1_145 : Cond.methodLink RX1 145 yX0_fine ∈ fx_WS := fx_in3 (List.mem_of_getElem? (i := 233) (by rfl)) (by rfl)
theorem wM_X1_111 : Cond.methodLink RX1 111 yX1_bestRow ∈ fx_WS := fx_in3 (List.mem_of_getElem? (i := 234) (by rfl)) (by rfl)
theorem wIn_X1_bestRow : Cond.instanceMethod yX1_bestRow ∈ fx_WS := fx_in3 (List.mem_of_getElem? (i := 236) (by rfl)) (by rfl)
theorem wCo_X1_bestRow : Cond.code yX1_bestRow cX1_bestRow 7 (some .int) ∈ fx_WS := fx_in3 (List.mem_of_getElem? (i := 237) (by rfl)) (by rfl)
theorem wM_X1_128 : Cond.methodLink RX1 128 yX0_finesOf ∈ fx_WS := fx_in3 (List.mem_of_getElem? (i := 238) (by rfl)) (by rfl)
theorem wM_X5_182 : Cond.methodLink RX5 182 yX1_finesByWorstOrder ∈ fx_WS := fx_in3 (List.mem_of_getElem? (i := 239) (by rfl)) (by rfl)
theorem wIn_X1_finesByWorstOrder : Cond.instanceMethod yX1_finesByWorstOrder ∈ fx_WS := fx_in4 (List.mem_of_getElem? (i := 0) (by rfl)) (by rfl)
theorem wSel_X1_finesByWorstOrder : Cond.selects yX1_finesByWorstOrder.cls yX1_finesByWorstOrder yX1_finesByWorstOrder ∈ fx_WS := fx_in4 (List.mem_of_getElem? (i := 1) (by rfl)) (by rfl)
theorem wCo_X1_finesByWorstOrder : Cond.code yX1_finesByWorstOrder cX1_finesByWorstOrder 5 (some .int) ∈ fx_WS := fx_in4 (List.mem_of_getElem? (i := 2) (by rfl)) (by rfl)
theorem wM_X1_94 : Cond.methodLink RX1 94 Lib.Math.max.name ∈ fx_WS := fx_in4 (List.mem_of_getElem? (i := 3) (by rfl)) (by rfl)
theorem wSt_max : Cond.static Lib.Math.max.name ∈ fx_WS := fx_in4 (List.mem_of_getElem? (i := 4) (by rfl)) (by rfl)
theorem wCo_max : Cond.code Lib.Math.max.name Lib.Math.max.code 2 (some .int) ∈ fx_WS := fx_in4 (List.mem_of_getElem? (i := 5) (by rfl)) (by rfl)
theorem wM_L_80 : Cond.methodLink RL 80 yX5_rests ∈ fx_WS := fx_in4 (List.mem_of_getElem? (i := 6) (by rfl)) (by rfl)
theorem wIn_X5_rests : Cond.instanceMethod yX5_rests ∈ fx_WS := fx_in4 (List.mem_of_getElem? (i := 7) (by rfl)) (by rfl)
theorem wSel_X5_rests : Cond.selects yX5_rests.cls yX5_rests yX5_rests ∈ fx_WS := fx_in4 (List.mem_of_getElem? (i := 8) (by rfl)) (by rfl)
theorem wCo_X5_rests : Cond.code yX5_rests cX5_rests 3 (some .int) ∈ fx_WS := fx_in4 (List.mem_of_getElem? (i := 9) (by rfl)) (by rfl)
theorem wM_X5_185 : Cond.methodLink RX5 185 yX1_roundOfRest ∈ fx_WS := fx_in4 (List.mem_of_getElem? (i := 10) (by rfl)) (by rfl)
theorem wIn_X1_roundOfRest : Cond.instanceMethod yX1_roundOfRest ∈ fx_WS := fx_in4 (List.mem_of_getElem? (i := 11) (by rfl)) (by rfl)
theorem wSel_X1_roundOfRest : Cond.selects yX1_roundOfRest.cls yX1_roundOfRest yX1_roundOfRest ∈ fx_WS := fx_in4 (List.mem_of_getElem? (i := 12) (by rfl)) (by rfl)
theorem wCo_X1_roundOfRest : Cond.code yX1_roundOfRest cX1_roundOfRest 4 (some .int) ∈ fx_WS := fx_in4 (List.mem_of_getElem? (i := 13) (by rfl)) (by rfl)
theorem wM_X1_103 : Cond.methodLink RX1 103 yX1_anyoneChanges ∈ fx_WS := fx_in4 (List.mem_of_getElem? (i := 14) (by rfl)) (by rfl)
theorem wIn_X1_anyoneChanges : Cond.instanceMethod yX1_anyoneChanges ∈ fx_WS := fx_in4 (List.mem_of_getElem? (i := 16) (by rfl)) (by rfl)
theorem wCo_X1_anyoneChanges : Cond.code yX1_anyoneChanges cX1_anyoneChanges 6 (some .boolean) ∈ fx_WS := fx_in4 (List.mem_of_getElem? (i := 17) (by rfl)) (by rfl)
theorem wM_X1_118 : Cond.methodLink RX1 118 yX1_priceOfNow ∈ fx_WS := fx_in4 (List.mem_of_getElem? (i := 18) (by rfl)) (by rfl)
theorem wIn_X1_priceOfNow : Cond.instanceMethod yX1_priceOfNow ∈ fx_WS := fx_in4 (List.mem_of_getElem? (i := 20) (by rfl)) (by rfl)
theorem wCo_X1_priceOfNow : Cond.code yX1_priceOfNow cX1_priceOfNow 5 (some .int) ∈ fx_WS := fx_in4 (List.mem_of_getElem? (i := 21) (by rfl)) (by rfl)
theorem wM_L_84 : Cond.methodLink RL 84 yX5_better ∈ fx_WS := fx_in4 (List.mem_of_getElem? (i := 22) (by rfl)) (by rfl)
theorem wIn_X5_better : Cond.instanceMethod yX5_better ∈ fx_WS := fx_in4 (List.mem_of_getElem? (i := 23) (by rfl)) (by rfl)
theorem wSel_X5_better : Cond.selects yX5_better.cls yX5_better yX5_better ∈ fx_WS := fx_in4 (List.mem_of_getElem? (i := 24) (by rfl)) (by rfl)
theorem wCo_X5_better : Cond.code yX5_better cX5_better 7 (some .int) ∈ fx_WS := fx_in4 (List.mem_of_getElem? (i := 25) (by rfl)) (by rfl)
theorem wK_X5_198 : Cond.constant RX5 198 (1000000) ∈ fx_WS := fx_in4 (List.mem_of_getElem? (i := 26) (by rfl)) (by rfl)
theorem wM_L_88 : Cond.methodLink RL 88 yX5_name ∈ fx_WS := fx_in4 (List.mem_of_getElem? (i := 27) (by rfl)) (by rfl)
theorem wIn_X5_name : Cond.instanceMethod yX5_name ∈ fx_WS := fx_in4 (List.mem_of_getElem? (i := 28) (by rfl)) (by rfl)
theorem wSel_X5_name : Cond.selects yX5_name.cls yX5_name yX5_name ∈ fx_WS := fx_in4 (List.mem_of_getElem? (i := 29) (by rfl)) (by rfl)
theorem wCo_X5_name : Cond.code yX5_name cX5_name 2 (some .int) ∈ fx_WS := fx_in4 (List.mem_of_getElem? (i := 30) (by rfl)) (by rfl)
theorem wM_L_92 : Cond.methodLink RL 92 yX5_line ∈ fx_WS := fx_in4 (List.mem_of_getElem? (i := 31) (by rfl)) (by rfl)
theorem wIn_X5_line : Cond.instanceMethod yX5_line ∈ fx_WS := fx_in4 (List.mem_of_getElem? (i := 32) (by rfl)) (by rfl)
theorem wSel_X5_line : Cond.selects yX5_line.cls yX5_line yX5_line ∈ fx_WS := fx_in4 (List.mem_of_getElem? (i := 33) (by rfl)) (by rfl)
theorem wCo_X5_line : Cond.code yX5_line cX5_line 6 (some .int) ∈ fx_WS := fx_in4 (List.mem_of_getElem? (i := 34) (by rfl)) (by rfl)
theorem wM_X5_199 : Cond.methodLink RX5 199 yX5_finesOfOne ∈ fx_WS := fx_in4 (List.mem_of_getElem? (i := 35) (by rfl)) (by rfl)
theorem wIn_X5_finesOfOne : Cond.instanceMethod yX5_finesOfOne ∈ fx_WS := fx_in4 (List.mem_of_getElem? (i := 37) (by rfl)) (by rfl)
theorem wCo_X5_finesOfOne : Cond.code yX5_finesOfOne cX5_finesOfOne 4 (some .int) ∈ fx_WS := fx_in4 (List.mem_of_getElem? (i := 38) (by rfl)) (by rfl)
theorem wM_L_96 : Cond.methodLink RL 96 yX5_choir ∈ fx_WS := fx_in4 (List.mem_of_getElem? (i := 39) (by rfl)) (by rfl)
theorem wIn_X5_choir : Cond.instanceMethod yX5_choir ∈ fx_WS := fx_in4 (List.mem_of_getElem? (i := 40) (by rfl)) (by rfl)
theorem wSel_X5_choir : Cond.selects yX5_choir.cls yX5_choir yX5_choir ∈ fx_WS := fx_in4 (List.mem_of_getElem? (i := 41) (by rfl)) (by rfl)
theorem wCo_X5_choir : Cond.code yX5_choir cX5_choir 3 (some .int) ∈ fx_WS := fx_in4 (List.mem_of_getElem? (i := 42) (by rfl)) (by rfl)
theorem wM_X5_205 : Cond.methodLink RX5 205 yX0_leastOfChoir ∈ fx_WS := fx_in4 (List.mem_of_getElem? (i := 43) (by rfl)) (by rfl)
theorem wIn_X0_leastOfChoir : Cond.instanceMethod yX0_leastOfChoir ∈ fx_WS := fx_in4 (List.mem_of_getElem? (i := 44) (by rfl)) (by rfl)
theorem wSel_X0_leastOfChoir : Cond.selects yX0_leastOfChoir.cls yX0_leastOfChoir yX0_leastOfChoir ∈ fx_WS := fx_in4 (List.mem_of_getElem? (i := 45) (by rfl)) (by rfl)
theorem wCo_X0_leastOfChoir : Cond.code yX0_leastOfChoir cX0_leastOfChoir 6 (some .int) ∈ fx_WS := fx_in4 (List.mem_of_getElem? (i := 46) (by rfl)) (by rfl)
theorem wK_X0_71 : Cond.constant RX0 71 (1000000) ∈ fx_WS := fx_in4 (List.mem_of_getElem? (i := 47) (by rfl)) (by rfl)
theorem wM_X0_75 : Cond.methodLink RX0 75 Lib.Math.min.name ∈ fx_WS := fx_in4 (List.mem_of_getElem? (i := 48) (by rfl)) (by rfl)
theorem wM_L_100 : Cond.methodLink RL 100 yX5_told ∈ fx_WS := fx_in4 (List.mem_of_getElem? (i := 49) (by rfl)) (by rfl)
theorem wIn_X5_told : Cond.instanceMethod yX5_told ∈ fx_WS := fx_in4 (List.mem_of_getElem? (i := 50) (by rfl)) (by rfl)
theorem wSel_X5_told : Cond.selects yX5_told.cls yX5_told yX5_told ∈ fx_WS := fx_in4 (List.mem_of_getElem? (i := 51) (by rfl)) (by rfl)
theorem wCo_X5_told : Cond.code yX5_told cX5_told 4 (some .int) ∈ fx_WS := fx_in4 (List.mem_of_getElem? (i := 52) (by rfl)) (by rfl)
theorem wM_L_104 : Cond.methodLink RL 104 yX5_did ∈ fx_WS := fx_in4 (List.mem_of_getElem? (i := 53) (by rfl)) (by rfl)
theorem wIn_X5_did : Cond.instanceMethod yX5_did ∈ fx_WS := fx_in4 (List.mem_of_getElem? (i := 54) (by rfl)) (by rfl)
theorem wSel_X5_did : Cond.selects yX5_did.cls yX5_did yX5_did ∈ fx_WS := fx_in4 (List.mem_of_getElem? (i := 55) (by rfl)) (by rfl)
theorem wCo_X5_did : Cond.code yX5_did cX5_did 3 (some .int) ∈ fx_WS := fx_in4 (List.mem_of_getElem? (i := 56) (by rfl)) (by rfl)
theorem wM_X5_212 : Cond.methodLink RX5 212 yX2_findWays ∈ fx_WS := fx_in4 (List.mem_of_getElem? (i := 57) (by rfl)) (by rfl)
theorem wIn_X2_findWays : Cond.instanceMethod yX2_findWays ∈ fx_WS := fx_in4 (List.mem_of_getElem? (i := 58) (by rfl)) (by rfl)
theorem wSel_X2_findWays : Cond.selects yX2_findWays.cls yX2_findWays yX2_findWays ∈ fx_WS := fx_in4 (List.mem_of_getElem? (i := 59) (by rfl)) (by rfl)
theorem wCo_X2_findWays : Cond.code yX2_findWays cX2_findWays 7 none ∈ fx_WS := fx_in4 (List.mem_of_getElem? (i := 60) (by rfl)) (by rfl)
theorem wM_X2_31 : Cond.methodLink RX2 31 yJ7_fill_53178 ∈ fx_WS := fx_in4 (List.mem_of_getElem? (i := 61) (by rfl)) (by rfl)
theorem wK_X2_37 : Cond.constant RX2 37 (1000000) ∈ fx_WS := fx_in4 (List.mem_of_getElem? (i := 62) (by rfl)) (by rfl)
theorem wM_X2_43 : Cond.methodLink RX2 43 yX2_mayHavePaid ∈ fx_WS := fx_in4 (List.mem_of_getElem? (i := 63) (by rfl)) (by rfl)
theorem wIn_X2_mayHavePaid : Cond.instanceMethod yX2_mayHavePaid ∈ fx_WS := fx_in4 (List.mem_of_getElem? (i := 65) (by rfl)) (by rfl)
theorem wCo_X2_mayHavePaid : Cond.code yX2_mayHavePaid cX2_mayHavePaid 12 (some .boolean) ∈ fx_WS := fx_in4 (List.mem_of_getElem? (i := 66) (by rfl)) (by rfl)
theorem wM_X2_53 : Cond.methodLink RX2 53 yX4_kindOf ∈ fx_WS := fx_in4 (List.mem_of_getElem? (i := 67) (by rfl)) (by rfl)
theorem wM_X2_61 : Cond.methodLink RX2 61 yX0_aheadOf ∈ fx_WS := fx_in4 (List.mem_of_getElem? (i := 68) (by rfl)) (by rfl)
theorem wM_X2_67 : Cond.methodLink RX2 67 yX0_fine ∈ fx_WS := fx_in4 (List.mem_of_getElem? (i := 69) (by rfl)) (by rfl)
theorem wM_X2_50 : Cond.methodLink RX2 50 yX2_countWay ∈ fx_WS := fx_in4 (List.mem_of_getElem? (i := 72) (by rfl)) (by rfl)
theorem wIn_X2_countWay : Cond.instanceMethod yX2_countWay ∈ fx_WS := fx_in4 (List.mem_of_getElem? (i := 74) (by rfl)) (by rfl)
theorem wCo_X2_countWay : Cond.code yX2_countWay cX2_countWay 1 none ∈ fx_WS := fx_in4 (List.mem_of_getElem? (i := 75) (by rfl)) (by rfl)
theorem wM_X2_77 : Cond.methodLink RX2 77 arraycopyName ∈ fx_WS := fx_in4 (List.mem_of_getElem? (i := 76) (by rfl)) (by rfl)
theorem wM_L_108 : Cond.methodLink RL 108 yX5_copied ∈ fx_WS := fx_in4 (List.mem_of_getElem? (i := 77) (by rfl)) (by rfl)
theorem wIn_X5_copied : Cond.instanceMethod yX5_copied ∈ fx_WS := fx_in4 (List.mem_of_getElem? (i := 78) (by rfl)) (by rfl)
theorem wSel_X5_copied : Cond.selects yX5_copied.cls yX5_copied yX5_copied ∈ fx_WS := fx_in4 (List.mem_of_getElem? (i := 79) (by rfl)) (by rfl)
theorem wCo_X5_copied : Cond.code yX5_copied cX5_copied 6 (some .int) ∈ fx_WS := fx_in4 (List.mem_of_getElem? (i := 80) (by rfl)) (by rfl)
theorem wM_X5_222 : Cond.methodLink RX5 222 yX5_timesCopied ∈ fx_WS := fx_in4 (List.mem_of_getElem? (i := 81) (by rfl)) (by rfl)
theorem wIn_X5_timesCopied : Cond.instanceMethod yX5_timesCopied ∈ fx_WS := fx_in4 (List.mem_of_getElem? (i := 83) (by rfl)) (by rfl)
theorem wCo_X5_timesCopied : Cond.code yX5_timesCopied cX5_timesCopied 6 (some .int) ∈ fx_WS := fx_in4 (List.mem_of_getElem? (i := 84) (by rfl)) (by rfl)
theorem wM_L_112 : Cond.methodLink RL 112 yX5_crowd ∈ fx_WS := fx_in4 (List.mem_of_getElem? (i := 85) (by rfl)) (by rfl)
theorem wIn_X5_crowd : Cond.instanceMethod yX5_crowd ∈ fx_WS := fx_in4 (List.mem_of_getElem? (i := 86) (by rfl)) (by rfl)
theorem wSel_X5_crowd : Cond.selects yX5_crowd.cls yX5_crowd yX5_crowd ∈ fx_WS := fx_in4 (List.mem_of_getElem? (i := 87) (by rfl)) (by rfl)
theorem wCo_X5_crowd : Cond.code yX5_crowd cX5_crowd 10 (some .int) ∈ fx_WS := fx_in4 (List.mem_of_getElem? (i := 88) (by rfl)) (by rfl)
theorem wM_X5_225 : Cond.methodLink RX5 225 yX5_crowdsOfAtLeast ∈ fx_WS := fx_in4 (List.mem_of_getElem? (i := 89) (by rfl)) (by rfl)
theorem wSt_X5_crowdsOfAtLeast : Cond.static yX5_crowdsOfAtLeast ∈ fx_WS := fx_in4 (List.mem_of_getElem? (i := 90) (by rfl)) (by rfl)
theorem wCo_X5_crowdsOfAtLeast : Cond.code yX5_crowdsOfAtLeast cX5_crowdsOfAtLeast 10 (some .long) ∈ fx_WS := fx_in4 (List.mem_of_getElem? (i := 91) (by rfl)) (by rfl)
theorem wM_X5_229 : Cond.methodLink RX5 229 yX5_commonDivisor ∈ fx_WS := fx_in4 (List.mem_of_getElem? (i := 92) (by rfl)) (by rfl)
theorem wSt_X5_commonDivisor : Cond.static yX5_commonDivisor ∈ fx_WS := fx_in4 (List.mem_of_getElem? (i := 93) (by rfl)) (by rfl)
theorem wCo_X5_commonDivisor : Cond.code yX5_commonDivisor cX5_commonDivisor 11 (some .long) ∈ fx_WS := fx_in4 (List.mem_of_getElem? (i := 94) (by rfl)) (by rfl)
theorem wM_X5_233 : Cond.methodLink RX5 233 yJ9_max_f86c9 ∈ fx_WS := fx_in4 (List.mem_of_getElem? (i := 95) (by rfl)) (by rfl)
theorem wSt_J9_max_f86c9 : Cond.static yJ9_max_f86c9 ∈ fx_WS := fx_in4 (List.mem_of_getElem? (i := 96) (by rfl)) (by rfl)
theorem wCo_J9_max_f86c9 : Cond.code yJ9_max_f86c9 cJ9_max_f86c9 4 (some .long) ∈ fx_WS := fx_in4 (List.mem_of_getElem? (i := 97) (by rfl)) (by rfl)
theorem wM_L_116 : Cond.methodLink RL 116 yX5_part ∈ fx_WS := fx_in4 (List.mem_of_getElem? (i := 98) (by rfl)) (by rfl)
theorem wIn_X5_part : Cond.instanceMethod yX5_part ∈ fx_WS := fx_in4 (List.mem_of_getElem? (i := 99) (by rfl)) (by rfl)
theorem wSel_X5_part : Cond.selects yX5_part.cls yX5_part yX5_part ∈ fx_WS := fx_in4 (List.mem_of_getElem? (i := 100) (by rfl)) (by rfl)
theorem wCo_X5_part : Cond.code yX5_part cX5_part 2 (some .long) ∈ fx_WS := fx_in4 (List.mem_of_getElem? (i := 101) (by rfl)) (by rfl)
theorem wM_L_121 : Cond.methodLink RL 121 yX5_image ∈ fx_WS := fx_in4 (List.mem_of_getElem? (i := 102) (by rfl)) (by rfl)
theorem wIn_X5_image : Cond.instanceMethod yX5_image ∈ fx_WS := fx_in4 (List.mem_of_getElem? (i := 103) (by rfl)) (by rfl)
theorem wSel_X5_image : Cond.selects yX5_image.cls yX5_image yX5_image ∈ fx_WS := fx_in4 (List.mem_of_getElem? (i := 104) (by rfl)) (by rfl)
theorem wCo_X5_image : Cond.code yX5_image cX5_image 2 (some .int) ∈ fx_WS := fx_in4 (List.mem_of_getElem? (i := 105) (by rfl)) (by rfl)
theorem wM_L_125 : Cond.methodLink RL 125 yX5_from ∈ fx_WS := fx_in4 (List.mem_of_getElem? (i := 106) (by rfl)) (by rfl)
theorem wIn_X5_from : Cond.instanceMethod yX5_from ∈ fx_WS := fx_in4 (List.mem_of_getElem? (i := 107) (by rfl)) (by rfl)
theorem wSel_X5_from : Cond.selects yX5_from.cls yX5_from yX5_from ∈ fx_WS := fx_in4 (List.mem_of_getElem? (i := 108) (by rfl)) (by rfl)
theorem wCo_X5_from : Cond.code yX5_from cX5_from 2 (some .int) ∈ fx_WS := fx_in4 (List.mem_of_getElem? (i := 109) (by rfl)) (by rfl)
theorem wM_L_129 : Cond.methodLink RL 129 yX5_status ∈ fx_WS := fx_in4 (List.mem_of_getElem? (i := 110) (by rfl)) (by rfl)
theorem wIn_X5_status : Cond.instanceMethod yX5_status ∈ fx_WS := fx_in4 (List.mem_of_getElem? (i := 111) (by rfl)) (by rfl)
theorem wSel_X5_status : Cond.selects yX5_status.cls yX5_status yX5_status ∈ fx_WS := fx_in4 (List.mem_of_getElem? (i := 112) (by rfl)) (by rfl)
theorem wCo_X5_status : Cond.code yX5_status cX5_status 2 (some .int) ∈ fx_WS := fx_in4 (List.mem_of_getElem? (i := 113) (by rfl)) (by rfl)
theorem wM_L_133 : Cond.methodLink RL 133 yX5_count ∈ fx_WS := fx_in4 (List.mem_of_getElem? (i := 114) (by rfl)) (by rfl)
theorem wIn_X5_count : Cond.instanceMethod yX5_count ∈ fx_WS := fx_in4 (List.mem_of_getElem? (i := 115) (by rfl)) (by rfl)
theorem wSel_X5_count : Cond.selects yX5_count.cls yX5_count yX5_count ∈ fx_WS := fx_in4 (List.mem_of_getElem? (i := 116) (by rfl)) (by rfl)
theorem wCo_X5_count : Cond.code yX5_count cX5_count 2 (some .int) ∈ fx_WS := fx_in4 (List.mem_of_getElem? (i := 117) (by rfl)) (by rfl)
theorem wM_X5_250 : Cond.methodLink RX5 250 yX5_amount ∈ fx_WS := fx_in4 (List.mem_of_getElem? (i := 118) (by rfl)) (by rfl)
theorem wIn_X5_amount : Cond.instanceMethod yX5_amount ∈ fx_WS := fx_in4 (List.mem_of_getElem? (i := 120) (by rfl)) (by rfl)
theorem wCo_X5_amount : Cond.code yX5_amount cX5_amount 2 (some .int) ∈ fx_WS := fx_in4 (List.mem_of_getElem? (i := 121) (by rfl)) (by rfl)
theorem wM_L_137 : Cond.methodLink RL 137 yX5_digest ∈ fx_WS := fx_in4 (List.mem_of_getElem? (i := 122) (by rfl)) (by rfl)
theorem wIn_X5_digest : Cond.instanceMethod yX5_digest ∈ fx_WS := fx_in4 (List.mem_of_getElem? (i := 123) (by rfl)) (by rfl)
theorem wSel_X5_digest : Cond.selects yX5_digest.cls yX5_digest yX5_digest ∈ fx_WS := fx_in4 (List.mem_of_getElem? (i := 124) (by rfl)) (by rfl)
theorem wCo_X5_digest : Cond.code yX5_digest cX5_digest 4 (some .long) ∈ fx_WS := fx_in4 (List.mem_of_getElem? (i := 125) (by rfl)) (by rfl)
theorem wK_X5_253 : Cond.constantLong RX5 253 (751) ∈ fx_WS := fx_in4 (List.mem_of_getElem? (i := 126) (by rfl)) (by rfl)
theorem wK_X5_255 : Cond.constantLong RX5 255 (31) ∈ fx_WS := fx_in4 (List.mem_of_getElem? (i := 127) (by rfl)) (by rfl)
theorem wM_X5_266 : Cond.methodLink RX5 266 yX5_digestWith ∈ fx_WS := fx_in4 (List.mem_of_getElem? (i := 128) (by rfl)) (by rfl)
theorem wIn_X5_digestWith : Cond.instanceMethod yX5_digestWith ∈ fx_WS := fx_in4 (List.mem_of_getElem? (i := 130) (by rfl)) (by rfl)
theorem wCo_X5_digestWith : Cond.code yX5_digestWith cX5_digestWith 7 (some .long) ∈ fx_WS := fx_in4 (List.mem_of_getElem? (i := 131) (by rfl)) (by rfl)
theorem wC_L_10 : Cond.classLink RL 10 RX6 ∈ fx_WS := fx_in4 (List.mem_of_getElem? (i := 132) (by rfl)) (by rfl)
theorem wNew_X6 : Cond.instantiable RX6 25 ∈ fx_WS := fx_in4 (List.mem_of_getElem? (i := 133) (by rfl)) (by rfl)
theorem wM_L_12 : Cond.methodLink RL 12 yX6_init ∈ fx_WS := fx_in4 (List.mem_of_getElem? (i := 134) (by rfl)) (by rfl)
theorem wIn_X6_init : Cond.instanceMethod yX6_init ∈ fx_WS := fx_in4 (List.mem_of_getElem? (i := 135) (by rfl)) (by rfl)
theorem wCo_X6_init : Cond.code yX6_init cX6_init 1 none ∈ fx_WS := fx_in4 (List.mem_of_getElem? (i := 136) (by rfl)) (by rfl)
theorem wM_X6_1 : Cond.methodLink RX6 1 objectInit ∈ fx_WS := fx_in4 (List.mem_of_getElem? (i := 137) (by rfl)) (by rfl)
theorem wM_X6_66 : Cond.methodLink RX6 66 yX6_begin ∈ fx_WS := fx_in4 (List.mem_of_getElem? (i := 138) (by rfl)) (by rfl)
theorem wSt_X6_begin : Cond.static yX6_begin ∈ fx_WS := fx_in4 (List.mem_of_getElem? (i := 139) (by rfl)) (by rfl)
theorem wCo_X6_begin : Cond.code yX6_begin cX6_begin 4 none ∈ fx_WS := fx_in4 (List.mem_of_getElem? (i := 140) (by rfl)) (by rfl)
theorem wF_X6_7 : Cond.fieldLink RX6 7 (TX6 0).1 (TX6 0).2.1 (TX6 0).2.2.1 ∈ fx_WS := fx_in4 (List.mem_of_getElem? (i := 141) (by rfl)) (by rfl)
theorem wF_X6_13 : Cond.fieldLink RX6 13 (TX6 1).1 (TX6 1).2.1 (TX6 1).2.2.1 ∈ fx_WS := fx_in4 (List.mem_of_getElem? (i := 142) (by rfl)) (by rfl)
theorem wF_X6_16 : Cond.fieldLink RX6 16 (TX6 2).1 (TX6 2).2.1 (TX6 2).2.2.1 ∈ fx_WS := fx_in4 (List.mem_of_getElem? (i := 143) (by rfl)) (by rfl)
theorem wF_X6_20 : Cond.fieldLink RX6 20 (TX6 3).1 (TX6 3).2.1 (TX6 3).2.2.1 ∈ fx_WS := fx_in4 (List.mem_of_getElem? (i := 144) (by rfl)) (by rfl)
theorem wF_X6_197 : Cond.fieldLink RX6 197 (TX6 4).1 (TX6 4).2.1 (TX6 4).2.2.1 ∈ fx_WS := fx_in4 (List.mem_of_getElem? (i := 145) (by rfl)) (by rfl)
theorem wF_X6_23 : Cond.fieldLink RX6 23 (TX6 5).1 (TX6 5).2.1 (TX6 5).2.2.1 ∈ fx_WS := fx_in4 (List.mem_of_getElem? (i := 146) (by rfl)) (by rfl)
theorem wF_X6_27 : Cond.fieldLink RX6 27 (TX6 6).1 (TX6 6).2.1 (TX6 6).2.2.1 ∈ fx_WS := fx_in4 (List.mem_of_getElem? (i := 147) (by rfl)) (by rfl)
theorem wF_X6_30 : Cond.fieldLink RX6 30 (TX6 7).1 (TX6 7).2.1 (TX6 7).2.2.1 ∈ fx_WS := fx_in4 (List.mem_of_getElem? (i := 148) (by rfl)) (by rfl)
theorem wF_X6_33 : Cond.fieldLink RX6 33 (TX6 8).1 (TX6 8).2.1 (TX6 8).2.2.1 ∈ fx_WS := fx_in4 (List.mem_of_getElem? (i := 149) (by rfl)) (by rfl)
theorem wF_X6_36 : Cond.fieldLink RX6 36 (TX6 9).1 (TX6 9).2.1 (TX6 9).2.2.1 ∈ fx_WS := fx_in4 (List.mem_of_getElem? (i := 150) (by rfl)) (by rfl)
theorem wF_X6_39 : Cond.fieldLink RX6 39 (TX6 10).1 (TX6 10).2.1 (TX6 10).2.2.1 ∈ fx_WS := fx_in4 (List.mem_of_getElem? (i := 151) (by rfl)) (by rfl)
theorem wF_X6_42 : Cond.fieldLink RX6 42 (TX6 11).1 (TX6 11).2.1 (TX6 11).2.2.1 ∈ fx_WS := fx_in4 (List.mem_of_getElem? (i := 152) (by rfl)) (by rfl)
theorem wF_X6_45 : Cond.fieldLink RX6 45 (TX6 12).1 (TX6 12).2.1 (TX6 12).2.2.1 ∈ fx_WS := fx_in4 (List.mem_of_getElem? (i := 153) (by rfl)) (by rfl)
theorem wF_X6_48 : Cond.fieldLink RX6 48 (TX6 13).1 (TX6 13).2.1 (TX6 13).2.2.1 ∈ fx_WS := fx_in4 (List.mem_of_getElem? (i := 154) (by rfl)) (by rfl)
theorem wF_X6_51 : Cond.fieldLink RX6 51 (TX6 14).1 (TX6 14).2.1 (TX6 14).2.2.1 ∈ fx_WS := fx_in4 (List.mem_of_getElem? (i := 155) (by rfl)) (by rfl)
theorem wF_X6_54 : Cond.fieldLink RX6 54 (TX6 15).1 (TX6 15).2.1 (TX6 15).2.2.1 ∈ fx_WS := fx_in4 (List.mem_of_getElem? (i := 156) (by rfl)) (by rfl)
theorem wF_X6_57 : Cond.fieldLink RX6 57 (TX6 16).1 (TX6 16).2.1 (TX6 16).2.2.1 ∈ fx_WS := fx_in4 (List.mem_of_getElem? (i := 157) (by rfl)) (by rfl)
theorem wF_X6_202 : Cond.fieldLink RX6 202 (TX6 17).1 (TX6 17).2.1 (TX6 17).2.2.1 ∈ fx_WS := fx_in4 (List.mem_of_getElem? (i := 158) (by rfl)) (by rfl)
theorem wF_X6_216 : Cond.fieldLink RX6 216 (TX6 18).1 (TX6 18).2.1 (TX6 18).2.2.1 ∈ fx_WS := fx_in4 (List.mem_of_getElem? (i := 159) (by rfl)) (by rfl)
theorem wF_X6_219 : Cond.fieldLink RX6 219 (TX6 19).1 (TX6 19).2.1 (TX6 19).2.2.1 ∈ fx_WS := fx_in4 (List.mem_of_getElem? (i := 160) (by rfl)) (by rfl)
theorem wF_X6_222 : Cond.fieldLink RX6 222 (TX6 20).1 (TX6 20).2.1 (TX6 20).2.2.1 ∈ fx_WS := fx_in4 (List.mem_of_getElem? (i := 161) (by rfl)) (by rfl)
theorem wF_X6_225 : Cond.fieldLink RX6 225 (TX6 21).1 (TX6 21).2.1 (TX6 21).2.2.1 ∈ fx_WS := fx_in4 (List.mem_of_getElem? (i := 162) (by rfl)) (by rfl)
theorem wF_X6_60 : Cond.fieldLink RX6 60 (TX6 22).1 (TX6 22).2.1 (TX6 22).2.2.1 ∈ fx_WS := fx_in4 (List.mem_of_getElem? (i := 163) (by rfl)) (by rfl)
theorem wF_X6_244 : Cond.fieldLink RX6 244 (TX6 23).1 (TX6 23).2.1 (TX6 23).2.2.1 ∈ fx_WS := fx_in4 (List.mem_of_getElem? (i := 164) (by rfl)) (by rfl)
theorem wF_X6_63 : Cond.fieldLink RX6 63 (TX6 24).1 (TX6 24).2.1 (TX6 24).2.2.1 ∈ fx_WS := fx_in4 (List.mem_of_getElem? (i := 165) (by rfl)) (by rfl)
theorem wM_L_17 : Cond.methodLink RL 17 yX6_thing ∈ fx_WS := fx_in4 (List.mem_of_getElem? (i := 217) (by rfl)) (by rfl)
theorem wIn_X6_thing : Cond.instanceMethod yX6_thing ∈ fx_WS := fx_in4 (List.mem_of_getElem? (i := 218) (by rfl)) (by rfl)
theorem wSel_X6_thing : Cond.selects yX6_thing.cls yX6_thing yX6_thing ∈ fx_WS := fx_in4 (List.mem_of_getElem? (i := 219) (by rfl)) (by rfl)
theorem wCo_X6_thing : Cond.code yX6_thing cX6_thing 3 (some .int) ∈ fx_WS := fx_in4 (List.mem_of_getElem? (i := 220) (by rfl)) (by rfl)
theorem wM_X6_84 : Cond.methodLink RX6 84 yX6_isThing ∈ fx_WS := fx_in4 (List.mem_of_getElem? (i := 221) (by rfl)) (by rfl)
theorem wIn_X6_isThing : Cond.instanceMethod yX6_isThing ∈ fx_WS := fx_in4 (List.mem_of_getElem? (i := 223) (by rfl)) (by rfl)
theorem wCo_X6_isThing : Cond.code yX6_isThing cX6_isThing 2 (some .boolean) ∈ fx_WS := fx_in4 (List.mem_of_getElem? (i := 224) (by rfl)) (by rfl)
theorem wM_X6_70 : Cond.methodLink RX6 70 yX6_things ∈ fx_WS := fx_in4 (List.mem_of_getElem? (i := 225) (by rfl)) (by rfl)
theorem wIn_X6_things : Cond.instanceMethod yX6_things ∈ fx_WS := fx_in4 (List.mem_of_getElem? (i := 227) (by rfl)) (by rfl)
theorem wCo_X6_things : Cond.code yX6_things cX6_things 1 (some .int) ∈ fx_WS := fx_in4 (List.mem_of_getElem? (i := 228) (by rfl)) (by rfl)
theorem wM_X6_74 : Cond.methodLink RX6 74 yX6_in ∈ fx_WS := fx_in4 (List.mem_of_getElem? (i := 229) (by rfl)) (by rfl)
theorem wSt_X6_in : Cond.static yX6_in ∈ fx_WS := fx_in4 (List.mem_of_getElem? (i := 230) (by rfl)) (by rfl)
theorem wCo_X6_in : Cond.code yX6_in cX6_in 6 (some .boolean) ∈ fx_WS := fx_in4 (List.mem_of_getElem? (i := 231) (by rfl)) (by rfl)
theorem wM_X6_88 : Cond.methodLink RX6 88 yX6_bad ∈ fx_WS := fx_in4 (List.mem_of_getElem? (i := 232) (by rfl)) (by rfl)
theorem wIn_X6_bad : Cond.instanceMethod yX6_bad ∈ fx_WS := fx_in4 (List.mem_of_getElem? (i := 234) (by rfl)) (by rfl)
theorem wCo_X6_bad : Cond.code yX6_bad cX6_bad 2 (some .int) ∈ fx_WS := fx_in4 (List.mem_of_getElem? (i := 235) (by rfl)) (by rfl)
theorem wM_X6_92 : Cond.methodLink RX6 92 yX6_full ∈ fx_WS := fx_in4 (List.mem_of_getElem? (i := 236) (by rfl)) (by rfl)
theorem wIn_X6_full : Cond.instanceMethod yX6_full ∈ fx_WS := fx_in4 (List.mem_of_getElem? (i := 238) (by rfl)) (by rfl)
theorem wCo_X6_full : Cond.code yX6_full cX6_full 1 (some .int) ∈ fx_WS := fx_in4 (List.mem_of_getElem? (i := 239) (by rfl)) (by rfl)
theorem wM_L_22 : Cond.methodLink RL 22 yX6_town ∈ fx_WS := fx_in5 (List.mem_of_getElem? (i := 0) (by rfl)) (by rfl)
theorem wIn_X6_town : Cond.instanceMethod yX6_town ∈ fx_WS := fx_in5 (List.mem_of_getElem? (i := 1) (by rfl)) (by rfl)
theorem wSel_X6_town : Cond.selects yX6_town.cls yX6_town yX6_town ∈ fx_WS := fx_in5 (List.mem_of_getElem? (i := 2) (by rfl)) (by rfl)
theorem wCo_X6_town : Cond.code yX6_town cX6_town 3 (some .int) ∈ fx_WS := fx_in5 (List.mem_of_getElem? (i := 3) (by rfl)) (by rfl)
theorem wK_X6_95 : Cond.constantLong RX6 95 (5) ∈ fx_WS := fx_in5 (List.mem_of_getElem? (i := 4) (by rfl)) (by rfl)
theorem wM_L_27 : Cond.methodLink RL 27 yX6_put ∈ fx_WS := fx_in5 (List.mem_of_getElem? (i := 5) (by rfl)) (by rfl)
theorem wIn_X6_put : Cond.instanceMethod yX6_put ∈ fx_WS := fx_in5 (List.mem_of_getElem? (i := 6) (by rfl)) (by rfl)
theorem wSel_X6_put : Cond.selects yX6_put.cls yX6_put yX6_put ∈ fx_WS := fx_in5 (List.mem_of_getElem? (i := 7) (by rfl)) (by rfl)
theorem wCo_X6_put : Cond.code yX6_put cX6_put 7 (some .int) ∈ fx_WS := fx_in5 (List.mem_of_getElem? (i := 8) (by rfl)) (by rfl)
theorem wM_X6_97 : Cond.methodLink RX6 97 yX6_isHour ∈ fx_WS := fx_in5 (List.mem_of_getElem? (i := 9) (by rfl)) (by rfl)
theorem wIn_X6_isHour : Cond.instanceMethod yX6_isHour ∈ fx_WS := fx_in5 (List.mem_of_getElem? (i := 11) (by rfl)) (by rfl)
theorem wCo_X6_isHour : Cond.code yX6_isHour cX6_isHour 2 (some .boolean) ∈ fx_WS := fx_in5 (List.mem_of_getElem? (i := 12) (by rfl)) (by rfl)
theorem wM_X6_81 : Cond.methodLink RX6 81 yX6_hours ∈ fx_WS := fx_in5 (List.mem_of_getElem? (i := 13) (by rfl)) (by rfl)
theorem wIn_X6_hours : Cond.instanceMethod yX6_hours ∈ fx_WS := fx_in5 (List.mem_of_getElem? (i := 15) (by rfl)) (by rfl)
theorem wCo_X6_hours : Cond.code yX6_hours cX6_hours 1 (some .int) ∈ fx_WS := fx_in5 (List.mem_of_getElem? (i := 16) (by rfl)) (by rfl)
theorem wK_X6_100 : Cond.constantLong RX6 100 (4) ∈ fx_WS := fx_in5 (List.mem_of_getElem? (i := 17) (by rfl)) (by rfl)
theorem wM_X6_102 : Cond.methodLink RX6 102 yX6_isOne ∈ fx_WS := fx_in5 (List.mem_of_getElem? (i := 18) (by rfl)) (by rfl)
theorem wIn_X6_isOne : Cond.instanceMethod yX6_isOne ∈ fx_WS := fx_in5 (List.mem_of_getElem? (i := 20) (by rfl)) (by rfl)
theorem wCo_X6_isOne : Cond.code yX6_isOne cX6_isOne 2 (some .boolean) ∈ fx_WS := fx_in5 (List.mem_of_getElem? (i := 21) (by rfl)) (by rfl)
theorem wM_X6_78 : Cond.methodLink RX6 78 yX6_people ∈ fx_WS := fx_in5 (List.mem_of_getElem? (i := 22) (by rfl)) (by rfl)
theorem wIn_X6_people : Cond.instanceMethod yX6_people ∈ fx_WS := fx_in5 (List.mem_of_getElem? (i := 24) (by rfl)) (by rfl)
theorem wCo_X6_people : Cond.code yX6_people cX6_people 1 (some .int) ∈ fx_WS := fx_in5 (List.mem_of_getElem? (i := 25) (by rfl)) (by rfl)
theorem wM_L_31 : Cond.methodLink RL 31 yX6_does ∈ fx_WS := fx_in5 (List.mem_of_getElem? (i := 26) (by rfl)) (by rfl)
theorem wIn_X6_does : Cond.instanceMethod yX6_does ∈ fx_WS := fx_in5 (List.mem_of_getElem? (i := 27) (by rfl)) (by rfl)
theorem wSel_X6_does : Cond.selects yX6_does.cls yX6_does yX6_does ∈ fx_WS := fx_in5 (List.mem_of_getElem? (i := 28) (by rfl)) (by rfl)
theorem wCo_X6_does : Cond.code yX6_does cX6_does 6 (some .int) ∈ fx_WS := fx_in5 (List.mem_of_getElem? (i := 29) (by rfl)) (by rfl)
theorem wM_L_36 : Cond.methodLink RL 36 yX6_undo ∈ fx_WS := fx_in5 (List.mem_of_getElem? (i := 30) (by rfl)) (by rfl)
theorem wIn_X6_undo : Cond.instanceMethod yX6_undo ∈ fx_WS := fx_in5 (List.mem_of_getElem? (i := 31) (by rfl)) (by rfl)
theorem wSel_X6_undo : Cond.selects yX6_undo.cls yX6_undo yX6_undo ∈ fx_WS := fx_in5 (List.mem_of_getElem? (i := 32) (by rfl)) (by rfl)
theorem wCo_X6_undo : Cond.code yX6_undo cX6_undo 2 (some .int) ∈ fx_WS := fx_in5 (List.mem_of_getElem? (i := 33) (by rfl)) (by rfl)
theorem wM_X6_105 : Cond.methodLink RX6 105 yX6_no ∈ fx_WS := fx_in5 (List.mem_of_getElem? (i := 34) (by rfl)) (by rfl)
theorem wIn_X6_no : Cond.instanceMethod yX6_no ∈ fx_WS := fx_in5 (List.mem_of_getElem? (i := 36) (by rfl)) (by rfl)
theorem wCo_X6_no : Cond.code yX6_no cX6_no 1 (some .int) ∈ fx_WS := fx_in5 (List.mem_of_getElem? (i := 37) (by rfl)) (by rfl)
theorem wM_L_40 : Cond.methodLink RL 40 yX6_need ∈ fx_WS := fx_in5 (List.mem_of_getElem? (i := 38) (by rfl)) (by rfl)
theorem wIn_X6_need : Cond.instanceMethod yX6_need ∈ fx_WS := fx_in5 (List.mem_of_getElem? (i := 39) (by rfl)) (by rfl)
theorem wSel_X6_need : Cond.selects yX6_need.cls yX6_need yX6_need ∈ fx_WS := fx_in5 (List.mem_of_getElem? (i := 40) (by rfl)) (by rfl)
theorem wCo_X6_need : Cond.code yX6_need cX6_need 6 (some .int) ∈ fx_WS := fx_in5 (List.mem_of_getElem? (i := 41) (by rfl)) (by rfl)
theorem wM_X6_108 : Cond.methodLink RX6 108 yX6_needsOf ∈ fx_WS := fx_in5 (List.mem_of_getElem? (i := 42) (by rfl)) (by rfl)
theorem wSt_X6_needsOf : Cond.static yX6_needsOf ∈ fx_WS := fx_in5 (List.mem_of_getElem? (i := 43) (by rfl)) (by rfl)
theorem wCo_X6_needsOf : Cond.code yX6_needsOf cX6_needsOf 4 (some .int) ∈ fx_WS := fx_in5 (List.mem_of_getElem? (i := 44) (by rfl)) (by rfl)
theorem wM_L_59 : Cond.methodLink RL 59 yX6_at ∈ fx_WS := fx_in5 (List.mem_of_getElem? (i := 45) (by rfl)) (by rfl)
theorem wIn_X6_at : Cond.instanceMethod yX6_at ∈ fx_WS := fx_in5 (List.mem_of_getElem? (i := 46) (by rfl)) (by rfl)
theorem wSel_X6_at : Cond.selects yX6_at.cls yX6_at yX6_at ∈ fx_WS := fx_in5 (List.mem_of_getElem? (i := 47) (by rfl)) (by rfl)
theorem wCo_X6_at : Cond.code yX6_at cX6_at 2 (some .int) ∈ fx_WS := fx_in5 (List.mem_of_getElem? (i := 48) (by rfl)) (by rfl)
theorem wM_X6_119 : Cond.methodLink RX6 119 yX6_layNow ∈ fx_WS := fx_in5 (List.mem_of_getElem? (i := 49) (by rfl)) (by rfl)
theorem wIn_X6_layNow : Cond.instanceMethod yX6_layNow ∈ fx_WS := fx_in5 (List.mem_of_getElem? (i := 51) (by rfl)) (by rfl)
theorem wCo_X6_layNow : Cond.code yX6_layNow cX6_layNow 1 none ∈ fx_WS := fx_in5 (List.mem_of_getElem? (i := 52) (by rfl)) (by rfl)
theorem wM_X6_115 : Cond.methodLink RX6 115 yX6_layLine ∈ fx_WS := fx_in5 (List.mem_of_getElem? (i := 53) (by rfl)) (by rfl)
theorem wIn_X6_layLine : Cond.instanceMethod yX6_layLine ∈ fx_WS := fx_in5 (List.mem_of_getElem? (i := 55) (by rfl)) (by rfl)
theorem wCo_X6_layLine : Cond.code yX6_layLine cX6_layLine 6 none ∈ fx_WS := fx_in5 (List.mem_of_getElem? (i := 56) (by rfl)) (by rfl)
theorem wM_X6_112 : Cond.methodLink RX6 112 yX6_depth ∈ fx_WS := fx_in5 (List.mem_of_getElem? (i := 57) (by rfl)) (by rfl)
theorem wIn_X6_depth : Cond.instanceMethod yX6_depth ∈ fx_WS := fx_in5 (List.mem_of_getElem? (i := 59) (by rfl)) (by rfl)
theorem wCo_X6_depth : Cond.code yX6_depth cX6_depth 4 (some .int) ∈ fx_WS := fx_in5 (List.mem_of_getElem? (i := 60) (by rfl)) (by rfl)
theorem wM_L_63 : Cond.methodLink RL 63 yX6_pays ∈ fx_WS := fx_in5 (List.mem_of_getElem? (i := 61) (by rfl)) (by rfl)
theorem wIn_X6_pays : Cond.instanceMethod yX6_pays ∈ fx_WS := fx_in5 (List.mem_of_getElem? (i := 62) (by rfl)) (by rfl)
theorem wSel_X6_pays : Cond.selects yX6_pays.cls yX6_pays yX6_pays ∈ fx_WS := fx_in5 (List.mem_of_getElem? (i := 63) (by rfl)) (by rfl)
theorem wCo_X6_pays : Cond.code yX6_pays cX6_pays 3 (some .int) ∈ fx_WS := fx_in5 (List.mem_of_getElem? (i := 64) (by rfl)) (by rfl)
theorem wM_X6_140 : Cond.methodLink RX6 140 yX6_takeDone ∈ fx_WS := fx_in5 (List.mem_of_getElem? (i := 65) (by rfl)) (by rfl)
theorem wIn_X6_takeDone : Cond.instanceMethod yX6_takeDone ∈ fx_WS := fx_in5 (List.mem_of_getElem? (i := 67) (by rfl)) (by rfl)
theorem wCo_X6_takeDone : Cond.code yX6_takeDone cX6_takeDone 2 none ∈ fx_WS := fx_in5 (List.mem_of_getElem? (i := 68) (by rfl)) (by rfl)
theorem wM_X6_134 : Cond.methodLink RX6 134 yX6_paysOf ∈ fx_WS := fx_in5 (List.mem_of_getElem? (i := 69) (by rfl)) (by rfl)
theorem wIn_X6_paysOf : Cond.instanceMethod yX6_paysOf ∈ fx_WS := fx_in5 (List.mem_of_getElem? (i := 71) (by rfl)) (by rfl)
theorem wCo_X6_paysOf : Cond.code yX6_paysOf cX6_paysOf 10 (some .int) ∈ fx_WS := fx_in5 (List.mem_of_getElem? (i := 72) (by rfl)) (by rfl)
theorem wM_X6_122 : Cond.methodLink RX6 122 yX6_doing ∈ fx_WS := fx_in5 (List.mem_of_getElem? (i := 73) (by rfl)) (by rfl)
theorem wIn_X6_doing : Cond.instanceMethod yX6_doing ∈ fx_WS := fx_in5 (List.mem_of_getElem? (i := 75) (by rfl)) (by rfl)
theorem wCo_X6_doing : Cond.code yX6_doing cX6_doing 3 (some .int) ∈ fx_WS := fx_in5 (List.mem_of_getElem? (i := 76) (by rfl)) (by rfl)
theorem wM_X6_126 : Cond.methodLink RX6 126 yX6_isWith ∈ fx_WS := fx_in5 (List.mem_of_getElem? (i := 77) (by rfl)) (by rfl)
theorem wIn_X6_isWith : Cond.instanceMethod yX6_isWith ∈ fx_WS := fx_in5 (List.mem_of_getElem? (i := 79) (by rfl)) (by rfl)
theorem wCo_X6_isWith : Cond.code yX6_isWith cX6_isWith 7 (some .boolean) ∈ fx_WS := fx_in5 (List.mem_of_getElem? (i := 80) (by rfl)) (by rfl)
theorem wM_X6_130 : Cond.methodLink RX6 130 yX6_wasDone ∈ fx_WS := fx_in5 (List.mem_of_getElem? (i := 81) (by rfl)) (by rfl)
theorem wIn_X6_wasDone : Cond.instanceMethod yX6_wasDone ∈ fx_WS := fx_in5 (List.mem_of_getElem? (i := 83) (by rfl)) (by rfl)
theorem wCo_X6_wasDone : Cond.code yX6_wasDone cX6_wasDone 6 (some .boolean) ∈ fx_WS := fx_in5 (List.mem_of_getElem? (i := 84) (by rfl)) (by rfl)
theorem wM_L_67 : Cond.methodLink RL 67 yX6_all ∈ fx_WS := fx_in5 (List.mem_of_getElem? (i := 85) (by rfl)) (by rfl)
theorem wIn_X6_all : Cond.instanceMethod yX6_all ∈ fx_WS := fx_in5 (List.mem_of_getElem? (i := 86) (by rfl)) (by rfl)
theorem wSel_X6_all : Cond.selects yX6_all.cls yX6_all yX6_all ∈ fx_WS := fx_in5 (List.mem_of_getElem? (i := 87) (by rfl)) (by rfl)
theorem wCo_X6_all : Cond.code yX6_all cX6_all 1 (some .int) ∈ fx_WS := fx_in5 (List.mem_of_getElem? (i := 88) (by rfl)) (by rfl)
theorem wM_X6_143 : Cond.methodLink RX6 143 yX6_allIn ∈ fx_WS := fx_in5 (List.mem_of_getElem? (i := 89) (by rfl)) (by rfl)
theorem wIn_X6_allIn : Cond.instanceMethod yX6_allIn ∈ fx_WS := fx_in5 (List.mem_of_getElem? (i := 91) (by rfl)) (by rfl)
theorem wCo_X6_allIn : Cond.code yX6_allIn cX6_allIn 4 (some .int) ∈ fx_WS := fx_in5 (List.mem_of_getElem? (i := 92) (by rfl)) (by rfl)
theorem wM_X6_137 : Cond.methodLink RX6 137 yX6_paysIn ∈ fx_WS := fx_in5 (List.mem_of_getElem? (i := 93) (by rfl)) (by rfl)
theorem wIn_X6_paysIn : Cond.instanceMethod yX6_paysIn ∈ fx_WS := fx_in5 (List.mem_of_getElem? (i := 95) (by rfl)) (by rfl)
theorem wCo_X6_paysIn : Cond.code yX6_paysIn cX6_paysIn 5 (some .int) ∈ fx_WS := fx_in5 (List.mem_of_getElem? (i := 96) (by rfl)) (by rfl)
theorem wM_L_71 : Cond.methodLink RL 71 yX6_least ∈ fx_WS := fx_in5 (List.mem_of_getElem? (i := 97) (by rfl)) (by rfl)
theorem wIn_X6_least : Cond.instanceMethod yX6_least ∈ fx_WS := fx_in5 (List.mem_of_getElem? (i := 98) (by rfl)) (by rfl)
theorem wSel_X6_least : Cond.selects yX6_least.cls yX6_least yX6_least ∈ fx_WS := fx_in5 (List.mem_of_getElem? (i := 99) (by rfl)) (by rfl)
theorem wCo_X6_least : Cond.code yX6_least cX6_least 6 (some .int) ∈ fx_WS := fx_in5 (List.mem_of_getElem? (i := 100) (by rfl)) (by rfl)
theorem wM_X6_167 : Cond.methodLink RX6 167 yX6_findAllRows ∈ fx_WS := fx_in5 (List.mem_of_getElem? (i := 101) (by rfl)) (by rfl)
theorem wIn_X6_findAllRows : Cond.instanceMethod yX6_findAllRows ∈ fx_WS := fx_in5 (List.mem_of_getElem? (i := 103) (by rfl)) (by rfl)
theorem wCo_X6_findAllRows : Cond.code yX6_findAllRows cX6_findAllRows 3 none ∈ fx_WS := fx_in5 (List.mem_of_getElem? (i := 104) (by rfl)) (by rfl)
theorem wM_X6_152 : Cond.methodLink RX6 152 yX6_findRows ∈ fx_WS := fx_in5 (List.mem_of_getElem? (i := 105) (by rfl)) (by rfl)
theorem wIn_X6_findRows : Cond.instanceMethod yX6_findRows ∈ fx_WS := fx_in5 (List.mem_of_getElem? (i := 107) (by rfl)) (by rfl)
theorem wCo_X6_findRows : Cond.code yX6_findRows cX6_findRows 4 none ∈ fx_WS := fx_in5 (List.mem_of_getElem? (i := 108) (by rfl)) (by rfl)
theorem wM_X6_146 : Cond.methodLink RX6 146 yX6_takeNeeds ∈ fx_WS := fx_in5 (List.mem_of_getElem? (i := 109) (by rfl)) (by rfl)
theorem wIn_X6_takeNeeds : Cond.instanceMethod yX6_takeNeeds ∈ fx_WS := fx_in5 (List.mem_of_getElem? (i := 111) (by rfl)) (by rfl)
theorem wCo_X6_takeNeeds : Cond.code yX6_takeNeeds cX6_takeNeeds 5 none ∈ fx_WS := fx_in5 (List.mem_of_getElem? (i := 112) (by rfl)) (by rfl)
theorem wM_X6_149 : Cond.methodLink RX6 149 yX6_keepRow ∈ fx_WS := fx_in5 (List.mem_of_getElem? (i := 113) (by rfl)) (by rfl)
theorem wIn_X6_keepRow : Cond.instanceMethod yX6_keepRow ∈ fx_WS := fx_in5 (List.mem_of_getElem? (i := 115) (by rfl)) (by rfl)
theorem wCo_X6_keepRow : Cond.code yX6_keepRow cX6_keepRow 5 none ∈ fx_WS := fx_in5 (List.mem_of_getElem? (i := 116) (by rfl)) (by rfl)
theorem wM_X6_159 : Cond.methodLink RX6 159 yX6_ways ∈ fx_WS := fx_in5 (List.mem_of_getElem? (i := 117) (by rfl)) (by rfl)
theorem wIn_X6_ways : Cond.instanceMethod yX6_ways ∈ fx_WS := fx_in5 (List.mem_of_getElem? (i := 119) (by rfl)) (by rfl)
theorem wCo_X6_ways : Cond.code yX6_ways cX6_ways 4 (some .long) ∈ fx_WS := fx_in5 (List.mem_of_getElem? (i := 120) (by rfl)) (by rfl)
theorem wK_X6_171 : Cond.constantLong RX6 171 (50000) ∈ fx_WS := fx_in5 (List.mem_of_getElem? (i := 121) (by rfl)) (by rfl)
theorem wM_X6_173 : Cond.methodLink RX6 173 yX6_findLeast ∈ fx_WS := fx_in5 (List.mem_of_getElem? (i := 122) (by rfl)) (by rfl)
theorem wIn_X6_findLeast : Cond.instanceMethod yX6_findLeast ∈ fx_WS := fx_in5 (List.mem_of_getElem? (i := 124) (by rfl)) (by rfl)
theorem wCo_X6_findLeast : Cond.code yX6_findLeast cX6_findLeast 11 (some .int) ∈ fx_WS := fx_in5 (List.mem_of_getElem? (i := 125) (by rfl)) (by rfl)
theorem wM_X6_155 : Cond.methodLink RX6 155 yX6_takeNothing ∈ fx_WS := fx_in5 (List.mem_of_getElem? (i := 126) (by rfl)) (by rfl)
theorem wIn_X6_takeNothing : Cond.instanceMethod yX6_takeNothing ∈ fx_WS := fx_in5 (List.mem_of_getElem? (i := 128) (by rfl)) (by rfl)
theorem wCo_X6_takeNothing : Cond.code yX6_takeNothing cX6_takeNothing 2 none ∈ fx_WS := fx_in5 (List.mem_of_getElem? (i := 129) (by rfl)) (by rfl)
theorem wK_X6_158 : Cond.constant RX6 158 (1000000) ∈ fx_WS := fx_in5 (List.mem_of_getElem? (i := 130) (by rfl)) (by rfl)
theorem wM_X6_163 : Cond.methodLink RX6 163 yX6_takeRow ∈ fx_WS := fx_in5 (List.mem_of_getElem? (i := 131) (by rfl)) (by rfl)
theorem wIn_X6_takeRow : Cond.instanceMethod yX6_takeRow ∈ fx_WS := fx_in5 (List.mem_of_getElem? (i := 133) (by rfl)) (by rfl)
theorem wCo_X6_takeRow : Cond.code yX6_takeRow cX6_takeRow 5 none ∈ fx_WS := fx_in5 (List.mem_of_getElem? (i := 134) (by rfl)) (by rfl)
theorem wM_L_75 : Cond.methodLink RL 75 yX6_fewest ∈ fx_WS := fx_in5 (List.mem_of_getElem? (i := 135) (by rfl)) (by rfl)
theorem wIn_X6_fewest : Cond.instanceMethod yX6_fewest ∈ fx_WS := fx_in5 (List.mem_of_getElem? (i := 136) (by rfl)) (by rfl)
theorem wSel_X6_fewest : Cond.selects yX6_fewest.cls yX6_fewest yX6_fewest ∈ fx_WS := fx_in5 (List.mem_of_getElem? (i := 137) (by rfl)) (by rfl)
theorem wCo_X6_fewest : Cond.code yX6_fewest cX6_fewest 2 (some .int) ∈ fx_WS := fx_in5 (List.mem_of_getElem? (i := 138) (by rfl)) (by rfl)
theorem wM_L_79 : Cond.methodLink RL 79 yX6_list ∈ fx_WS := fx_in5 (List.mem_of_getElem? (i := 139) (by rfl)) (by rfl)
theorem wIn_X6_list : Cond.instanceMethod yX6_list ∈ fx_WS := fx_in5 (List.mem_of_getElem? (i := 140) (by rfl)) (by rfl)
theorem wSel_X6_list : Cond.selects yX6_list.cls yX6_list yX6_list ∈ fx_WS := fx_in5 (List.mem_of_getElem? (i := 141) (by rfl)) (by rfl)
theorem wCo_X6_list : Cond.code yX6_list cX6_list 7 (some .int) ∈ fx_WS := fx_in5 (List.mem_of_getElem? (i := 142) (by rfl)) (by rfl)
theorem wM_X6_179 : Cond.methodLink RX6 179 yX6_layOrder ∈ fx_WS := fx_in5 (List.mem_of_getElem? (i := 143) (by rfl)) (by rfl)
theorem wIn_X6_layOrder : Cond.instanceMethod yX6_layOrder ∈ fx_WS := fx_in5 (List.mem_of_getElem? (i := 145) (by rfl)) (by rfl)
theorem wCo_X6_layOrder : Cond.code yX6_layOrder cX6_layOrder 6 (some .boolean) ∈ fx_WS := fx_in5 (List.mem_of_getElem? (i := 146) (by rfl)) (by rfl)
theorem wM_X6_182 : Cond.methodLink RX6 182 yX6_listed ∈ fx_WS := fx_in5 (List.mem_of_getElem? (i := 147) (by rfl)) (by rfl)
theorem wIn_X6_listed : Cond.instanceMethod yX6_listed ∈ fx_WS := fx_in5 (List.mem_of_getElem? (i := 149) (by rfl)) (by rfl)
theorem wCo_X6_listed : Cond.code yX6_listed cX6_listed 3 (some .int) ∈ fx_WS := fx_in5 (List.mem_of_getElem? (i := 150) (by rfl)) (by rfl)
theorem wM_X6_176 : Cond.methodLink RX6 176 yX6_takeBest ∈ fx_WS := fx_in5 (List.mem_of_getElem? (i := 151) (by rfl)) (by rfl)
theorem wIn_X6_takeBest : Cond.instanceMethod yX6_takeBest ∈ fx_WS := fx_in5 (List.mem_of_getElem? (i := 153) (by rfl)) (by rfl)
theorem wCo_X6_takeBest : Cond.code yX6_takeBest cX6_takeBest 6 (some .int) ∈ fx_WS := fx_in5 (List.mem_of_getElem? (i := 154) (by rfl)) (by rfl)
theorem wM_L_83 : Cond.methodLink RL 83 yX6_rests ∈ fx_WS := fx_in5 (List.mem_of_getElem? (i := 155) (by rfl)) (by rfl)
theorem wIn_X6_rests : Cond.instanceMethod yX6_rests ∈ fx_WS := fx_in5 (List.mem_of_getElem? (i := 156) (by rfl)) (by rfl)
theorem wSel_X6_rests : Cond.selects yX6_rests.cls yX6_rests yX6_rests ∈ fx_WS := fx_in5 (List.mem_of_getElem? (i := 157) (by rfl)) (by rfl)
theorem wCo_X6_rests : Cond.code yX6_rests cX6_rests 6 (some .int) ∈ fx_WS := fx_in5 (List.mem_of_getElem? (i := 158) (by rfl)) (by rfl)
theorem wM_X6_185 : Cond.methodLink RX6 185 yX6_changes ∈ fx_WS := fx_in5 (List.mem_of_getElem? (i := 159) (by rfl)) (by rfl)
theorem wIn_X6_changes : Cond.instanceMethod yX6_changes ∈ fx_WS := fx_in5 (List.mem_of_getElem? (i := 161) (by rfl)) (by rfl)
theorem wCo_X6_changes : Cond.code yX6_changes cX6_changes 4 (some .boolean) ∈ fx_WS := fx_in5 (List.mem_of_getElem? (i := 162) (by rfl)) (by rfl)
theorem wM_L_87 : Cond.methodLink RL 87 yX6_better ∈ fx_WS := fx_in5 (List.mem_of_getElem? (i := 163) (by rfl)) (by rfl)
theorem wIn_X6_better : Cond.instanceMethod yX6_better ∈ fx_WS := fx_in5 (List.mem_of_getElem? (i := 164) (by rfl)) (by rfl)
theorem wSel_X6_better : Cond.selects yX6_better.cls yX6_better yX6_better ∈ fx_WS := fx_in5 (List.mem_of_getElem? (i := 165) (by rfl)) (by rfl)
theorem wCo_X6_better : Cond.code yX6_better cX6_better 7 (some .int) ∈ fx_WS := fx_in5 (List.mem_of_getElem? (i := 166) (by rfl)) (by rfl)
theorem wM_L_91 : Cond.methodLink RL 91 yX6_name ∈ fx_WS := fx_in5 (List.mem_of_getElem? (i := 167) (by rfl)) (by rfl)
theorem wIn_X6_name : Cond.instanceMethod yX6_name ∈ fx_WS := fx_in5 (List.mem_of_getElem? (i := 168) (by rfl)) (by rfl)
theorem wSel_X6_name : Cond.selects yX6_name.cls yX6_name yX6_name ∈ fx_WS := fx_in5 (List.mem_of_getElem? (i := 169) (by rfl)) (by rfl)
theorem wCo_X6_name : Cond.code yX6_name cX6_name 3 (some .int) ∈ fx_WS := fx_in5 (List.mem_of_getElem? (i := 170) (by rfl)) (by rfl)
theorem wM_L_95 : Cond.methodLink RL 95 yX6_line ∈ fx_WS := fx_in5 (List.mem_of_getElem? (i := 171) (by rfl)) (by rfl)
theorem wIn_X6_line : Cond.instanceMethod yX6_line ∈ fx_WS := fx_in5 (List.mem_of_getElem? (i := 172) (by rfl)) (by rfl)
theorem wSel_X6_line : Cond.selects yX6_line.cls yX6_line yX6_line ∈ fx_WS := fx_in5 (List.mem_of_getElem? (i := 173) (by rfl)) (by rfl)
theorem wCo_X6_line : Cond.code yX6_line cX6_line 6 (some .int) ∈ fx_WS := fx_in5 (List.mem_of_getElem? (i := 174) (by rfl)) (by rfl)
theorem wM_L_99 : Cond.methodLink RL 99 yX6_choir ∈ fx_WS := fx_in5 (List.mem_of_getElem? (i := 175) (by rfl)) (by rfl)
theorem wIn_X6_choir : Cond.instanceMethod yX6_choir ∈ fx_WS := fx_in5 (List.mem_of_getElem? (i := 176) (by rfl)) (by rfl)
theorem wSel_X6_choir : Cond.selects yX6_choir.cls yX6_choir yX6_choir ∈ fx_WS := fx_in5 (List.mem_of_getElem? (i := 177) (by rfl)) (by rfl)
theorem wCo_X6_choir : Cond.code yX6_choir cX6_choir 7 (some .int) ∈ fx_WS := fx_in5 (List.mem_of_getElem? (i := 178) (by rfl)) (by rfl)
theorem wM_L_103 : Cond.methodLink RL 103 yX6_told ∈ fx_WS := fx_in5 (List.mem_of_getElem? (i := 179) (by rfl)) (by rfl)
theorem wIn_X6_told : Cond.instanceMethod yX6_told ∈ fx_WS := fx_in5 (List.mem_of_getElem? (i := 180) (by rfl)) (by rfl)
theorem wSel_X6_told : Cond.selects yX6_told.cls yX6_told yX6_told ∈ fx_WS := fx_in5 (List.mem_of_getElem? (i := 181) (by rfl)) (by rfl)
theorem wCo_X6_told : Cond.code yX6_told cX6_told 4 (some .int) ∈ fx_WS := fx_in5 (List.mem_of_getElem? (i := 182) (by rfl)) (by rfl)
theorem wK_X6_188 : Cond.constantLong RX6 188 (40) ∈ fx_WS := fx_in5 (List.mem_of_getElem? (i := 183) (by rfl)) (by rfl)
theorem wM_L_107 : Cond.methodLink RL 107 yX6_did ∈ fx_WS := fx_in5 (List.mem_of_getElem? (i := 184) (by rfl)) (by rfl)
theorem wIn_X6_did : Cond.instanceMethod yX6_did ∈ fx_WS := fx_in5 (List.mem_of_getElem? (i := 185) (by rfl)) (by rfl)
theorem wSel_X6_did : Cond.selects yX6_did.cls yX6_did yX6_did ∈ fx_WS := fx_in5 (List.mem_of_getElem? (i := 186) (by rfl)) (by rfl)
theorem wCo_X6_did : Cond.code yX6_did cX6_did 10 (some .int) ∈ fx_WS := fx_in5 (List.mem_of_getElem? (i := 187) (by rfl)) (by rfl)
theorem wM_X6_190 : Cond.methodLink RX6 190 yX6_pay ∈ fx_WS := fx_in5 (List.mem_of_getElem? (i := 188) (by rfl)) (by rfl)
theorem wIn_X6_pay : Cond.instanceMethod yX6_pay ∈ fx_WS := fx_in5 (List.mem_of_getElem? (i := 190) (by rfl)) (by rfl)
theorem wCo_X6_pay : Cond.code yX6_pay cX6_pay 4 (some .boolean) ∈ fx_WS := fx_in5 (List.mem_of_getElem? (i := 191) (by rfl)) (by rfl)
theorem wM_L_111 : Cond.methodLink RL 111 yX6_copied ∈ fx_WS := fx_in5 (List.mem_of_getElem? (i := 192) (by rfl)) (by rfl)
theorem wIn_X6_copied : Cond.instanceMethod yX6_copied ∈ fx_WS := fx_in5 (List.mem_of_getElem? (i := 193) (by rfl)) (by rfl)
theorem wSel_X6_copied : Cond.selects yX6_copied.cls yX6_copied yX6_copied ∈ fx_WS := fx_in5 (List.mem_of_getElem? (i := 194) (by rfl)) (by rfl)
theorem wCo_X6_copied : Cond.code yX6_copied cX6_copied 8 (some .int) ∈ fx_WS := fx_in5 (List.mem_of_getElem? (i := 195) (by rfl)) (by rfl)
theorem wM_L_115 : Cond.methodLink RL 115 yX6_crowd ∈ fx_WS := fx_in5 (List.mem_of_getElem? (i := 196) (by rfl)) (by rfl)
theorem wIn_X6_crowd : Cond.instanceMethod yX6_crowd ∈ fx_WS := fx_in5 (List.mem_of_getElem? (i := 197) (by rfl)) (by rfl)
theorem wSel_X6_crowd : Cond.selects yX6_crowd.cls yX6_crowd yX6_crowd ∈ fx_WS := fx_in5 (List.mem_of_getElem? (i := 198) (by rfl)) (by rfl)
theorem wCo_X6_crowd : Cond.code yX6_crowd cX6_crowd 16 (some .int) ∈ fx_WS := fx_in5 (List.mem_of_getElem? (i := 199) (by rfl)) (by rfl)
theorem wK_X6_193 : Cond.constantLong RX6 193 (18) ∈ fx_WS := fx_in5 (List.mem_of_getElem? (i := 200) (by rfl)) (by rfl)
theorem wK_X6_195 : Cond.constantLong RX6 195 (9) ∈ fx_WS := fx_in5 (List.mem_of_getElem? (i := 201) (by rfl)) (by rfl)
theorem wM_L_47 : Cond.methodLink RL 47 yX6_type ∈ fx_WS := fx_in5 (List.mem_of_getElem? (i := 202) (by rfl)) (by rfl)
theorem wIn_X6_type : Cond.instanceMethod yX6_type ∈ fx_WS := fx_in5 (List.mem_of_getElem? (i := 203) (by rfl)) (by rfl)
theorem wSel_X6_type : Cond.selects yX6_type.cls yX6_type yX6_type ∈ fx_WS := fx_in5 (List.mem_of_getElem? (i := 204) (by rfl)) (by rfl)
theorem wCo_X6_type : Cond.code yX6_type cX6_type 5 (some .int) ∈ fx_WS := fx_in5 (List.mem_of_getElem? (i := 205) (by rfl)) (by rfl)
theorem wK_X6_200 : Cond.constantLong RX6 200 (8) ∈ fx_WS := fx_in5 (List.mem_of_getElem? (i := 206) (by rfl)) (by rfl)
theorem wK_X6_206 : Cond.constantLong RX6 206 (255) ∈ fx_WS := fx_in5 (List.mem_of_getElem? (i := 207) (by rfl)) (by rfl)
theorem wM_L_51 : Cond.methodLink RL 51 yX6_clear ∈ fx_WS := fx_in5 (List.mem_of_getElem? (i := 208) (by rfl)) (by rfl)
theorem wIn_X6_clear : Cond.instanceMethod yX6_clear ∈ fx_WS := fx_in5 (List.mem_of_getElem? (i := 209) (by rfl)) (by rfl)
theorem wSel_X6_clear : Cond.selects yX6_clear.cls yX6_clear yX6_clear ∈ fx_WS := fx_in5 (List.mem_of_getElem? (i := 210) (by rfl)) (by rfl)
theorem wCo_X6_clear : Cond.code yX6_clear cX6_clear 2 (some .int) ∈ fx_WS := fx_in5 (List.mem_of_getElem? (i := 211) (by rfl)) (by rfl)
theorem wM_L_55 : Cond.methodLink RL 55 yX6_read ∈ fx_WS := fx_in5 (List.mem_of_getElem? (i := 212) (by rfl)) (by rfl)
theorem wIn_X6_read : Cond.instanceMethod yX6_read ∈ fx_WS := fx_in5 (List.mem_of_getElem? (i := 213) (by rfl)) (by rfl)
theorem wSel_X6_read : Cond.selects yX6_read.cls yX6_read yX6_read ∈ fx_WS := fx_in5 (List.mem_of_getElem? (i := 214) (by rfl)) (by rfl)
theorem wCo_X6_read : Cond.code yX6_read cX6_read 3 (some .int) ∈ fx_WS := fx_in5 (List.mem_of_getElem? (i := 215) (by rfl)) (by rfl)
theorem wM_X6_234 : Cond.methodLink RX6 234 yX6_look ∈ fx_WS := fx_in5 (List.mem_of_getElem? (i := 216) (by rfl)) (by rfl)
theorem wIn_X6_look : Cond.instanceMethod yX6_look ∈ fx_WS := fx_in5 (List.mem_of_getElem? (i := 218) (by rfl)) (by rfl)
theorem wCo_X6_look : Cond.code yX6_look cX6_look 5 none ∈ fx_WS := fx_in5 (List.mem_of_getElem? (i := 219) (by rfl)) (by rfl)
theorem wM_X6_228 : Cond.methodLink RX6 228 yX6_isSmall ∈ fx_WS := fx_in5 (List.mem_of_getElem? (i := 220) (by rfl)) (by rfl)
theorem wSt_X6_isSmall : Cond.static yX6_isSmall ∈ fx_WS := fx_in5 (List.mem_of_getElem? (i := 221) (by rfl)) (by rfl)
theorem wCo_X6_isSmall : Cond.code yX6_isSmall cX6_isSmall 1 (some .boolean) ∈ fx_WS := fx_in5 (List.mem_of_getElem? (i := 222) (by rfl)) (by rfl)
theorem wK_X6_208 : Cond.constantLong RX6 208 (97) ∈ fx_WS := fx_in5 (List.mem_of_getElem? (i := 223) (by rfl)) (by rfl)
theorem wK_X6_210 : Cond.constantLong RX6 210 (122) ∈ fx_WS := fx_in5 (List.mem_of_getElem? (i := 224) (by rfl)) (by rfl)
theorem wM_X6_231 : Cond.methodLink RX6 231 yX6_isFigure ∈ fx_WS := fx_in5 (List.mem_of_getElem? (i := 225) (by rfl)) (by rfl)
theorem wSt_X6_isFigure : Cond.static yX6_isFigure ∈ fx_WS := fx_in5 (List.mem_of_getElem? (i := 226) (by rfl)) (by rfl)
theorem wCo_X6_isFigure : Cond.code yX6_isFigure cX6_isFigure 1 (some .boolean) ∈ fx_WS := fx_in5 (List.mem_of_getElem? (i := 227) (by rfl)) (by rfl)
theorem wK_X6_212 : Cond.constantLong RX6 212 (48) ∈ fx_WS := fx_in5 (List.mem_of_getElem? (i := 228) (by rfl)) (by rfl)
theorem wK_X6_214 : Cond.constantLong RX6 214 (57) ∈ fx_WS := fx_in5 (List.mem_of_getElem? (i := 229) (by rfl)) (by rfl)
theorem wM_X6_268 : Cond.methodLink RX6 268 yX6_readsItem ∈ fx_WS := fx_in5 (List.mem_of_getElem? (i := 230) (by rfl)) (by rfl)
theorem wIn_X6_readsItem : Cond.instanceMethod yX6_readsItem ∈ fx_WS := fx_in5 (List.mem_of_getElem? (i := 232) (by rfl)) (by rfl)
theorem wCo_X6_readsItem : Cond.code yX6_readsItem cX6_readsItem 3 (some .boolean) ∈ fx_WS := fx_in5 (List.mem_of_getElem? (i := 233) (by rfl)) (by rfl)
theorem wM_X6_248 : Cond.methodLink RX6 248 yX6_isWord ∈ fx_WS := fx_in5 (List.mem_of_getElem? (i := 234) (by rfl)) (by rfl)
theorem wIn_X6_isWord : Cond.instanceMethod yX6_isWord ∈ fx_WS := fx_in5 (List.mem_of_getElem? (i := 236) (by rfl)) (by rfl)
theorem wCo_X6_isWord : Cond.code yX6_isWord cX6_isWord 10 (some .boolean) ∈ fx_WS := fx_in5 (List.mem_of_getElem? (i := 237) (by rfl)) (by rfl)
theorem wM_X6_252 : Cond.methodLink RX6 252 yX6_readsThing ∈ fx_WS := fx_in5 (List.mem_of_getElem? (i := 238) (by rfl)) (by rfl)
theorem wIn_X6_readsThing : Cond.instanceMethod yX6_readsThing ∈ fx_WS := fx_in6 (List.mem_of_getElem? (i := 0) (by rfl)) (by rfl)
theorem wCo_X6_readsThing : Cond.code yX6_readsThing cX6_readsThing 2 (some .boolean) ∈ fx_WS := fx_in6 (List.mem_of_getElem? (i := 1) (by rfl)) (by rfl)
theorem wM_X6_237 : Cond.methodLink RX6 237 yX6_goOn ∈ fx_WS := fx_in6 (List.mem_of_getElem? (i := 2) (by rfl)) (by rfl)
theorem wIn_X6_goOn : Cond.instanceMethod yX6_goOn ∈ fx_WS := fx_in6 (List.mem_of_getElem? (i := 4) (by rfl)) (by rfl)
theorem wCo_X6_goOn : Cond.code yX6_goOn cX6_goOn 1 none ∈ fx_WS := fx_in6 (List.mem_of_getElem? (i := 5) (by rfl)) (by rfl)
theorem wM_X6_240 : Cond.methodLink RX6 240 yX6_takes ∈ fx_WS := fx_in6 (List.mem_of_getElem? (i := 6) (by rfl)) (by rfl)
theorem wIn_X6_takes : Cond.instanceMethod yX6_takes ∈ fx_WS := fx_in6 (List.mem_of_getElem? (i := 8) (by rfl)) (by rfl)
theorem wCo_X6_takes : Cond.code yX6_takes cX6_takes 4 (some .boolean) ∈ fx_WS := fx_in6 (List.mem_of_getElem? (i := 9) (by rfl)) (by rfl)
theorem wM_X6_256 : Cond.methodLink RX6 256 yX6_readsSize ∈ fx_WS := fx_in6 (List.mem_of_getElem? (i := 10) (by rfl)) (by rfl)
theorem wIn_X6_readsSize : Cond.instanceMethod yX6_readsSize ∈ fx_WS := fx_in6 (List.mem_of_getElem? (i := 12) (by rfl)) (by rfl)
theorem wCo_X6_readsSize : Cond.code yX6_readsSize cX6_readsSize 3 (some .boolean) ∈ fx_WS := fx_in6 (List.mem_of_getElem? (i := 13) (by rfl)) (by rfl)
theorem wM_X6_259 : Cond.methodLink RX6 259 yX6_readsHour ∈ fx_WS := fx_in6 (List.mem_of_getElem? (i := 14) (by rfl)) (by rfl)
theorem wIn_X6_readsHour : Cond.instanceMethod yX6_readsHour ∈ fx_WS := fx_in6 (List.mem_of_getElem? (i := 16) (by rfl)) (by rfl)
theorem wCo_X6_readsHour : Cond.code yX6_readsHour cX6_readsHour 1 (some .boolean) ∈ fx_WS := fx_in6 (List.mem_of_getElem? (i := 17) (by rfl)) (by rfl)
theorem wM_X6_262 : Cond.methodLink RX6 262 yX6_readsDoes ∈ fx_WS := fx_in6 (List.mem_of_getElem? (i := 18) (by rfl)) (by rfl)
theorem wIn_X6_readsDoes : Cond.instanceMethod yX6_readsDoes ∈ fx_WS := fx_in6 (List.mem_of_getElem? (i := 20) (by rfl)) (by rfl)
theorem wCo_X6_readsDoes : Cond.code yX6_readsDoes cX6_readsDoes 1 (some .boolean) ∈ fx_WS := fx_in6 (List.mem_of_getElem? (i := 21) (by rfl)) (by rfl)
theorem wM_X6_265 : Cond.methodLink RX6 265 yX6_readsNeed ∈ fx_WS := fx_in6 (List.mem_of_getElem? (i := 22) (by rfl)) (by rfl)
theorem wIn_X6_readsNeed : Cond.instanceMethod yX6_readsNeed ∈ fx_WS := fx_in6 (List.mem_of_getElem? (i := 24) (by rfl)) (by rfl)
theorem wCo_X6_readsNeed : Cond.code yX6_readsNeed cX6_readsNeed 3 (some .boolean) ∈ fx_WS := fx_in6 (List.mem_of_getElem? (i := 25) (by rfl)) (by rfl)
theorem wM_L_120 : Cond.methodLink RL 120 yX6_part ∈ fx_WS := fx_in6 (List.mem_of_getElem? (i := 26) (by rfl)) (by rfl)
theorem wIn_X6_part : Cond.instanceMethod yX6_part ∈ fx_WS := fx_in6 (List.mem_of_getElem? (i := 27) (by rfl)) (by rfl)
theorem wSel_X6_part : Cond.selects yX6_part.cls yX6_part yX6_part ∈ fx_WS := fx_in6 (List.mem_of_getElem? (i := 28) (by rfl)) (by rfl)
theorem wCo_X6_part : Cond.code yX6_part cX6_part 2 (some .long) ∈ fx_WS := fx_in6 (List.mem_of_getElem? (i := 29) (by rfl)) (by rfl)
theorem wM_L_124 : Cond.methodLink RL 124 yX6_image ∈ fx_WS := fx_in6 (List.mem_of_getElem? (i := 30) (by rfl)) (by rfl)
theorem wIn_X6_image : Cond.instanceMethod yX6_image ∈ fx_WS := fx_in6 (List.mem_of_getElem? (i := 31) (by rfl)) (by rfl)
theorem wSel_X6_image : Cond.selects yX6_image.cls yX6_image yX6_image ∈ fx_WS := fx_in6 (List.mem_of_getElem? (i := 32) (by rfl)) (by rfl)
theorem wCo_X6_image : Cond.code yX6_image cX6_image 3 (some .int) ∈ fx_WS := fx_in6 (List.mem_of_getElem? (i := 33) (by rfl)) (by rfl)
theorem wM_L_128 : Cond.methodLink RL 128 yX6_from ∈ fx_WS := fx_in6 (List.mem_of_getElem? (i := 34) (by rfl)) (by rfl)
theorem wIn_X6_from : Cond.instanceMethod yX6_from ∈ fx_WS := fx_in6 (List.mem_of_getElem? (i := 35) (by rfl)) (by rfl)
theorem wSel_X6_from : Cond.selects yX6_from.cls yX6_from yX6_from ∈ fx_WS := fx_in6 (List.mem_of_getElem? (i := 36) (by rfl)) (by rfl)
theorem wCo_X6_from : Cond.code yX6_from cX6_from 3 (some .int) ∈ fx_WS := fx_in6 (List.mem_of_getElem? (i := 37) (by rfl)) (by rfl)
theorem wM_L_132 : Cond.methodLink RL 132 yX6_status ∈ fx_WS := fx_in6 (List.mem_of_getElem? (i := 38) (by rfl)) (by rfl)
theorem wIn_X6_status : Cond.instanceMethod yX6_status ∈ fx_WS := fx_in6 (List.mem_of_getElem? (i := 39) (by rfl)) (by rfl)
theorem wSel_X6_status : Cond.selects yX6_status.cls yX6_status yX6_status ∈ fx_WS := fx_in6 (List.mem_of_getElem? (i := 40) (by rfl)) (by rfl)
theorem wCo_X6_status : Cond.code yX6_status cX6_status 2 (some .int) ∈ fx_WS := fx_in6 (List.mem_of_getElem? (i := 41) (by rfl)) (by rfl)
theorem wK_X6_271 : Cond.constantLong RX6 271 (2) ∈ fx_WS := fx_in6 (List.mem_of_getElem? (i := 42) (by rfl)) (by rfl)
theorem wM_L_136 : Cond.methodLink RL 136 yX6_count ∈ fx_WS := fx_in6 (List.mem_of_getElem? (i := 43) (by rfl)) (by rfl)
theorem wIn_X6_count : Cond.instanceMethod yX6_count ∈ fx_WS := fx_in6 (List.mem_of_getElem? (i := 44) (by rfl)) (by rfl)
theorem wSel_X6_count : Cond.selects yX6_count.cls yX6_count yX6_count ∈ fx_WS := fx_in6 (List.mem_of_getElem? (i := 45) (by rfl)) (by rfl)
theorem wCo_X6_count : Cond.code yX6_count cX6_count 2 (some .int) ∈ fx_WS := fx_in6 (List.mem_of_getElem? (i := 46) (by rfl)) (by rfl)
theorem wM_X6_273 : Cond.methodLink RX6 273 yX6_counted ∈ fx_WS := fx_in6 (List.mem_of_getElem? (i := 47) (by rfl)) (by rfl)
theorem wIn_X6_counted : Cond.instanceMethod yX6_counted ∈ fx_WS := fx_in6 (List.mem_of_getElem? (i := 49) (by rfl)) (by rfl)
theorem wCo_X6_counted : Cond.code yX6_counted cX6_counted 2 (some .int) ∈ fx_WS := fx_in6 (List.mem_of_getElem? (i := 50) (by rfl)) (by rfl)
theorem wM_L_141 : Cond.methodLink RL 141 yX6_digest ∈ fx_WS := fx_in6 (List.mem_of_getElem? (i := 51) (by rfl)) (by rfl)
theorem wIn_X6_digest : Cond.instanceMethod yX6_digest ∈ fx_WS := fx_in6 (List.mem_of_getElem? (i := 52) (by rfl)) (by rfl)
theorem wSel_X6_digest : Cond.selects yX6_digest.cls yX6_digest yX6_digest ∈ fx_WS := fx_in6 (List.mem_of_getElem? (i := 53) (by rfl)) (by rfl)
theorem wCo_X6_digest : Cond.code yX6_digest cX6_digest 4 (some .long) ∈ fx_WS := fx_in6 (List.mem_of_getElem? (i := 54) (by rfl)) (by rfl)
theorem wK_X6_278 : Cond.constantLong RX6 278 (751) ∈ fx_WS := fx_in6 (List.mem_of_getElem? (i := 55) (by rfl)) (by rfl)
theorem wK_X6_276 : Cond.constantLong RX6 276 (31) ∈ fx_WS := fx_in6 (List.mem_of_getElem? (i := 56) (by rfl)) (by rfl)
theorem wM_X6_280 : Cond.methodLink RX6 280 yX6_sums ∈ fx_WS := fx_in6 (List.mem_of_getElem? (i := 57) (by rfl)) (by rfl)
theorem wIn_X6_sums : Cond.instanceMethod yX6_sums ∈ fx_WS := fx_in6 (List.mem_of_getElem? (i := 59) (by rfl)) (by rfl)
theorem wCo_X6_sums : Cond.code yX6_sums cX6_sums 8 (some .long) ∈ fx_WS := fx_in6 (List.mem_of_getElem? (i := 60) (by rfl)) (by rfl)
theorem wK_L_41 : Cond.constantLong RL 41 (4294967295) ∈ fx_WS := fx_in6 (List.mem_of_getElem? (i := 61) (by rfl)) (by rfl)
theorem wF_J0_9 : Cond.fieldLink RJ0 9 "java/lang/String" "value" "[B" ∈ fx_WS := fx_in6 (List.mem_of_getElem? (i := 62) (by rfl)) (by rfl)
theorem wF_J0_15 : Cond.fieldLink RJ0 15 "java/lang/String" "coder" "B" ∈ fx_WS := fx_in6 (List.mem_of_getElem? (i := 63) (by rfl)) (by rfl)
theorem wSel_X5_refuseBad : Cond.selects yX5_refuseBad.cls yX5_refuseBad yX5_refuseBad ∈ fx_WS := fx_in0 (List.mem_of_getElem? (i := 0) (by rfl)) (by rfl)
theorem wSel_X5_refuseFull : Cond.selects yX5_refuseFull.cls yX5_refuseFull yX5_refuseFull ∈ fx_WS := fx_in0 (List.mem_of_getElem? (i := 1) (by rfl)) (by rfl)
theorem wSel_X5_putKind : Cond.selects yX5_putKind.cls yX5_putKind yX5_putKind ∈ fx_WS := fx_in0 (List.mem_of_getElem? (i := 2) (by rfl)) (by rfl)
theorem wSel_X5_putLine : Cond.selects yX5_putLine.cls yX5_putLine yX5_putLine ∈ fx_WS := fx_in0 (List.mem_of_getElem? (i := 3) (by rfl)) (by rfl)
theorem wSel_X5_putRich : Cond.selects yX5_putRich.cls yX5_putRich yX5_putRich ∈ fx_WS := fx_in0 (List.mem_of_getElem? (i := 4) (by rfl)) (by rfl)
theorem wSel_X4_forgetOldest : Cond.selects yX4_forgetOldest.cls yX4_forgetOldest yX4_forgetOldest ∈ fx_WS := fx_in0 (List.mem_of_getElem? (i := 5) (by rfl)) (by rfl)
theorem wSel_X5_refuseNo : Cond.selects yX5_refuseNo.cls yX5_refuseNo yX5_refuseNo ∈ fx_WS := fx_in0 (List.mem_of_getElem? (i := 6) (by rfl)) (by rfl)
theorem wSel_X3_nextToken : Cond.selects yX3_nextToken.cls yX3_nextToken yX3_nextToken ∈ fx_WS := fx_in0 (List.mem_of_getElem? (i := 7) (by rfl)) (by rfl)
theorem wSel_X3_readItem : Cond.selects yX3_readItem.cls yX3_readItem yX3_readItem ∈ fx_WS := fx_in0 (List.mem_of_getElem? (i := 8) (by rfl)) (by rfl)
theorem wSel_X3_fail : Cond.selects yX3_fail.cls yX3_fail yX3_fail ∈ fx_WS := fx_in0 (List.mem_of_getElem? (i := 9) (by rfl)) (by rfl)
theorem wSel_X3_spells : Cond.selects yX3_spells.cls yX3_spells yX3_spells ∈ fx_WS := fx_in0 (List.mem_of_getElem? (i := 10) (by rfl)) (by rfl)
theorem wSel_X3_readThing : Cond.selects yX3_readThing.cls yX3_readThing yX3_readThing ∈ fx_WS := fx_in0 (List.mem_of_getElem? (i := 11) (by rfl)) (by rfl)
theorem wSel_X3_figure : Cond.selects yX3_figure.cls yX3_figure yX3_figure ∈ fx_WS := fx_in0 (List.mem_of_getElem? (i := 12) (by rfl)) (by rfl)
theorem wSel_X3_readPeople : Cond.selects yX3_readPeople.cls yX3_readPeople yX3_readPeople ∈ fx_WS := fx_in0 (List.mem_of_getElem? (i := 13) (by rfl)) (by rfl)
theorem wSel_X3_number : Cond.selects yX3_number.cls yX3_number yX3_number ∈ fx_WS := fx_in0 (List.mem_of_getElem? (i := 14) (by rfl)) (by rfl)
theorem wSel_X3_stops : Cond.selects yX3_stops.cls yX3_stops yX3_stops ∈ fx_WS := fx_in0 (List.mem_of_getElem? (i := 15) (by rfl)) (by rfl)
theorem wSel_X3_readHours : Cond.selects yX3_readHours.cls yX3_readHours yX3_readHours ∈ fx_WS := fx_in0 (List.mem_of_getElem? (i := 16) (by rfl)) (by rfl)
theorem wSel_X3_readHour : Cond.selects yX3_readHour.cls yX3_readHour yX3_readHour ∈ fx_WS := fx_in0 (List.mem_of_getElem? (i := 17) (by rfl)) (by rfl)
theorem wSel_X3_readLine : Cond.selects yX3_readLine.cls yX3_readLine yX3_readLine ∈ fx_WS := fx_in0 (List.mem_of_getElem? (i := 18) (by rfl)) (by rfl)
theorem wSel_X3_readRich : Cond.selects yX3_readRich.cls yX3_readRich yX3_readRich ∈ fx_WS := fx_in0 (List.mem_of_getElem? (i := 19) (by rfl)) (by rfl)
theorem wSel_X3_readDoes : Cond.selects yX3_readDoes.cls yX3_readDoes yX3_readDoes ∈ fx_WS := fx_in0 (List.mem_of_getElem? (i := 20) (by rfl)) (by rfl)
theorem wSel_X3_readNeed : Cond.selects yX3_readNeed.cls yX3_readNeed yX3_readNeed ∈ fx_WS := fx_in0 (List.mem_of_getElem? (i := 21) (by rfl)) (by rfl)
theorem wSel_X0_isFined : Cond.selects yX0_isFined.cls yX0_isFined yX0_isFined ∈ fx_WS := fx_in0 (List.mem_of_getElem? (i := 22) (by rfl)) (by rfl)
theorem wSel_X0_boughtBy : Cond.selects yX0_boughtBy.cls yX0_boughtBy yX0_boughtBy ∈ fx_WS := fx_in0 (List.mem_of_getElem? (i := 23) (by rfl)) (by rfl)
theorem wSel_X0_wasDone : Cond.selects yX0_wasDone.cls yX0_wasDone yX0_wasDone ∈ fx_WS := fx_in0 (List.mem_of_getElem? (i := 24) (by rfl)) (by rfl)
theorem wSel_X5_allFines : Cond.selects yX5_allFines.cls yX5_allFines yX5_allFines ∈ fx_WS := fx_in0 (List.mem_of_getElem? (i := 25) (by rfl)) (by rfl)
theorem wSel_X0_finesOfHour : Cond.selects yX0_finesOfHour.cls yX0_finesOfHour yX0_finesOfHour ∈ fx_WS := fx_in0 (List.mem_of_getElem? (i := 26) (by rfl)) (by rfl)
theorem wSel_X1_writeRows : Cond.selects yX1_writeRows.cls yX1_writeRows yX1_writeRows ∈ fx_WS := fx_in0 (List.mem_of_getElem? (i := 27) (by rfl)) (by rfl)
theorem wSel_X1_writeRowsOf : Cond.selects yX1_writeRowsOf.cls yX1_writeRowsOf yX1_writeRowsOf ∈ fx_WS := fx_in0 (List.mem_of_getElem? (i := 28) (by rfl)) (by rfl)
theorem wSel_X1_writeFirstRow : Cond.selects yX1_writeFirstRow.cls yX1_writeFirstRow yX1_writeFirstRow ∈ fx_WS := fx_in0 (List.mem_of_getElem? (i := 29) (by rfl)) (by rfl)
theorem wSel_X1_waysTogether : Cond.selects yX1_waysTogether.cls yX1_waysTogether yX1_waysTogether ∈ fx_WS := fx_in0 (List.mem_of_getElem? (i := 30) (by rfl)) (by rfl)
theorem wSel_X1_search : Cond.selects yX1_search.cls yX1_search yX1_search ∈ fx_WS := fx_in0 (List.mem_of_getElem? (i := 31) (by rfl)) (by rfl)
theorem wSel_X1_clearDay : Cond.selects yX1_clearDay.cls yX1_clearDay yX1_clearDay ∈ fx_WS := fx_in0 (List.mem_of_getElem? (i := 32) (by rfl)) (by rfl)
theorem wSel_X1_liftRow : Cond.selects yX1_liftRow.cls yX1_liftRow yX1_liftRow ∈ fx_WS := fx_in0 (List.mem_of_getElem? (i := 33) (by rfl)) (by rfl)
theorem wSel_X1_startPerson : Cond.selects yX1_startPerson.cls yX1_startPerson yX1_startPerson ∈ fx_WS := fx_in0 (List.mem_of_getElem? (i := 34) (by rfl)) (by rfl)
theorem wSel_X0_othersWith : Cond.selects yX0_othersWith.cls yX0_othersWith yX0_othersWith ∈ fx_WS := fx_in0 (List.mem_of_getElem? (i := 35) (by rfl)) (by rfl)
theorem wSel_X0_addedToCopies : Cond.selects yX0_addedToCopies.cls yX0_addedToCopies yX0_addedToCopies ∈ fx_WS := fx_in0 (List.mem_of_getElem? (i := 36) (by rfl)) (by rfl)
theorem wSel_X1_priceOfRow : Cond.selects yX1_priceOfRow.cls yX1_priceOfRow yX1_priceOfRow ∈ fx_WS := fx_in0 (List.mem_of_getElem? (i := 37) (by rfl)) (by rfl)
theorem wSel_X1_layRow : Cond.selects yX1_layRow.cls yX1_layRow yX1_layRow ∈ fx_WS := fx_in0 (List.mem_of_getElem? (i := 38) (by rfl)) (by rfl)
theorem wSel_X1_startOrders : Cond.selects yX1_startOrders.cls yX1_startOrders yX1_startOrders ∈ fx_WS := fx_in0 (List.mem_of_getElem? (i := 39) (by rfl)) (by rfl)
theorem wSel_X1_finesInOrder : Cond.selects yX1_finesInOrder.cls yX1_finesInOrder yX1_finesInOrder ∈ fx_WS := fx_in0 (List.mem_of_getElem? (i := 40) (by rfl)) (by rfl)
theorem wSel_X1_setPrices : Cond.selects yX1_setPrices.cls yX1_setPrices yX1_setPrices ∈ fx_WS := fx_in0 (List.mem_of_getElem? (i := 41) (by rfl)) (by rfl)
theorem wSel_X1_bestRow : Cond.selects yX1_bestRow.cls yX1_bestRow yX1_bestRow ∈ fx_WS := fx_in0 (List.mem_of_getElem? (i := 42) (by rfl)) (by rfl)
theorem wSel_X1_anyoneChanges : Cond.selects yX1_anyoneChanges.cls yX1_anyoneChanges yX1_anyoneChanges ∈ fx_WS := fx_in0 (List.mem_of_getElem? (i := 43) (by rfl)) (by rfl)
theorem wSel_X1_priceOfNow : Cond.selects yX1_priceOfNow.cls yX1_priceOfNow yX1_priceOfNow ∈ fx_WS := fx_in0 (List.mem_of_getElem? (i := 44) (by rfl)) (by rfl)
theorem wSel_X5_finesOfOne : Cond.selects yX5_finesOfOne.cls yX5_finesOfOne yX5_finesOfOne ∈ fx_WS := fx_in0 (List.mem_of_getElem? (i := 45) (by rfl)) (by rfl)
theorem wSel_X2_mayHavePaid : Cond.selects yX2_mayHavePaid.cls yX2_mayHavePaid yX2_mayHavePaid ∈ fx_WS := fx_in0 (List.mem_of_getElem? (i := 46) (by rfl)) (by rfl)
theorem wSel_X2_countWay : Cond.selects yX2_countWay.cls yX2_countWay yX2_countWay ∈ fx_WS := fx_in0 (List.mem_of_getElem? (i := 47) (by rfl)) (by rfl)
theorem wSel_X5_timesCopied : Cond.selects yX5_timesCopied.cls yX5_timesCopied yX5_timesCopied ∈ fx_WS := fx_in0 (List.mem_of_getElem? (i := 48) (by rfl)) (by rfl)
theorem wSel_X5_amount : Cond.selects yX5_amount.cls yX5_amount yX5_amount ∈ fx_WS := fx_in0 (List.mem_of_getElem? (i := 49) (by rfl)) (by rfl)
theorem wSel_X5_digestWith : Cond.selects yX5_digestWith.cls yX5_digestWith yX5_digestWith ∈ fx_WS := fx_in0 (List.mem_of_getElem? (i := 50) (by rfl)) (by rfl)
theorem wSel_X6_isThing : Cond.selects yX6_isThing.cls yX6_isThing yX6_isThing ∈ fx_WS := fx_in0 (List.mem_of_getElem? (i := 51) (by rfl)) (by rfl)
theorem wSel_X6_things : Cond.selects yX6_things.cls yX6_things yX6_things ∈ fx_WS := fx_in0 (List.mem_of_getElem? (i := 52) (by rfl)) (by rfl)
theorem wSel_X6_bad : Cond.selects yX6_bad.cls yX6_bad yX6_bad ∈ fx_WS := fx_in0 (List.mem_of_getElem? (i := 53) (by rfl)) (by rfl)
theorem wSel_X6_full : Cond.selects yX6_full.cls yX6_full yX6_full ∈ fx_WS := fx_in0 (List.mem_of_getElem? (i := 54) (by rfl)) (by rfl)
theorem wSel_X6_isHour : Cond.selects yX6_isHour.cls yX6_isHour yX6_isHour ∈ fx_WS := fx_in0 (List.mem_of_getElem? (i := 55) (by rfl)) (by rfl)
theorem wSel_X6_hours : Cond.selects yX6_hours.cls yX6_hours yX6_hours ∈ fx_WS := fx_in0 (List.mem_of_getElem? (i := 56) (by rfl)) (by rfl)
theorem wSel_X6_isOne : Cond.selects yX6_isOne.cls yX6_isOne yX6_isOne ∈ fx_WS := fx_in0 (List.mem_of_getElem? (i := 57) (by rfl)) (by rfl)
theorem wSel_X6_people : Cond.selects yX6_people.cls yX6_people yX6_people ∈ fx_WS := fx_in0 (List.mem_of_getElem? (i := 58) (by rfl)) (by rfl)
theorem wSel_X6_no : Cond.selects yX6_no.cls yX6_no yX6_no ∈ fx_WS := fx_in0 (List.mem_of_getElem? (i := 59) (by rfl)) (by rfl)
theorem wSel_X6_layNow : Cond.selects yX6_layNow.cls yX6_layNow yX6_layNow ∈ fx_WS := fx_in0 (List.mem_of_getElem? (i := 60) (by rfl)) (by rfl)
theorem wSel_X6_layLine : Cond.selects yX6_layLine.cls yX6_layLine yX6_layLine ∈ fx_WS := fx_in0 (List.mem_of_getElem? (i := 61) (by rfl)) (by rfl)
theorem wSel_X6_depth : Cond.selects yX6_depth.cls yX6_depth yX6_depth ∈ fx_WS := fx_in0 (List.mem_of_getElem? (i := 62) (by rfl)) (by rfl)
theorem wSel_X6_takeDone : Cond.selects yX6_takeDone.cls yX6_takeDone yX6_takeDone ∈ fx_WS := fx_in0 (List.mem_of_getElem? (i := 63) (by rfl)) (by rfl)
theorem wSel_X6_paysOf : Cond.selects yX6_paysOf.cls yX6_paysOf yX6_paysOf ∈ fx_WS := fx_in0 (List.mem_of_getElem? (i := 64) (by rfl)) (by rfl)
theorem wSel_X6_doing : Cond.selects yX6_doing.cls yX6_doing yX6_doing ∈ fx_WS := fx_in0 (List.mem_of_getElem? (i := 65) (by rfl)) (by rfl)
theorem wSel_X6_isWith : Cond.selects yX6_isWith.cls yX6_isWith yX6_isWith ∈ fx_WS := fx_in0 (List.mem_of_getElem? (i := 66) (by rfl)) (by rfl)
theorem wSel_X6_wasDone : Cond.selects yX6_wasDone.cls yX6_wasDone yX6_wasDone ∈ fx_WS := fx_in0 (List.mem_of_getElem? (i := 67) (by rfl)) (by rfl)
theorem wSel_X6_allIn : Cond.selects yX6_allIn.cls yX6_allIn yX6_allIn ∈ fx_WS := fx_in0 (List.mem_of_getElem? (i := 68) (by rfl)) (by rfl)
theorem wSel_X6_paysIn : Cond.selects yX6_paysIn.cls yX6_paysIn yX6_paysIn ∈ fx_WS := fx_in0 (List.mem_of_getElem? (i := 69) (by rfl)) (by rfl)
theorem wSel_X6_findAllRows : Cond.selects yX6_findAllRows.cls yX6_findAllRows yX6_findAllRows ∈ fx_WS := fx_in0 (List.mem_of_getElem? (i := 70) (by rfl)) (by rfl)
theorem wSel_X6_findRows : Cond.selects yX6_findRows.cls yX6_findRows yX6_findRows ∈ fx_WS := fx_in0 (List.mem_of_getElem? (i := 71) (by rfl)) (by rfl)
theorem wSel_X6_takeNeeds : Cond.selects yX6_takeNeeds.cls yX6_takeNeeds yX6_takeNeeds ∈ fx_WS := fx_in0 (List.mem_of_getElem? (i := 72) (by rfl)) (by rfl)
theorem wSel_X6_keepRow : Cond.selects yX6_keepRow.cls yX6_keepRow yX6_keepRow ∈ fx_WS := fx_in0 (List.mem_of_getElem? (i := 73) (by rfl)) (by rfl)
theorem wSel_X6_ways : Cond.selects yX6_ways.cls yX6_ways yX6_ways ∈ fx_WS := fx_in0 (List.mem_of_getElem? (i := 74) (by rfl)) (by rfl)
theorem wSel_X6_findLeast : Cond.selects yX6_findLeast.cls yX6_findLeast yX6_findLeast ∈ fx_WS := fx_in0 (List.mem_of_getElem? (i := 75) (by rfl)) (by rfl)
theorem wSel_X6_takeNothing : Cond.selects yX6_takeNothing.cls yX6_takeNothing yX6_takeNothing ∈ fx_WS := fx_in0 (List.mem_of_getElem? (i := 76) (by rfl)) (by rfl)
theorem wSel_X6_takeRow : Cond.selects yX6_takeRow.cls yX6_takeRow yX6_takeRow ∈ fx_WS := fx_in0 (List.mem_of_getElem? (i := 77) (by rfl)) (by rfl)
theorem wSel_X6_layOrder : Cond.selects yX6_layOrder.cls yX6_layOrder yX6_layOrder ∈ fx_WS := fx_in0 (List.mem_of_getElem? (i := 78) (by rfl)) (by rfl)
theorem wSel_X6_listed : Cond.selects yX6_listed.cls yX6_listed yX6_listed ∈ fx_WS := fx_in0 (List.mem_of_getElem? (i := 79) (by rfl)) (by rfl)
theorem wSel_X6_takeBest : Cond.selects yX6_takeBest.cls yX6_takeBest yX6_takeBest ∈ fx_WS := fx_in0 (List.mem_of_getElem? (i := 80) (by rfl)) (by rfl)
theorem wSel_X6_changes : Cond.selects yX6_changes.cls yX6_changes yX6_changes ∈ fx_WS := fx_in0 (List.mem_of_getElem? (i := 81) (by rfl)) (by rfl)
theorem wSel_X6_pay : Cond.selects yX6_pay.cls yX6_pay yX6_pay ∈ fx_WS := fx_in0 (List.mem_of_getElem? (i := 82) (by rfl)) (by rfl)
theorem wSel_X6_look : Cond.selects yX6_look.cls yX6_look yX6_look ∈ fx_WS := fx_in0 (List.mem_of_getElem? (i := 83) (by rfl)) (by rfl)
theorem wSel_X6_readsItem : Cond.selects yX6_readsItem.cls yX6_readsItem yX6_readsItem ∈ fx_WS := fx_in0 (List.mem_of_getElem? (i := 84) (by rfl)) (by rfl)
theorem wSel_X6_isWord : Cond.selects yX6_isWord.cls yX6_isWord yX6_isWord ∈ fx_WS := fx_in0 (List.mem_of_getElem? (i := 85) (by rfl)) (by rfl)
theorem wSel_X6_readsThing : Cond.selects yX6_readsThing.cls yX6_readsThing yX6_readsThing ∈ fx_WS := fx_in0 (List.mem_of_getElem? (i := 86) (by rfl)) (by rfl)
theorem wSel_X6_goOn : Cond.selects yX6_goOn.cls yX6_goOn yX6_goOn ∈ fx_WS := fx_in0 (List.mem_of_getElem? (i := 87) (by rfl)) (by rfl)
theorem wSel_X6_takes : Cond.selects yX6_takes.cls yX6_takes yX6_takes ∈ fx_WS := fx_in0 (List.mem_of_getElem? (i := 88) (by rfl)) (by rfl)
theorem wSel_X6_readsSize : Cond.selects yX6_readsSize.cls yX6_readsSize yX6_readsSize ∈ fx_WS := fx_in0 (List.mem_of_getElem? (i := 89) (by rfl)) (by rfl)
theorem wSel_X6_readsHour : Cond.selects yX6_readsHour.cls yX6_readsHour yX6_readsHour ∈ fx_WS := fx_in0 (List.mem_of_getElem? (i := 90) (by rfl)) (by rfl)
theorem wSel_X6_readsDoes : Cond.selects yX6_readsDoes.cls yX6_readsDoes yX6_readsDoes ∈ fx_WS := fx_in0 (List.mem_of_getElem? (i := 91) (by rfl)) (by rfl)
theorem wSel_X6_readsNeed : Cond.selects yX6_readsNeed.cls yX6_readsNeed yX6_readsNeed ∈ fx_WS := fx_in0 (List.mem_of_getElem? (i := 92) (by rfl)) (by rfl)
theorem wSel_X6_counted : Cond.selects yX6_counted.cls yX6_counted yX6_counted ∈ fx_WS := fx_in0 (List.mem_of_getElem? (i := 93) (by rfl)) (by rfl)
theorem wSel_X6_sums : Cond.selects yX6_sums.cls yX6_sums yX6_sums ∈ fx_WS := fx_in0 (List.mem_of_getElem? (i := 94) (by rfl)) (by rfl)
set_option maxRecDepth 20000 in
theorem kL_X0 : ∀ w ∈ u_ws RX0 TX0 6, w ∈ fx_WS := by
  have h : u_ws RX0 TX0 6 = [166, 168, 170, 172, 174, 176].filterMap (fun i => tables_1[i]?) := by decide +kernel
  have h2 : (u_ws RX0 TX0 6).all goodWord = true := by decide +kernel
  intro w hw
  have hg := List.all_eq_true.mp h2 w hw
  rw [h] at hw
  obtain ⟨i, -, hi⟩ := List.mem_filterMap.mp hw
  exact List.mem_filter.mpr ⟨List.mem_append_right _ (List.mem_of_getElem? hi), hg⟩
theorem kC_X0 : fx_cls 0 RX0 TX0 6 := ⟨rfl, by decide, by decide, rfl, kL_X0, ⟨tyX0, tyX0_ok⟩, nmX0⟩
set_option maxRecDepth 20000 in
theorem kL_X1 : ∀ w ∈ u_ws RX1 TX1 13, w ∈ fx_WS := by
  have h : u_ws RX1 TX1 13 = [202, 204, 206, 208, 210, 212, 214, 216, 218, 220, 222, 224, 226].filterMap (fun i => tables_1[i]?) := by decide +kernel
  have h2 : (u_ws RX1 TX1 13).all goodWord = true := by decide +kernel
  intro w hw
  have hg := List.all_eq_true.mp h2 w hw
  rw [h] at hw
  obtain ⟨i, -, hi⟩ := List.mem_filterMap.mp hw
  exact List.mem_filter.mpr ⟨List.mem_append_right _ (List.mem_of_getElem? hi), hg⟩
theorem kC_X1 : fx_cls 1 RX1 TX1 13 := ⟨rfl, by decide, by decide, rfl, kL_X1, ⟨tyX1, tyX1_ok⟩, nmX1⟩
set_option maxRecDepth 20000 in
theorem kL_X2 : ∀ w ∈ u_ws RX2 TX2 6, w ∈ fx_WS := by
  have h : u_ws RX2 TX2 6 = [243, 245, 247, 249, 251, 253].filterMap (fun i => tables_1[i]?) := by decide +kernel
  have h2 : (u_ws RX2 TX2 6).all goodWord = true := by decide +kernel
  intro w hw
  have hg := List.all_eq_true.mp h2 w hw
  rw [h] at hw
  obtain ⟨i, -, hi⟩ := List.mem_filterMap.mp hw
  exact List.mem_filter.mpr ⟨List.mem_append_right _ (List.mem_of_getElem? hi), hg⟩
theorem kC_X2 : fx_cls 2 RX2 TX2 6 := ⟨rfl, by decide, by decide, rfl, kL_X2, ⟨tyX2, tyX2_ok⟩, nmX2⟩
set_option maxRecDepth 20000 in
theorem kL_X3 : ∀ w ∈ u_ws RX3 TX3 7, w ∈ fx_WS := by
  have h : u_ws RX3 TX3 7 = [135, 137, 139, 141, 143, 145, 147].filterMap (fun i => tables_1[i]?) := by decide +kernel
  have h2 : (u_ws RX3 TX3 7).all goodWord = true := by decide +kernel
  intro w hw
  have hg := List.all_eq_true.mp h2 w hw
  rw [h] at hw
  obtain ⟨i, -, hi⟩ := List.mem_filterMap.mp hw
  exact List.mem_filter.mpr ⟨List.mem_append_right _ (List.mem_of_getElem? hi), hg⟩
theorem kC_X3 : fx_cls 3 RX3 TX3 7 := ⟨rfl, by decide, by decide, rfl, kL_X3, ⟨tyX3, tyX3_ok⟩, nmX3⟩
set_option maxRecDepth 20000 in
theorem kL_X4 : ∀ w ∈ u_ws RX4 TX4 14, w ∈ fx_WS := by
  have h : u_ws RX4 TX4 14 = [90, 92, 94, 96, 98, 100, 102, 104, 106, 108, 110, 112, 114, 116].filterMap (fun i => tables_1[i]?) := by decide +kernel
  have h2 : (u_ws RX4 TX4 14).all goodWord = true := by decide +kernel
  intro w hw
  have hg := List.all_eq_true.mp h2 w hw
  rw [h] at hw
  obtain ⟨i, -, hi⟩ := List.mem_filterMap.mp hw
  exact List.mem_filter.mpr ⟨List.mem_append_right _ (List.mem_of_getElem? hi), hg⟩
theorem kC_X4 : fx_cls 4 RX4 TX4 14 := ⟨rfl, by decide, by decide, rfl, kL_X4, ⟨tyX4, tyX4_ok⟩, nmX4⟩
set_option maxRecDepth 20000 in
theorem kL_X5 : ∀ w ∈ u_ws RX5 TX5 14, w ∈ fx_WS := by
  have h : u_ws RX5 TX5 14 = [270, 272, 274, 276, 278, 280, 282, 284, 286, 288, 290, 292, 294, 296].filterMap (fun i => tables_1[i]?) := by decide +kernel
  have h2 : (u_ws RX5 TX5 14).all goodWord = true := by decide +kernel
  intro w hw
  have hg := List.all_eq_true.mp h2 w hw
  rw [h] at hw
  obtain ⟨i, -, hi⟩ := List.mem_filterMap.mp hw
  exact List.mem_filter.mpr ⟨List.mem_append_right _ (List.mem_of_getElem? hi), hg⟩
theorem kC_X5 : fx_cls 5 RX5 TX5 14 := ⟨rfl, by decide, by decide, rfl, kL_X5, ⟨tyX5, tyX5_ok⟩, nmX5⟩
set_option maxRecDepth 20000 in
theorem kL_X6 : ∀ w ∈ u_ws RX6 TX6 25, w ∈ fx_WS := by
  have h : u_ws RX6 TX6 25 = [886, 888, 890, 892, 894, 896, 898, 900, 902, 904, 906, 908, 910, 912, 914, 916, 918, 920, 922, 924, 926, 928, 930, 932, 934].filterMap (fun i => tables_1[i]?) := by decide +kernel
  have h2 : (u_ws RX6 TX6 25).all goodWord = true := by decide +kernel
  intro w hw
  have hg := List.all_eq_true.mp h2 w hw
  rw [h] at hw
  obtain ⟨i, -, hi⟩ := List.mem_filterMap.mp hw
  exact List.mem_filter.mpr ⟨List.mem_append_right _ (List.mem_of_getElem? hi), hg⟩
theorem kC_X6 : fx_cls 6 RX6 TX6 25 := ⟨rfl, by decide, by decide, rfl, kL_X6, ⟨tyX6, tyX6_ok⟩, nmX6⟩
theorem kD_X5_init : fx_md yX5_init cX5_init 2 none 0 := ⟨⟨by decide, by decide, by decide +kernel⟩, wCo_X5_init, wI_X5⟩
theorem kD_X4_init : fx_md yX4_init cX4_init 1 none 0 := ⟨⟨by decide, by decide, by decide +kernel⟩, wCo_X4_init, wI_X4⟩
theorem kD_X4_begin : fx_md yX4_begin cX4_begin 1 none 0 := ⟨⟨by decide, by decide, by decide +kernel⟩, wCo_X4_begin, wI_X4⟩
theorem kI_X4_begin : fx_mi yX4_begin := ⟨wIn_X4_begin, wSel_X4_begin⟩
theorem kD_X4_settle : fx_md yX4_settle cX4_settle 4 none 2 := ⟨⟨by decide, by decide, by decide +kernel⟩, wCo_X4_settle, wI_X4⟩
theorem kI_X4_settle : fx_mi yX4_settle := ⟨wIn_X4_settle, wSel_X4_settle⟩
theorem kD_J7_fill_53178 : fx_md yJ7_fill_53178 cJ7_fill_53178 4 none 2 := ⟨⟨by decide, by decide, by decide +kernel⟩, wCo_J7_fill_53178, wI_J7⟩
theorem kD_X3_init : fx_md yX3_init cX3_init 1 none 0 := ⟨⟨by decide, by decide, by decide +kernel⟩, wCo_X3_init, wI_X3⟩
theorem kD_X0_init : fx_md yX0_init cX0_init 1 none 0 := ⟨⟨by decide, by decide, by decide +kernel⟩, wCo_X0_init, wI_X0⟩
theorem kD_X1_init : fx_md yX1_init cX1_init 1 none 0 := ⟨⟨by decide, by decide, by decide +kernel⟩, wCo_X1_init, wI_X1⟩
theorem kD_X2_init : fx_md yX2_init cX2_init 1 none 0 := ⟨⟨by decide, by decide, by decide +kernel⟩, wCo_X2_init, wI_X2⟩
theorem kD_X5_thing : fx_md yX5_thing cX5_thing 2 (some .int) 1 := ⟨⟨by decide, by decide, by decide +kernel⟩, wCo_X5_thing, wI_X5⟩
theorem kI_X5_thing : fx_mi yX5_thing := ⟨wIn_X5_thing, wSel_X5_thing⟩
theorem kD_X4_hasThing : fx_md yX4_hasThing cX4_hasThing 2 (some .boolean) 1 := ⟨⟨by decide, by decide, by decide +kernel⟩, wCo_X4_hasThing, wI_X4⟩
theorem kI_X4_hasThing : fx_mi yX4_hasThing := ⟨wIn_X4_hasThing, wSel_X4_hasThing⟩
theorem kD_X5_within : fx_md yX5_within cX5_within 3 (some .boolean) 3 := ⟨⟨by decide, by decide, by decide +kernel⟩, wCo_X5_within, wI_X5⟩
theorem kD_X5_refuseBad : fx_md yX5_refuseBad cX5_refuseBad 2 (some .int) 1 := ⟨⟨by decide, by decide, by decide +kernel⟩, wCo_X5_refuseBad, wI_X5⟩
theorem kI_X5_refuseBad : fx_mi yX5_refuseBad := ⟨wIn_X5_refuseBad, wSel_X5_refuseBad⟩
theorem kD_X5_refuseFull : fx_md yX5_refuseFull cX5_refuseFull 1 (some .int) 0 := ⟨⟨by decide, by decide, by decide +kernel⟩, wCo_X5_refuseFull, wI_X5⟩
theorem kI_X5_refuseFull : fx_mi yX5_refuseFull := ⟨wIn_X5_refuseFull, wSel_X5_refuseFull⟩
theorem kD_X4_addThing : fx_md yX4_addThing cX4_addThing 2 none 1 := ⟨⟨by decide, by decide, by decide +kernel⟩, wCo_X4_addThing, wI_X4⟩
theorem kI_X4_addThing : fx_mi yX4_addThing := ⟨wIn_X4_addThing, wSel_X4_addThing⟩
theorem kD_X5_town : fx_md yX5_town cX5_town 3 (some .int) 2 := ⟨⟨by decide, by decide, by decide +kernel⟩, wCo_X5_town, wI_X5⟩
theorem kI_X5_town : fx_mi yX5_town := ⟨wIn_X5_town, wSel_X5_town⟩
theorem kD_X5_put : fx_md yX5_put cX5_put 4 (some .int) 3 := ⟨⟨by decide, by decide, by decide +kernel⟩, wCo_X5_put, wI_X5⟩
theorem kI_X5_put : fx_mi yX5_put := ⟨wIn_X5_put, wSel_X5_put⟩
theorem kD_X4_hasHour : fx_md yX4_hasHour cX4_hasHour 2 (some .boolean) 1 := ⟨⟨by decide, by decide, by decide +kernel⟩, wCo_X4_hasHour, wI_X4⟩
theorem kI_X4_hasHour : fx_mi yX4_hasHour := ⟨wIn_X4_hasHour, wSel_X4_hasHour⟩
theorem kD_X5_putKind : fx_md yX5_putKind cX5_putKind 4 (some .int) 2 := ⟨⟨by decide, by decide, by decide +kernel⟩, wCo_X5_putKind, wI_X5⟩
theorem kI_X5_putKind : fx_mi yX5_putKind := ⟨wIn_X5_putKind, wSel_X5_putKind⟩
theorem kD_X5_putLine : fx_md yX5_putLine cX5_putLine 3 (some .int) 1 := ⟨⟨by decide, by decide, by decide +kernel⟩, wCo_X5_putLine, wI_X5⟩
theorem kI_X5_putLine : fx_mi yX5_putLine := ⟨wIn_X5_putLine, wSel_X5_putLine⟩
theorem kD_X4_hasPerson : fx_md yX4_hasPerson cX4_hasPerson 2 (some .boolean) 1 := ⟨⟨by decide, by decide, by decide +kernel⟩, wCo_X4_hasPerson, wI_X4⟩
theorem kI_X4_hasPerson : fx_mi yX4_hasPerson := ⟨wIn_X4_hasPerson, wSel_X4_hasPerson⟩
theorem kD_X5_putRich : fx_md yX5_putRich cX5_putRich 3 (some .int) 1 := ⟨⟨by decide, by decide, by decide +kernel⟩, wCo_X5_putRich, wI_X5⟩
theorem kI_X5_putRich : fx_mi yX5_putRich := ⟨wIn_X5_putRich, wSel_X5_putRich⟩
theorem kD_X5_does : fx_md yX5_does cX5_does 6 (some .int) 3 := ⟨⟨by decide, by decide, by decide +kernel⟩, wCo_X5_does, wI_X5⟩
theorem kI_X5_does : fx_mi yX5_does := ⟨wIn_X5_does, wSel_X5_does⟩
theorem kD_X4_rememberDoing : fx_md yX4_rememberDoing cX4_rememberDoing 4 none 3 := ⟨⟨by decide, by decide, by decide +kernel⟩, wCo_X4_rememberDoing, wI_X4⟩
theorem kI_X4_rememberDoing : fx_mi yX4_rememberDoing := ⟨wIn_X4_rememberDoing, wSel_X4_rememberDoing⟩
theorem kD_X4_forgetOldest : fx_md yX4_forgetOldest cX4_forgetOldest 1 none 0 := ⟨⟨by decide, by decide, by decide +kernel⟩, wCo_X4_forgetOldest, wI_X4⟩
theorem kI_X4_forgetOldest : fx_mi yX4_forgetOldest := ⟨wIn_X4_forgetOldest, wSel_X4_forgetOldest⟩
theorem kD_X5_shown : fx_md yX5_shown cX5_shown 1 (some .int) 1 := ⟨⟨by decide, by decide, by decide +kernel⟩, wCo_X5_shown, wI_X5⟩
theorem kD_X5_undo : fx_md yX5_undo cX5_undo 1 (some .int) 0 := ⟨⟨by decide, by decide, by decide +kernel⟩, wCo_X5_undo, wI_X5⟩
theorem kI_X5_undo : fx_mi yX5_undo := ⟨wIn_X5_undo, wSel_X5_undo⟩
theorem kD_X5_refuseNo : fx_md yX5_refuseNo cX5_refuseNo 1 (some .int) 0 := ⟨⟨by decide, by decide, by decide +kernel⟩, wCo_X5_refuseNo, wI_X5⟩
theorem kI_X5_refuseNo : fx_mi yX5_refuseNo := ⟨wIn_X5_refuseNo, wSel_X5_refuseNo⟩
theorem kD_X4_undoLast : fx_md yX4_undoLast cX4_undoLast 1 none 0 := ⟨⟨by decide, by decide, by decide +kernel⟩, wCo_X4_undoLast, wI_X4⟩
theorem kI_X4_undoLast : fx_mi yX4_undoLast := ⟨wIn_X4_undoLast, wSel_X4_undoLast⟩
theorem kD_X5_need : fx_md yX5_need cX5_need 5 (some .int) 3 := ⟨⟨by decide, by decide, by decide +kernel⟩, wCo_X5_need, wI_X5⟩
theorem kI_X5_need : fx_mi yX5_need := ⟨wIn_X5_need, wSel_X5_need⟩
theorem kD_X4_mostNeeded : fx_md yX4_mostNeeded cX4_mostNeeded 3 (some .int) 2 := ⟨⟨by decide, by decide, by decide +kernel⟩, wCo_X4_mostNeeded, wI_X4⟩
theorem kI_X4_mostNeeded : fx_mi yX4_mostNeeded := ⟨wIn_X4_mostNeeded, wSel_X4_mostNeeded⟩
theorem kD_X4_needed : fx_md yX4_needed cX4_needed 4 (some .int) 1 := ⟨⟨by decide, by decide, by decide +kernel⟩, wCo_X4_needed, wI_X4⟩
theorem kI_X4_needed : fx_mi yX4_needed := ⟨wIn_X4_needed, wSel_X4_needed⟩
theorem kD_X5_type : fx_md yX5_type cX5_type 5 (some .int) 2 := ⟨⟨by decide, by decide, by decide +kernel⟩, wCo_X5_type, wI_X5⟩
theorem kI_X5_type : fx_mi yX5_type := ⟨wIn_X5_type, wSel_X5_type⟩
theorem kD_X3_append : fx_md yX3_append cX3_append 2 none 1 := ⟨⟨by decide, by decide, by decide +kernel⟩, wCo_X3_append, wI_X3⟩
theorem kI_X3_append : fx_mi yX3_append := ⟨wIn_X3_append, wSel_X3_append⟩
theorem kD_X5_clear : fx_md yX5_clear cX5_clear 2 (some .int) 0 := ⟨⟨by decide, by decide, by decide +kernel⟩, wCo_X5_clear, wI_X5⟩
theorem kI_X5_clear : fx_mi yX5_clear := ⟨wIn_X5_clear, wSel_X5_clear⟩
theorem kD_X5_read : fx_md yX5_read cX5_read 2 (some .int) 0 := ⟨⟨by decide, by decide, by decide +kernel⟩, wCo_X5_read, wI_X5⟩
theorem kI_X5_read : fx_mi yX5_read := ⟨wIn_X5_read, wSel_X5_read⟩
theorem kD_X3_readInto : fx_md yX3_readInto cX3_readInto 4 (some .int) 1 := ⟨⟨by decide, by decide, by decide +kernel⟩, wCo_X3_readInto, wI_X3⟩
theorem kI_X3_readInto : fx_mi yX3_readInto := ⟨wIn_X3_readInto, wSel_X3_readInto⟩
theorem kD_X3_nextToken : fx_md yX3_nextToken cX3_nextToken 2 none 0 := ⟨⟨by decide, by decide, by decide +kernel⟩, wCo_X3_nextToken, wI_X3⟩
theorem kI_X3_nextToken : fx_mi yX3_nextToken := ⟨wIn_X3_nextToken, wSel_X3_nextToken⟩
theorem kD_X3_isLetter : fx_md yX3_isLetter cX3_isLetter 1 (some .boolean) 1 := ⟨⟨by decide, by decide, by decide +kernel⟩, wCo_X3_isLetter, wI_X3⟩
theorem kD_X3_isFigure : fx_md yX3_isFigure cX3_isFigure 1 (some .boolean) 1 := ⟨⟨by decide, by decide, by decide +kernel⟩, wCo_X3_isFigure, wI_X3⟩
theorem kD_X3_readItem : fx_md yX3_readItem cX3_readItem 2 none 1 := ⟨⟨by decide, by decide, by decide +kernel⟩, wCo_X3_readItem, wI_X3⟩
theorem kI_X3_readItem : fx_mi yX3_readItem := ⟨wIn_X3_readItem, wSel_X3_readItem⟩
theorem kD_X3_fail : fx_md yX3_fail cX3_fail 1 none 0 := ⟨⟨by decide, by decide, by decide +kernel⟩, wCo_X3_fail, wI_X3⟩
theorem kI_X3_fail : fx_mi yX3_fail := ⟨wIn_X3_fail, wSel_X3_fail⟩
theorem kD_X3_spells : fx_md yX3_spells cX3_spells 3 (some .boolean) 1 := ⟨⟨by decide, by decide, by decide +kernel⟩, wCo_X3_spells, wI_X3⟩
theorem kI_X3_spells : fx_mi yX3_spells := ⟨wIn_X3_spells, wSel_X3_spells⟩
theorem kD_J0_length_8abf5 : fx_md yJ0_length_8abf5 cJ0_length_8abf5 1 (some .int) 0 := ⟨⟨by decide, by decide, by decide +kernel⟩, wCo_J0_length_8abf5, wI_J0⟩
theorem kI_J0_length_8abf5 : fx_mi yJ0_length_8abf5 := ⟨wIn_J0_length_8abf5, wSel_J0_length_8abf5⟩
theorem kD_J0_coder_7d493 : fx_md yJ0_coder_7d493 cJ0_coder_7d493 1 (some .byte) 0 := ⟨⟨by decide, by decide, by decide +kernel⟩, wCo_J0_coder_7d493, wI_J0⟩
theorem kI_J0_coder_7d493 : fx_mi yJ0_coder_7d493 := ⟨wIn_J0_coder_7d493, wSel_J0_coder_7d493⟩
theorem kD_J0_charAt_5068e : fx_md yJ0_charAt_5068e cJ0_charAt_5068e 2 (some .char) 1 := ⟨⟨by decide, by decide, by decide +kernel⟩, wCo_J0_charAt_5068e, wI_J0⟩
theorem kI_J0_charAt_5068e : fx_mi yJ0_charAt_5068e := ⟨wIn_J0_charAt_5068e, wSel_J0_charAt_5068e⟩
theorem kD_J0_isLatin1_aae02 : fx_md yJ0_isLatin1_aae02 cJ0_isLatin1_aae02 1 (some .boolean) 0 := ⟨⟨by decide, by decide, by decide +kernel⟩, wCo_J0_isLatin1_aae02, wI_J0⟩
theorem kI_J0_isLatin1_aae02 : fx_mi yJ0_isLatin1_aae02 := ⟨wIn_J0_isLatin1_aae02, wSel_J0_isLatin1_aae02⟩
theorem kD_J1_charAt_3b067 : fx_md yJ1_charAt_3b067 cJ1_charAt_3b067 2 (some .char) 2 := ⟨⟨by decide, by decide, by decide +kernel⟩, wCo_J1_charAt_3b067, wI_J1⟩
theorem kD_J0_checkIndex_df160 : fx_md yJ0_checkIndex_df160 cJ0_checkIndex_df160 2 none 2 := ⟨⟨by decide, by decide, by decide +kernel⟩, wCo_J0_checkIndex_df160, wI_J0⟩
theorem kD_J3_checkIndex_8e157 : fx_md yJ3_checkIndex_8e157 cJ3_checkIndex_8e157 3 (some .int) 3 := ⟨⟨by decide, by decide, by decide +kernel⟩, wCo_J3_checkIndex_8e157, wI_J3⟩
theorem kD_J2_charAt_3b067 : fx_md yJ2_charAt_3b067 cJ2_charAt_3b067 2 (some .char) 2 := ⟨⟨by decide, by decide, by decide +kernel⟩, wCo_J2_charAt_3b067, wI_J2⟩
theorem kD_J2_checkIndex_2214a : fx_md yJ2_checkIndex_2214a cJ2_checkIndex_2214a 2 none 2 := ⟨⟨by decide, by decide, by decide +kernel⟩, wCo_J2_checkIndex_2214a, wI_J2⟩
theorem kD_J2_length_9d52b : fx_md yJ2_length_9d52b cJ2_length_9d52b 1 (some .int) 1 := ⟨⟨by decide, by decide, by decide +kernel⟩, wCo_J2_length_9d52b, wI_J2⟩
theorem kD_J2_getChar_3b067 : fx_md yJ2_getChar_3b067 cJ2_getChar_3b067 2 (some .char) 2 := ⟨⟨by decide, by decide, by decide +kernel⟩, wCo_J2_getChar_3b067, wI_J2⟩
theorem kD_X3_readThing : fx_md yX3_readThing cX3_readThing 3 none 1 := ⟨⟨by decide, by decide, by decide +kernel⟩, wCo_X3_readThing, wI_X3⟩
theorem kI_X3_readThing : fx_mi yX3_readThing := ⟨wIn_X3_readThing, wSel_X3_readThing⟩
theorem kD_X3_figure : fx_md yX3_figure cX3_figure 1 (some .int) 0 := ⟨⟨by decide, by decide, by decide +kernel⟩, wCo_X3_figure, wI_X3⟩
theorem kI_X3_figure : fx_mi yX3_figure := ⟨wIn_X3_figure, wSel_X3_figure⟩
theorem kD_X3_readPeople : fx_md yX3_readPeople cX3_readPeople 3 none 1 := ⟨⟨by decide, by decide, by decide +kernel⟩, wCo_X3_readPeople, wI_X3⟩
theorem kI_X3_readPeople : fx_mi yX3_readPeople := ⟨wIn_X3_readPeople, wSel_X3_readPeople⟩
theorem kD_X3_number : fx_md yX3_number cX3_number 3 (some .int) 2 := ⟨⟨by decide, by decide, by decide +kernel⟩, wCo_X3_number, wI_X3⟩
theorem kI_X3_number : fx_mi yX3_number := ⟨wIn_X3_number, wSel_X3_number⟩
theorem kD_X3_stops : fx_md yX3_stops cX3_stops 1 (some .boolean) 0 := ⟨⟨by decide, by decide, by decide +kernel⟩, wCo_X3_stops, wI_X3⟩
theorem kI_X3_stops : fx_mi yX3_stops := ⟨wIn_X3_stops, wSel_X3_stops⟩
theorem kD_X3_readHours : fx_md yX3_readHours cX3_readHours 3 none 1 := ⟨⟨by decide, by decide, by decide +kernel⟩, wCo_X3_readHours, wI_X3⟩
theorem kI_X3_readHours : fx_mi yX3_readHours := ⟨wIn_X3_readHours, wSel_X3_readHours⟩
theorem kD_X3_readHour : fx_md yX3_readHour cX3_readHour 4 none 1 := ⟨⟨by decide, by decide, by decide +kernel⟩, wCo_X3_readHour, wI_X3⟩
theorem kI_X3_readHour : fx_mi yX3_readHour := ⟨wIn_X3_readHour, wSel_X3_readHour⟩
theorem kD_X3_readLine : fx_md yX3_readLine cX3_readLine 3 none 1 := ⟨⟨by decide, by decide, by decide +kernel⟩, wCo_X3_readLine, wI_X3⟩
theorem kI_X3_readLine : fx_mi yX3_readLine := ⟨wIn_X3_readLine, wSel_X3_readLine⟩
theorem kD_X3_readRich : fx_md yX3_readRich cX3_readRich 3 none 1 := ⟨⟨by decide, by decide, by decide +kernel⟩, wCo_X3_readRich, wI_X3⟩
theorem kI_X3_readRich : fx_mi yX3_readRich := ⟨wIn_X3_readRich, wSel_X3_readRich⟩
theorem kD_X3_readDoes : fx_md yX3_readDoes cX3_readDoes 5 none 1 := ⟨⟨by decide, by decide, by decide +kernel⟩, wCo_X3_readDoes, wI_X3⟩
theorem kI_X3_readDoes : fx_mi yX3_readDoes := ⟨wIn_X3_readDoes, wSel_X3_readDoes⟩
theorem kD_X3_readNeed : fx_md yX3_readNeed cX3_readNeed 5 none 1 := ⟨⟨by decide, by decide, by decide +kernel⟩, wCo_X3_readNeed, wI_X3⟩
theorem kI_X3_readNeed : fx_mi yX3_readNeed := ⟨wIn_X3_readNeed, wSel_X3_readNeed⟩
theorem kD_X4_takeOver : fx_md yX4_takeOver cX4_takeOver 3 none 1 := ⟨⟨by decide, by decide, by decide +kernel⟩, wCo_X4_takeOver, wI_X4⟩
theorem kI_X4_takeOver : fx_mi yX4_takeOver := ⟨wIn_X4_takeOver, wSel_X4_takeOver⟩
theorem kD_X5_at : fx_md yX5_at cX5_at 2 (some .int) 1 := ⟨⟨by decide, by decide, by decide +kernel⟩, wCo_X5_at, wI_X5⟩
theorem kI_X5_at : fx_mi yX5_at := ⟨wIn_X5_at, wSel_X5_at⟩
theorem kD_X0_sit : fx_md yX0_sit cX0_sit 7 none 3 := ⟨⟨by decide, by decide, by decide +kernel⟩, wCo_X0_sit, wI_X0⟩
theorem kI_X0_sit : fx_mi yX0_sit := ⟨wIn_X0_sit, wSel_X0_sit⟩
theorem kD_X5_pays : fx_md yX5_pays cX5_pays 3 (some .int) 2 := ⟨⟨by decide, by decide, by decide +kernel⟩, wCo_X5_pays, wI_X5⟩
theorem kI_X5_pays : fx_mi yX5_pays := ⟨wIn_X5_pays, wSel_X5_pays⟩
theorem kD_X0_fineIn : fx_md yX0_fineIn cX0_fineIn 5 (some .int) 4 := ⟨⟨by decide, by decide, by decide +kernel⟩, wCo_X0_fineIn, wI_X0⟩
theorem kI_X0_fineIn : fx_mi yX0_fineIn := ⟨wIn_X0_fineIn, wSel_X0_fineIn⟩
theorem kD_X4_kindOf : fx_md yX4_kindOf cX4_kindOf 2 (some .int) 1 := ⟨⟨by decide, by decide, by decide +kernel⟩, wCo_X4_kindOf, wI_X4⟩
theorem kI_X4_kindOf : fx_mi yX4_kindOf := ⟨wIn_X4_kindOf, wSel_X4_kindOf⟩
theorem kD_X0_aheadOf : fx_md yX0_aheadOf cX0_aheadOf 3 (some (.array .int)) 2 := ⟨⟨by decide, by decide, by decide +kernel⟩, wCo_X0_aheadOf, wI_X0⟩
theorem kI_X0_aheadOf : fx_mi yX0_aheadOf := ⟨wIn_X0_aheadOf, wSel_X0_aheadOf⟩
theorem kD_X0_fine : fx_md yX0_fine cX0_fine 10 (some .int) 5 := ⟨⟨by decide, by decide, by decide +kernel⟩, wCo_X0_fine, wI_X0⟩
theorem kI_X0_fine : fx_mi yX0_fine := ⟨wIn_X0_fine, wSel_X0_fine⟩
theorem kD_X0_isFined : fx_md yX0_isFined cX0_isFined 3 (some .boolean) 2 := ⟨⟨by decide, by decide, by decide +kernel⟩, wCo_X0_isFined, wI_X0⟩
theorem kI_X0_isFined : fx_mi yX0_isFined := ⟨wIn_X0_isFined, wSel_X0_isFined⟩
theorem kD_X0_boughtBy : fx_md yX0_boughtBy cX0_boughtBy 3 (some .int) 2 := ⟨⟨by decide, by decide, by decide +kernel⟩, wCo_X0_boughtBy, wI_X0⟩
theorem kI_X0_boughtBy : fx_mi yX0_boughtBy := ⟨wIn_X0_boughtBy, wSel_X0_boughtBy⟩
theorem kD_X0_wasDone : fx_md yX0_wasDone cX0_wasDone 5 (some .boolean) 3 := ⟨⟨by decide, by decide, by decide +kernel⟩, wCo_X0_wasDone, wI_X0⟩
theorem kI_X0_wasDone : fx_mi yX0_wasDone := ⟨wIn_X0_wasDone, wSel_X0_wasDone⟩
theorem kD_X5_all : fx_md yX5_all cX5_all 1 (some .int) 0 := ⟨⟨by decide, by decide, by decide +kernel⟩, wCo_X5_all, wI_X5⟩
theorem kI_X5_all : fx_mi yX5_all := ⟨wIn_X5_all, wSel_X5_all⟩
theorem kD_X5_allFines : fx_md yX5_allFines cX5_allFines 2 (some .int) 1 := ⟨⟨by decide, by decide, by decide +kernel⟩, wCo_X5_allFines, wI_X5⟩
theorem kI_X5_allFines : fx_mi yX5_allFines := ⟨wIn_X5_allFines, wSel_X5_allFines⟩
theorem kD_X0_finesOf : fx_md yX0_finesOf cX0_finesOf 6 (some .int) 3 := ⟨⟨by decide, by decide, by decide +kernel⟩, wCo_X0_finesOf, wI_X0⟩
theorem kI_X0_finesOf : fx_mi yX0_finesOf := ⟨wIn_X0_finesOf, wSel_X0_finesOf⟩
theorem kD_X0_finesOfHour : fx_md yX0_finesOfHour cX0_finesOfHour 6 (some .int) 3 := ⟨⟨by decide, by decide, by decide +kernel⟩, wCo_X0_finesOfHour, wI_X0⟩
theorem kI_X0_finesOfHour : fx_mi yX0_finesOfHour := ⟨wIn_X0_finesOfHour, wSel_X0_finesOfHour⟩
theorem kD_X5_least : fx_md yX5_least cX5_least 5 (some .int) 2 := ⟨⟨by decide, by decide, by decide +kernel⟩, wCo_X5_least, wI_X5⟩
theorem kI_X5_least : fx_mi yX5_least := ⟨wIn_X5_least, wSel_X5_least⟩
theorem kD_X1_findLeast : fx_md yX1_findLeast cX1_findLeast 4 (some .boolean) 3 := ⟨⟨by decide, by decide, by decide +kernel⟩, wCo_X1_findLeast, wI_X1⟩
theorem kI_X1_findLeast : fx_mi yX1_findLeast := ⟨wIn_X1_findLeast, wSel_X1_findLeast⟩
theorem kD_X1_writeRows : fx_md yX1_writeRows cX1_writeRows 4 none 2 := ⟨⟨by decide, by decide, by decide +kernel⟩, wCo_X1_writeRows, wI_X1⟩
theorem kI_X1_writeRows : fx_mi yX1_writeRows := ⟨wIn_X1_writeRows, wSel_X1_writeRows⟩
theorem kD_X1_writeRowsOf : fx_md yX1_writeRowsOf cX1_writeRowsOf 5 none 3 := ⟨⟨by decide, by decide, by decide +kernel⟩, wCo_X1_writeRowsOf, wI_X1⟩
theorem kI_X1_writeRowsOf : fx_mi yX1_writeRowsOf := ⟨wIn_X1_writeRowsOf, wSel_X1_writeRowsOf⟩
theorem kD_X1_writeFirstRow : fx_md yX1_writeFirstRow cX1_writeFirstRow 7 none 3 := ⟨⟨by decide, by decide, by decide +kernel⟩, wCo_X1_writeFirstRow, wI_X1⟩
theorem kI_X1_writeFirstRow : fx_mi yX1_writeFirstRow := ⟨wIn_X1_writeFirstRow, wSel_X1_writeFirstRow⟩
theorem kD_X5_nextOrder : fx_md yX5_nextOrder cX5_nextOrder 6 (some .boolean) 2 := ⟨⟨by decide, by decide, by decide +kernel⟩, wCo_X5_nextOrder, wI_X5⟩
theorem kD_X5_swap : fx_md yX5_swap cX5_swap 4 none 3 := ⟨⟨by decide, by decide, by decide +kernel⟩, wCo_X5_swap, wI_X5⟩
theorem kD_X1_waysTogether : fx_md yX1_waysTogether cX1_waysTogether 5 (some .long) 1 := ⟨⟨by decide, by decide, by decide +kernel⟩, wCo_X1_waysTogether, wI_X1⟩
theorem kI_X1_waysTogether : fx_mi yX1_waysTogether := ⟨wIn_X1_waysTogether, wSel_X1_waysTogether⟩
theorem kD_X1_search : fx_md yX1_search cX1_search 9 (some .int) 4 := ⟨⟨by decide, by decide, by decide +kernel⟩, wCo_X1_search, wI_X1⟩
theorem kI_X1_search : fx_mi yX1_search := ⟨wIn_X1_search, wSel_X1_search⟩
theorem kD_X1_clearDay : fx_md yX1_clearDay cX1_clearDay 2 none 0 := ⟨⟨by decide, by decide, by decide +kernel⟩, wCo_X1_clearDay, wI_X1⟩
theorem kI_X1_clearDay : fx_mi yX1_clearDay := ⟨wIn_X1_clearDay, wSel_X1_clearDay⟩
theorem kD_X1_liftRow : fx_md yX1_liftRow cX1_liftRow 3 none 1 := ⟨⟨by decide, by decide, by decide +kernel⟩, wCo_X1_liftRow, wI_X1⟩
theorem kI_X1_liftRow : fx_mi yX1_liftRow := ⟨wIn_X1_liftRow, wSel_X1_liftRow⟩
theorem kD_X1_startPerson : fx_md yX1_startPerson cX1_startPerson 8 none 5 := ⟨⟨by decide, by decide, by decide +kernel⟩, wCo_X1_startPerson, wI_X1⟩
theorem kI_X1_startPerson : fx_mi yX1_startPerson := ⟨wIn_X1_startPerson, wSel_X1_startPerson⟩
theorem kD_X0_added : fx_md yX0_added cX0_added 8 (some .int) 5 := ⟨⟨by decide, by decide, by decide +kernel⟩, wCo_X0_added, wI_X0⟩
theorem kI_X0_added : fx_mi yX0_added := ⟨wIn_X0_added, wSel_X0_added⟩
theorem kD_X0_othersWith : fx_md yX0_othersWith cX0_othersWith 7 (some .int) 4 := ⟨⟨by decide, by decide, by decide +kernel⟩, wCo_X0_othersWith, wI_X0⟩
theorem kI_X0_othersWith : fx_mi yX0_othersWith := ⟨wIn_X0_othersWith, wSel_X0_othersWith⟩
theorem kD_X0_addedToCopies : fx_md yX0_addedToCopies cX0_addedToCopies 7 (some .int) 4 := ⟨⟨by decide, by decide, by decide +kernel⟩, wCo_X0_addedToCopies, wI_X0⟩
theorem kI_X0_addedToCopies : fx_mi yX0_addedToCopies := ⟨wIn_X0_addedToCopies, wSel_X0_addedToCopies⟩
theorem kD_X1_priceOfRow : fx_md yX1_priceOfRow cX1_priceOfRow 6 (some .int) 3 := ⟨⟨by decide, by decide, by decide +kernel⟩, wCo_X1_priceOfRow, wI_X1⟩
theorem kI_X1_priceOfRow : fx_mi yX1_priceOfRow := ⟨wIn_X1_priceOfRow, wSel_X1_priceOfRow⟩
theorem kD_X1_layRow : fx_md yX1_layRow cX1_layRow 5 none 3 := ⟨⟨by decide, by decide, by decide +kernel⟩, wCo_X1_layRow, wI_X1⟩
theorem kI_X1_layRow : fx_mi yX1_layRow := ⟨wIn_X1_layRow, wSel_X1_layRow⟩
theorem kD_X1_copyDay : fx_md yX1_copyDay cX1_copyDay 3 none 2 := ⟨⟨by decide, by decide, by decide +kernel⟩, wCo_X1_copyDay, wI_X1⟩
theorem kD_X5_fewest : fx_md yX5_fewest cX5_fewest 2 (some .int) 0 := ⟨⟨by decide, by decide, by decide +kernel⟩, wCo_X5_fewest, wI_X5⟩
theorem kI_X5_fewest : fx_mi yX5_fewest := ⟨wIn_X5_fewest, wSel_X5_fewest⟩
theorem kD_X1_fewestHours : fx_md yX1_fewestHours cX1_fewestHours 4 (some .int) 2 := ⟨⟨by decide, by decide, by decide +kernel⟩, wCo_X1_fewestHours, wI_X1⟩
theorem kI_X1_fewestHours : fx_mi yX1_fewestHours := ⟨wIn_X1_fewestHours, wSel_X1_fewestHours⟩
theorem kD_X5_list : fx_md yX5_list cX5_list 2 (some .int) 1 := ⟨⟨by decide, by decide, by decide +kernel⟩, wCo_X5_list, wI_X5⟩
theorem kI_X5_list : fx_mi yX5_list := ⟨wIn_X5_list, wSel_X5_list⟩
theorem kD_X1_finesByNumber : fx_md yX1_finesByNumber cX1_finesByNumber 3 (some .int) 2 := ⟨⟨by decide, by decide, by decide +kernel⟩, wCo_X1_finesByNumber, wI_X1⟩
theorem kI_X1_finesByNumber : fx_mi yX1_finesByNumber := ⟨wIn_X1_finesByNumber, wSel_X1_finesByNumber⟩
theorem kD_X1_startOrders : fx_md yX1_startOrders cX1_startOrders 3 none 1 := ⟨⟨by decide, by decide, by decide +kernel⟩, wCo_X1_startOrders, wI_X1⟩
theorem kI_X1_startOrders : fx_mi yX1_startOrders := ⟨wIn_X1_startOrders, wSel_X1_startOrders⟩
theorem kD_X1_finesInOrder : fx_md yX1_finesInOrder cX1_finesInOrder 4 (some .int) 2 := ⟨⟨by decide, by decide, by decide +kernel⟩, wCo_X1_finesInOrder, wI_X1⟩
theorem kI_X1_finesInOrder : fx_mi yX1_finesInOrder := ⟨wIn_X1_finesInOrder, wSel_X1_finesInOrder⟩
theorem kD_X1_setPrices : fx_md yX1_setPrices cX1_setPrices 8 none 3 := ⟨⟨by decide, by decide, by decide +kernel⟩, wCo_X1_setPrices, wI_X1⟩
theorem kI_X1_setPrices : fx_mi yX1_setPrices := ⟨wIn_X1_setPrices, wSel_X1_setPrices⟩
theorem kD_X1_bestRow : fx_md yX1_bestRow cX1_bestRow 7 (some .int) 2 := ⟨⟨by decide, by decide, by decide +kernel⟩, wCo_X1_bestRow, wI_X1⟩
theorem kI_X1_bestRow : fx_mi yX1_bestRow := ⟨wIn_X1_bestRow, wSel_X1_bestRow⟩
theorem kD_X1_finesByWorstOrder : fx_md yX1_finesByWorstOrder cX1_finesByWorstOrder 5 (some .int) 2 := ⟨⟨by decide, by decide, by decide +kernel⟩, wCo_X1_finesByWorstOrder, wI_X1⟩
theorem kI_X1_finesByWorstOrder : fx_mi yX1_finesByWorstOrder := ⟨wIn_X1_finesByWorstOrder, wSel_X1_finesByWorstOrder⟩
theorem kD_X5_rests : fx_md yX5_rests cX5_rests 3 (some .int) 1 := ⟨⟨by decide, by decide, by decide +kernel⟩, wCo_X5_rests, wI_X5⟩
theorem kI_X5_rests : fx_mi yX5_rests := ⟨wIn_X5_rests, wSel_X5_rests⟩
theorem kD_X1_roundOfRest : fx_md yX1_roundOfRest cX1_roundOfRest 4 (some .int) 2 := ⟨⟨by decide, by decide, by decide +kernel⟩, wCo_X1_roundOfRest, wI_X1⟩
theorem kI_X1_roundOfRest : fx_mi yX1_roundOfRest := ⟨wIn_X1_roundOfRest, wSel_X1_roundOfRest⟩
theorem kD_X1_anyoneChanges : fx_md yX1_anyoneChanges cX1_anyoneChanges 6 (some .boolean) 2 := ⟨⟨by decide, by decide, by decide +kernel⟩, wCo_X1_anyoneChanges, wI_X1⟩
theorem kI_X1_anyoneChanges : fx_mi yX1_anyoneChanges := ⟨wIn_X1_anyoneChanges, wSel_X1_anyoneChanges⟩
theorem kD_X1_priceOfNow : fx_md yX1_priceOfNow cX1_priceOfNow 5 (some .int) 2 := ⟨⟨by decide, by decide, by decide +kernel⟩, wCo_X1_priceOfNow, wI_X1⟩
theorem kI_X1_priceOfNow : fx_mi yX1_priceOfNow := ⟨wIn_X1_priceOfNow, wSel_X1_priceOfNow⟩
theorem kD_X5_better : fx_md yX5_better cX5_better 7 (some .int) 2 := ⟨⟨by decide, by decide, by decide +kernel⟩, wCo_X5_better, wI_X5⟩
theorem kI_X5_better : fx_mi yX5_better := ⟨wIn_X5_better, wSel_X5_better⟩
theorem kD_X5_name : fx_md yX5_name cX5_name 2 (some .int) 1 := ⟨⟨by decide, by decide, by decide +kernel⟩, wCo_X5_name, wI_X5⟩
theorem kI_X5_name : fx_mi yX5_name := ⟨wIn_X5_name, wSel_X5_name⟩
theorem kD_X5_line : fx_md yX5_line cX5_line 6 (some .int) 1 := ⟨⟨by decide, by decide, by decide +kernel⟩, wCo_X5_line, wI_X5⟩
theorem kI_X5_line : fx_mi yX5_line := ⟨wIn_X5_line, wSel_X5_line⟩
theorem kD_X5_finesOfOne : fx_md yX5_finesOfOne cX5_finesOfOne 4 (some .int) 1 := ⟨⟨by decide, by decide, by decide +kernel⟩, wCo_X5_finesOfOne, wI_X5⟩
theorem kI_X5_finesOfOne : fx_mi yX5_finesOfOne := ⟨wIn_X5_finesOfOne, wSel_X5_finesOfOne⟩
theorem kD_X5_choir : fx_md yX5_choir cX5_choir 3 (some .int) 2 := ⟨⟨by decide, by decide, by decide +kernel⟩, wCo_X5_choir, wI_X5⟩
theorem kI_X5_choir : fx_mi yX5_choir := ⟨wIn_X5_choir, wSel_X5_choir⟩
theorem kD_X0_leastOfChoir : fx_md yX0_leastOfChoir cX0_leastOfChoir 6 (some .int) 3 := ⟨⟨by decide, by decide, by decide +kernel⟩, wCo_X0_leastOfChoir, wI_X0⟩
theorem kI_X0_leastOfChoir : fx_mi yX0_leastOfChoir := ⟨wIn_X0_leastOfChoir, wSel_X0_leastOfChoir⟩
theorem kD_X5_told : fx_md yX5_told cX5_told 4 (some .int) 2 := ⟨⟨by decide, by decide, by decide +kernel⟩, wCo_X5_told, wI_X5⟩
theorem kI_X5_told : fx_mi yX5_told := ⟨wIn_X5_told, wSel_X5_told⟩
theorem kD_X5_did : fx_md yX5_did cX5_did 3 (some .int) 2 := ⟨⟨by decide, by decide, by decide +kernel⟩, wCo_X5_did, wI_X5⟩
theorem kI_X5_did : fx_mi yX5_did := ⟨wIn_X5_did, wSel_X5_did⟩
theorem kD_X2_findWays : fx_md yX2_findWays cX2_findWays 7 none 4 := ⟨⟨by decide, by decide, by decide +kernel⟩, wCo_X2_findWays, wI_X2⟩
theorem kI_X2_findWays : fx_mi yX2_findWays := ⟨wIn_X2_findWays, wSel_X2_findWays⟩
theorem kD_X2_mayHavePaid : fx_md yX2_mayHavePaid cX2_mayHavePaid 12 (some .boolean) 4 := ⟨⟨by decide, by decide, by decide +kernel⟩, wCo_X2_mayHavePaid, wI_X2⟩
theorem kI_X2_mayHavePaid : fx_mi yX2_mayHavePaid := ⟨wIn_X2_mayHavePaid, wSel_X2_mayHavePaid⟩
theorem kD_X2_countWay : fx_md yX2_countWay cX2_countWay 1 none 0 := ⟨⟨by decide, by decide, by decide +kernel⟩, wCo_X2_countWay, wI_X2⟩
theorem kI_X2_countWay : fx_mi yX2_countWay := ⟨wIn_X2_countWay, wSel_X2_countWay⟩
theorem kD_X5_copied : fx_md yX5_copied cX5_copied 6 (some .int) 1 := ⟨⟨by decide, by decide, by decide +kernel⟩, wCo_X5_copied, wI_X5⟩
theorem kI_X5_copied : fx_mi yX5_copied := ⟨wIn_X5_copied, wSel_X5_copied⟩
theorem kD_X5_timesCopied : fx_md yX5_timesCopied cX5_timesCopied 6 (some .int) 2 := ⟨⟨by decide, by decide, by decide +kernel⟩, wCo_X5_timesCopied, wI_X5⟩
theorem kI_X5_timesCopied : fx_mi yX5_timesCopied := ⟨wIn_X5_timesCopied, wSel_X5_timesCopied⟩
theorem kD_X5_crowd : fx_md yX5_crowd cX5_crowd 10 (some .int) 3 := ⟨⟨by decide, by decide, by decide +kernel⟩, wCo_X5_crowd, wI_X5⟩
theorem kI_X5_crowd : fx_mi yX5_crowd := ⟨wIn_X5_crowd, wSel_X5_crowd⟩
theorem kD_X5_crowdsOfAtLeast : fx_md yX5_crowdsOfAtLeast cX5_crowdsOfAtLeast 10 (some .long) 3 := ⟨⟨by decide, by decide, by decide +kernel⟩, wCo_X5_crowdsOfAtLeast, wI_X5⟩
theorem kD_X5_commonDivisor : fx_md yX5_commonDivisor cX5_commonDivisor 11 (some .long) 2 := ⟨⟨by decide, by decide, by decide +kernel⟩, wCo_X5_commonDivisor, wI_X5⟩
theorem kD_J9_max_f86c9 : fx_md yJ9_max_f86c9 cJ9_max_f86c9 4 (some .long) 2 := ⟨⟨by decide, by decide, by decide +kernel⟩, wCo_J9_max_f86c9, wI_J9⟩
theorem kD_X5_part : fx_md yX5_part cX5_part 2 (some .long) 1 := ⟨⟨by decide, by decide, by decide +kernel⟩, wCo_X5_part, wI_X5⟩
theorem kI_X5_part : fx_mi yX5_part := ⟨wIn_X5_part, wSel_X5_part⟩
theorem kD_X5_image : fx_md yX5_image cX5_image 2 (some .int) 1 := ⟨⟨by decide, by decide, by decide +kernel⟩, wCo_X5_image, wI_X5⟩
theorem kI_X5_image : fx_mi yX5_image := ⟨wIn_X5_image, wSel_X5_image⟩
theorem kD_X5_from : fx_md yX5_from cX5_from 2 (some .int) 1 := ⟨⟨by decide, by decide, by decide +kernel⟩, wCo_X5_from, wI_X5⟩
theorem kI_X5_from : fx_mi yX5_from := ⟨wIn_X5_from, wSel_X5_from⟩
theorem kD_X5_status : fx_md yX5_status cX5_status 2 (some .int) 1 := ⟨⟨by decide, by decide, by decide +kernel⟩, wCo_X5_status, wI_X5⟩
theorem kI_X5_status : fx_mi yX5_status := ⟨wIn_X5_status, wSel_X5_status⟩
theorem kD_X5_count : fx_md yX5_count cX5_count 2 (some .int) 1 := ⟨⟨by decide, by decide, by decide +kernel⟩, wCo_X5_count, wI_X5⟩
theorem kI_X5_count : fx_mi yX5_count := ⟨wIn_X5_count, wSel_X5_count⟩
theorem kD_X5_amount : fx_md yX5_amount cX5_amount 2 (some .int) 1 := ⟨⟨by decide, by decide, by decide +kernel⟩, wCo_X5_amount, wI_X5⟩
theorem kI_X5_amount : fx_mi yX5_amount := ⟨wIn_X5_amount, wSel_X5_amount⟩
theorem kD_X5_digest : fx_md yX5_digest cX5_digest 4 (some .long) 0 := ⟨⟨by decide, by decide, by decide +kernel⟩, wCo_X5_digest, wI_X5⟩
theorem kI_X5_digest : fx_mi yX5_digest := ⟨wIn_X5_digest, wSel_X5_digest⟩
theorem kD_X5_digestWith : fx_md yX5_digestWith cX5_digestWith 7 (some .long) 2 := ⟨⟨by decide, by decide, by decide +kernel⟩, wCo_X5_digestWith, wI_X5⟩
theorem kI_X5_digestWith : fx_mi yX5_digestWith := ⟨wIn_X5_digestWith, wSel_X5_digestWith⟩
theorem kD_X6_init : fx_md yX6_init cX6_init 1 none 0 := ⟨⟨by decide, by decide, by decide +kernel⟩, wCo_X6_init, wI_X6⟩
theorem kD_X6_begin : fx_md yX6_begin cX6_begin 4 none 3 := ⟨⟨by decide, by decide, by decide +kernel⟩, wCo_X6_begin, wI_X6⟩
theorem kD_X6_thing : fx_md yX6_thing cX6_thing 3 (some .int) 1 := ⟨⟨by decide, by decide, by decide +kernel⟩, wCo_X6_thing, wI_X6⟩
theorem kI_X6_thing : fx_mi yX6_thing := ⟨wIn_X6_thing, wSel_X6_thing⟩
theorem kD_X6_isThing : fx_md yX6_isThing cX6_isThing 2 (some .boolean) 1 := ⟨⟨by decide, by decide, by decide +kernel⟩, wCo_X6_isThing, wI_X6⟩
theorem kI_X6_isThing : fx_mi yX6_isThing := ⟨wIn_X6_isThing, wSel_X6_isThing⟩
theorem kD_X6_things : fx_md yX6_things cX6_things 1 (some .int) 0 := ⟨⟨by decide, by decide, by decide +kernel⟩, wCo_X6_things, wI_X6⟩
theorem kI_X6_things : fx_mi yX6_things := ⟨wIn_X6_things, wSel_X6_things⟩
theorem kD_X6_in : fx_md yX6_in cX6_in 6 (some .boolean) 3 := ⟨⟨by decide, by decide, by decide +kernel⟩, wCo_X6_in, wI_X6⟩
theorem kD_X6_bad : fx_md yX6_bad cX6_bad 2 (some .int) 1 := ⟨⟨by decide, by decide, by decide +kernel⟩, wCo_X6_bad, wI_X6⟩
theorem kI_X6_bad : fx_mi yX6_bad := ⟨wIn_X6_bad, wSel_X6_bad⟩
theorem kD_X6_full : fx_md yX6_full cX6_full 1 (some .int) 0 := ⟨⟨by decide, by decide, by decide +kernel⟩, wCo_X6_full, wI_X6⟩
theorem kI_X6_full : fx_mi yX6_full := ⟨wIn_X6_full, wSel_X6_full⟩
theorem kD_X6_town : fx_md yX6_town cX6_town 3 (some .int) 2 := ⟨⟨by decide, by decide, by decide +kernel⟩, wCo_X6_town, wI_X6⟩
theorem kI_X6_town : fx_mi yX6_town := ⟨wIn_X6_town, wSel_X6_town⟩
theorem kD_X6_put : fx_md yX6_put cX6_put 7 (some .int) 3 := ⟨⟨by decide, by decide, by decide +kernel⟩, wCo_X6_put, wI_X6⟩
theorem kI_X6_put : fx_mi yX6_put := ⟨wIn_X6_put, wSel_X6_put⟩
theorem kD_X6_isHour : fx_md yX6_isHour cX6_isHour 2 (some .boolean) 1 := ⟨⟨by decide, by decide, by decide +kernel⟩, wCo_X6_isHour, wI_X6⟩
theorem kI_X6_isHour : fx_mi yX6_isHour := ⟨wIn_X6_isHour, wSel_X6_isHour⟩
theorem kD_X6_hours : fx_md yX6_hours cX6_hours 1 (some .int) 0 := ⟨⟨by decide, by decide, by decide +kernel⟩, wCo_X6_hours, wI_X6⟩
theorem kI_X6_hours : fx_mi yX6_hours := ⟨wIn_X6_hours, wSel_X6_hours⟩
theorem kD_X6_isOne : fx_md yX6_isOne cX6_isOne 2 (some .boolean) 1 := ⟨⟨by decide, by decide, by decide +kernel⟩, wCo_X6_isOne, wI_X6⟩
theorem kI_X6_isOne : fx_mi yX6_isOne := ⟨wIn_X6_isOne, wSel_X6_isOne⟩
theorem kD_X6_people : fx_md yX6_people cX6_people 1 (some .int) 0 := ⟨⟨by decide, by decide, by decide +kernel⟩, wCo_X6_people, wI_X6⟩
theorem kI_X6_people : fx_mi yX6_people := ⟨wIn_X6_people, wSel_X6_people⟩
theorem kD_X6_does : fx_md yX6_does cX6_does 6 (some .int) 3 := ⟨⟨by decide, by decide, by decide +kernel⟩, wCo_X6_does, wI_X6⟩
theorem kI_X6_does : fx_mi yX6_does := ⟨wIn_X6_does, wSel_X6_does⟩
theorem kD_X6_undo : fx_md yX6_undo cX6_undo 2 (some .int) 0 := ⟨⟨by decide, by decide, by decide +kernel⟩, wCo_X6_undo, wI_X6⟩
theorem kI_X6_undo : fx_mi yX6_undo := ⟨wIn_X6_undo, wSel_X6_undo⟩
theorem kD_X6_no : fx_md yX6_no cX6_no 1 (some .int) 0 := ⟨⟨by decide, by decide, by decide +kernel⟩, wCo_X6_no, wI_X6⟩
theorem kI_X6_no : fx_mi yX6_no := ⟨wIn_X6_no, wSel_X6_no⟩
theorem kD_X6_need : fx_md yX6_need cX6_need 6 (some .int) 3 := ⟨⟨by decide, by decide, by decide +kernel⟩, wCo_X6_need, wI_X6⟩
theorem kI_X6_need : fx_mi yX6_need := ⟨wIn_X6_need, wSel_X6_need⟩
theorem kD_X6_needsOf : fx_md yX6_needsOf cX6_needsOf 4 (some .int) 2 := ⟨⟨by decide, by decide, by decide +kernel⟩, wCo_X6_needsOf, wI_X6⟩
theorem kD_X6_at : fx_md yX6_at cX6_at 2 (some .int) 1 := ⟨⟨by decide, by decide, by decide +kernel⟩, wCo_X6_at, wI_X6⟩
theorem kI_X6_at : fx_mi yX6_at := ⟨wIn_X6_at, wSel_X6_at⟩
theorem kD_X6_layNow : fx_md yX6_layNow cX6_layNow 1 none 0 := ⟨⟨by decide, by decide, by decide +kernel⟩, wCo_X6_layNow, wI_X6⟩
theorem kI_X6_layNow : fx_mi yX6_layNow := ⟨wIn_X6_layNow, wSel_X6_layNow⟩
theorem kD_X6_layLine : fx_md yX6_layLine cX6_layLine 6 none 2 := ⟨⟨by decide, by decide, by decide +kernel⟩, wCo_X6_layLine, wI_X6⟩
theorem kI_X6_layLine : fx_mi yX6_layLine := ⟨wIn_X6_layLine, wSel_X6_layLine⟩
theorem kD_X6_depth : fx_md yX6_depth cX6_depth 4 (some .int) 1 := ⟨⟨by decide, by decide, by decide +kernel⟩, wCo_X6_depth, wI_X6⟩
theorem kI_X6_depth : fx_mi yX6_depth := ⟨wIn_X6_depth, wSel_X6_depth⟩
theorem kD_X6_pays : fx_md yX6_pays cX6_pays 3 (some .int) 2 := ⟨⟨by decide, by decide, by decide +kernel⟩, wCo_X6_pays, wI_X6⟩
theorem kI_X6_pays : fx_mi yX6_pays := ⟨wIn_X6_pays, wSel_X6_pays⟩
theorem kD_X6_takeDone : fx_md yX6_takeDone cX6_takeDone 2 none 0 := ⟨⟨by decide, by decide, by decide +kernel⟩, wCo_X6_takeDone, wI_X6⟩
theorem kI_X6_takeDone : fx_mi yX6_takeDone := ⟨wIn_X6_takeDone, wSel_X6_takeDone⟩
theorem kD_X6_paysOf : fx_md yX6_paysOf cX6_paysOf 10 (some .int) 2 := ⟨⟨by decide, by decide, by decide +kernel⟩, wCo_X6_paysOf, wI_X6⟩
theorem kI_X6_paysOf : fx_mi yX6_paysOf := ⟨wIn_X6_paysOf, wSel_X6_paysOf⟩
theorem kD_X6_doing : fx_md yX6_doing cX6_doing 3 (some .int) 2 := ⟨⟨by decide, by decide, by decide +kernel⟩, wCo_X6_doing, wI_X6⟩
theorem kI_X6_doing : fx_mi yX6_doing := ⟨wIn_X6_doing, wSel_X6_doing⟩
theorem kD_X6_isWith : fx_md yX6_isWith cX6_isWith 7 (some .boolean) 4 := ⟨⟨by decide, by decide, by decide +kernel⟩, wCo_X6_isWith, wI_X6⟩
theorem kI_X6_isWith : fx_mi yX6_isWith := ⟨wIn_X6_isWith, wSel_X6_isWith⟩
theorem kD_X6_wasDone : fx_md yX6_wasDone cX6_wasDone 6 (some .boolean) 2 := ⟨⟨by decide, by decide, by decide +kernel⟩, wCo_X6_wasDone, wI_X6⟩
theorem kI_X6_wasDone : fx_mi yX6_wasDone := ⟨wIn_X6_wasDone, wSel_X6_wasDone⟩
theorem kD_X6_all : fx_md yX6_all cX6_all 1 (some .int) 0 := ⟨⟨by decide, by decide, by decide +kernel⟩, wCo_X6_all, wI_X6⟩
theorem kI_X6_all : fx_mi yX6_all := ⟨wIn_X6_all, wSel_X6_all⟩
theorem kD_X6_allIn : fx_md yX6_allIn cX6_allIn 4 (some .int) 1 := ⟨⟨by decide, by decide, by decide +kernel⟩, wCo_X6_allIn, wI_X6⟩
theorem kI_X6_allIn : fx_mi yX6_allIn := ⟨wIn_X6_allIn, wSel_X6_allIn⟩
theorem kD_X6_paysIn : fx_md yX6_paysIn cX6_paysIn 5 (some .int) 2 := ⟨⟨by decide, by decide, by decide +kernel⟩, wCo_X6_paysIn, wI_X6⟩
theorem kI_X6_paysIn : fx_mi yX6_paysIn := ⟨wIn_X6_paysIn, wSel_X6_paysIn⟩
theorem kD_X6_least : fx_md yX6_least cX6_least 6 (some .int) 2 := ⟨⟨by decide, by decide, by decide +kernel⟩, wCo_X6_least, wI_X6⟩
theorem kI_X6_least : fx_mi yX6_least := ⟨wIn_X6_least, wSel_X6_least⟩
theorem kD_X6_findAllRows : fx_md yX6_findAllRows cX6_findAllRows 3 none 1 := ⟨⟨by decide, by decide, by decide +kernel⟩, wCo_X6_findAllRows, wI_X6⟩
theorem kI_X6_findAllRows : fx_mi yX6_findAllRows := ⟨wIn_X6_findAllRows, wSel_X6_findAllRows⟩
theorem kD_X6_findRows : fx_md yX6_findRows cX6_findRows 4 none 2 := ⟨⟨by decide, by decide, by decide +kernel⟩, wCo_X6_findRows, wI_X6⟩
theorem kI_X6_findRows : fx_mi yX6_findRows := ⟨wIn_X6_findRows, wSel_X6_findRows⟩
theorem kD_X6_takeNeeds : fx_md yX6_takeNeeds cX6_takeNeeds 5 none 2 := ⟨⟨by decide, by decide, by decide +kernel⟩, wCo_X6_takeNeeds, wI_X6⟩
theorem kI_X6_takeNeeds : fx_mi yX6_takeNeeds := ⟨wIn_X6_takeNeeds, wSel_X6_takeNeeds⟩
theorem kD_X6_keepRow : fx_md yX6_keepRow cX6_keepRow 5 none 2 := ⟨⟨by decide, by decide, by decide +kernel⟩, wCo_X6_keepRow, wI_X6⟩
theorem kI_X6_keepRow : fx_mi yX6_keepRow := ⟨wIn_X6_keepRow, wSel_X6_keepRow⟩
theorem kD_X6_ways : fx_md yX6_ways cX6_ways 4 (some .long) 0 := ⟨⟨by decide, by decide, by decide +kernel⟩, wCo_X6_ways, wI_X6⟩
theorem kI_X6_ways : fx_mi yX6_ways := ⟨wIn_X6_ways, wSel_X6_ways⟩
theorem kD_X6_findLeast : fx_md yX6_findLeast cX6_findLeast 11 (some .int) 1 := ⟨⟨by decide, by decide, by decide +kernel⟩, wCo_X6_findLeast, wI_X6⟩
theorem kI_X6_findLeast : fx_mi yX6_findLeast := ⟨wIn_X6_findLeast, wSel_X6_findLeast⟩
theorem kD_X6_takeNothing : fx_md yX6_takeNothing cX6_takeNothing 2 none 0 := ⟨⟨by decide, by decide, by decide +kernel⟩, wCo_X6_takeNothing, wI_X6⟩
theorem kI_X6_takeNothing : fx_mi yX6_takeNothing := ⟨wIn_X6_takeNothing, wSel_X6_takeNothing⟩
theorem kD_X6_takeRow : fx_md yX6_takeRow cX6_takeRow 5 none 3 := ⟨⟨by decide, by decide, by decide +kernel⟩, wCo_X6_takeRow, wI_X6⟩
theorem kI_X6_takeRow : fx_mi yX6_takeRow := ⟨wIn_X6_takeRow, wSel_X6_takeRow⟩
theorem kD_X6_fewest : fx_md yX6_fewest cX6_fewest 2 (some .int) 0 := ⟨⟨by decide, by decide, by decide +kernel⟩, wCo_X6_fewest, wI_X6⟩
theorem kI_X6_fewest : fx_mi yX6_fewest := ⟨wIn_X6_fewest, wSel_X6_fewest⟩
theorem kD_X6_list : fx_md yX6_list cX6_list 7 (some .int) 1 := ⟨⟨by decide, by decide, by decide +kernel⟩, wCo_X6_list, wI_X6⟩
theorem kI_X6_list : fx_mi yX6_list := ⟨wIn_X6_list, wSel_X6_list⟩
theorem kD_X6_layOrder : fx_md yX6_layOrder cX6_layOrder 6 (some .boolean) 1 := ⟨⟨by decide, by decide, by decide +kernel⟩, wCo_X6_layOrder, wI_X6⟩
theorem kI_X6_layOrder : fx_mi yX6_layOrder := ⟨wIn_X6_layOrder, wSel_X6_layOrder⟩
theorem kD_X6_listed : fx_md yX6_listed cX6_listed 3 (some .int) 0 := ⟨⟨by decide, by decide, by decide +kernel⟩, wCo_X6_listed, wI_X6⟩
theorem kI_X6_listed : fx_mi yX6_listed := ⟨wIn_X6_listed, wSel_X6_listed⟩
theorem kD_X6_takeBest : fx_md yX6_takeBest cX6_takeBest 6 (some .int) 1 := ⟨⟨by decide, by decide, by decide +kernel⟩, wCo_X6_takeBest, wI_X6⟩
theorem kI_X6_takeBest : fx_mi yX6_takeBest := ⟨wIn_X6_takeBest, wSel_X6_takeBest⟩
theorem kD_X6_rests : fx_md yX6_rests cX6_rests 6 (some .int) 1 := ⟨⟨by decide, by decide, by decide +kernel⟩, wCo_X6_rests, wI_X6⟩
theorem kI_X6_rests : fx_mi yX6_rests := ⟨wIn_X6_rests, wSel_X6_rests⟩
theorem kD_X6_changes : fx_md yX6_changes cX6_changes 4 (some .boolean) 1 := ⟨⟨by decide, by decide, by decide +kernel⟩, wCo_X6_changes, wI_X6⟩
theorem kI_X6_changes : fx_mi yX6_changes := ⟨wIn_X6_changes, wSel_X6_changes⟩
theorem kD_X6_better : fx_md yX6_better cX6_better 7 (some .int) 2 := ⟨⟨by decide, by decide, by decide +kernel⟩, wCo_X6_better, wI_X6⟩
theorem kI_X6_better : fx_mi yX6_better := ⟨wIn_X6_better, wSel_X6_better⟩
theorem kD_X6_name : fx_md yX6_name cX6_name 3 (some .int) 1 := ⟨⟨by decide, by decide, by decide +kernel⟩, wCo_X6_name, wI_X6⟩
theorem kI_X6_name : fx_mi yX6_name := ⟨wIn_X6_name, wSel_X6_name⟩
theorem kD_X6_line : fx_md yX6_line cX6_line 6 (some .int) 1 := ⟨⟨by decide, by decide, by decide +kernel⟩, wCo_X6_line, wI_X6⟩
theorem kI_X6_line : fx_mi yX6_line := ⟨wIn_X6_line, wSel_X6_line⟩
theorem kD_X6_choir : fx_md yX6_choir cX6_choir 7 (some .int) 2 := ⟨⟨by decide, by decide, by decide +kernel⟩, wCo_X6_choir, wI_X6⟩
theorem kI_X6_choir : fx_mi yX6_choir := ⟨wIn_X6_choir, wSel_X6_choir⟩
theorem kD_X6_told : fx_md yX6_told cX6_told 4 (some .int) 2 := ⟨⟨by decide, by decide, by decide +kernel⟩, wCo_X6_told, wI_X6⟩
theorem kI_X6_told : fx_mi yX6_told := ⟨wIn_X6_told, wSel_X6_told⟩
theorem kD_X6_did : fx_md yX6_did cX6_did 10 (some .int) 2 := ⟨⟨by decide, by decide, by decide +kernel⟩, wCo_X6_did, wI_X6⟩
theorem kI_X6_did : fx_mi yX6_did := ⟨wIn_X6_did, wSel_X6_did⟩
theorem kD_X6_pay : fx_md yX6_pay cX6_pay 4 (some .boolean) 1 := ⟨⟨by decide, by decide, by decide +kernel⟩, wCo_X6_pay, wI_X6⟩
theorem kI_X6_pay : fx_mi yX6_pay := ⟨wIn_X6_pay, wSel_X6_pay⟩
theorem kD_X6_copied : fx_md yX6_copied cX6_copied 8 (some .int) 1 := ⟨⟨by decide, by decide, by decide +kernel⟩, wCo_X6_copied, wI_X6⟩
theorem kI_X6_copied : fx_mi yX6_copied := ⟨wIn_X6_copied, wSel_X6_copied⟩
theorem kD_X6_crowd : fx_md yX6_crowd cX6_crowd 16 (some .int) 3 := ⟨⟨by decide, by decide, by decide +kernel⟩, wCo_X6_crowd, wI_X6⟩
theorem kI_X6_crowd : fx_mi yX6_crowd := ⟨wIn_X6_crowd, wSel_X6_crowd⟩
theorem kD_X6_type : fx_md yX6_type cX6_type 5 (some .int) 2 := ⟨⟨by decide, by decide, by decide +kernel⟩, wCo_X6_type, wI_X6⟩
theorem kI_X6_type : fx_mi yX6_type := ⟨wIn_X6_type, wSel_X6_type⟩
theorem kD_X6_clear : fx_md yX6_clear cX6_clear 2 (some .int) 0 := ⟨⟨by decide, by decide, by decide +kernel⟩, wCo_X6_clear, wI_X6⟩
theorem kI_X6_clear : fx_mi yX6_clear := ⟨wIn_X6_clear, wSel_X6_clear⟩
theorem kD_X6_read : fx_md yX6_read cX6_read 3 (some .int) 0 := ⟨⟨by decide, by decide, by decide +kernel⟩, wCo_X6_read, wI_X6⟩
theorem kI_X6_read : fx_mi yX6_read := ⟨wIn_X6_read, wSel_X6_read⟩
theorem kD_X6_look : fx_md yX6_look cX6_look 5 none 1 := ⟨⟨by decide, by decide, by decide +kernel⟩, wCo_X6_look, wI_X6⟩
theorem kI_X6_look : fx_mi yX6_look := ⟨wIn_X6_look, wSel_X6_look⟩
theorem kD_X6_isSmall : fx_md yX6_isSmall cX6_isSmall 1 (some .boolean) 1 := ⟨⟨by decide, by decide, by decide +kernel⟩, wCo_X6_isSmall, wI_X6⟩
theorem kD_X6_isFigure : fx_md yX6_isFigure cX6_isFigure 1 (some .boolean) 1 := ⟨⟨by decide, by decide, by decide +kernel⟩, wCo_X6_isFigure, wI_X6⟩
theorem kD_X6_readsItem : fx_md yX6_readsItem cX6_readsItem 3 (some .boolean) 0 := ⟨⟨by decide, by decide, by decide +kernel⟩, wCo_X6_readsItem, wI_X6⟩
theorem kI_X6_readsItem : fx_mi yX6_readsItem := ⟨wIn_X6_readsItem, wSel_X6_readsItem⟩
theorem kD_X6_isWord : fx_md yX6_isWord cX6_isWord 10 (some .boolean) 6 := ⟨⟨by decide, by decide, by decide +kernel⟩, wCo_X6_isWord, wI_X6⟩
theorem kI_X6_isWord : fx_mi yX6_isWord := ⟨wIn_X6_isWord, wSel_X6_isWord⟩
theorem kD_X6_readsThing : fx_md yX6_readsThing cX6_readsThing 2 (some .boolean) 0 := ⟨⟨by decide, by decide, by decide +kernel⟩, wCo_X6_readsThing, wI_X6⟩
theorem kI_X6_readsThing : fx_mi yX6_readsThing := ⟨wIn_X6_readsThing, wSel_X6_readsThing⟩
theorem kD_X6_goOn : fx_md yX6_goOn cX6_goOn 1 none 0 := ⟨⟨by decide, by decide, by decide +kernel⟩, wCo_X6_goOn, wI_X6⟩
theorem kI_X6_goOn : fx_mi yX6_goOn := ⟨wIn_X6_goOn, wSel_X6_goOn⟩
theorem kD_X6_takes : fx_md yX6_takes cX6_takes 4 (some .boolean) 3 := ⟨⟨by decide, by decide, by decide +kernel⟩, wCo_X6_takes, wI_X6⟩
theorem kI_X6_takes : fx_mi yX6_takes := ⟨wIn_X6_takes, wSel_X6_takes⟩
theorem kD_X6_readsSize : fx_md yX6_readsSize cX6_readsSize 3 (some .boolean) 1 := ⟨⟨by decide, by decide, by decide +kernel⟩, wCo_X6_readsSize, wI_X6⟩
theorem kI_X6_readsSize : fx_mi yX6_readsSize := ⟨wIn_X6_readsSize, wSel_X6_readsSize⟩
theorem kD_X6_readsHour : fx_md yX6_readsHour cX6_readsHour 1 (some .boolean) 0 := ⟨⟨by decide, by decide, by decide +kernel⟩, wCo_X6_readsHour, wI_X6⟩
theorem kI_X6_readsHour : fx_mi yX6_readsHour := ⟨wIn_X6_readsHour, wSel_X6_readsHour⟩
theorem kD_X6_readsDoes : fx_md yX6_readsDoes cX6_readsDoes 1 (some .boolean) 0 := ⟨⟨by decide, by decide, by decide +kernel⟩, wCo_X6_readsDoes, wI_X6⟩
theorem kI_X6_readsDoes : fx_mi yX6_readsDoes := ⟨wIn_X6_readsDoes, wSel_X6_readsDoes⟩
theorem kD_X6_readsNeed : fx_md yX6_readsNeed cX6_readsNeed 3 (some .boolean) 0 := ⟨⟨by decide, by decide, by decide +kernel⟩, wCo_X6_readsNeed, wI_X6⟩
theorem kI_X6_readsNeed : fx_mi yX6_readsNeed := ⟨wIn_X6_readsNeed, wSel_X6_readsNeed⟩
theorem kD_X6_part : fx_md yX6_part cX6_part 2 (some .long) 1 := ⟨⟨by decide, by decide, by decide +kernel⟩, wCo_X6_part, wI_X6⟩
theorem kI_X6_part : fx_mi yX6_part := ⟨wIn_X6_part, wSel_X6_part⟩
theorem kD_X6_image : fx_md yX6_image cX6_image 3 (some .int) 1 := ⟨⟨by decide, by decide, by decide +kernel⟩, wCo_X6_image, wI_X6⟩
theorem kI_X6_image : fx_mi yX6_image := ⟨wIn_X6_image, wSel_X6_image⟩
theorem kD_X6_from : fx_md yX6_from cX6_from 3 (some .int) 1 := ⟨⟨by decide, by decide, by decide +kernel⟩, wCo_X6_from, wI_X6⟩
theorem kI_X6_from : fx_mi yX6_from := ⟨wIn_X6_from, wSel_X6_from⟩
theorem kD_X6_status : fx_md yX6_status cX6_status 2 (some .int) 1 := ⟨⟨by decide, by decide, by decide +kernel⟩, wCo_X6_status, wI_X6⟩
theorem kI_X6_status : fx_mi yX6_status := ⟨wIn_X6_status, wSel_X6_status⟩
theorem kD_X6_count : fx_md yX6_count cX6_count 2 (some .int) 1 := ⟨⟨by decide, by decide, by decide +kernel⟩, wCo_X6_count, wI_X6⟩
theorem kI_X6_count : fx_mi yX6_count := ⟨wIn_X6_count, wSel_X6_count⟩
theorem kD_X6_counted : fx_md yX6_counted cX6_counted 2 (some .int) 1 := ⟨⟨by decide, by decide, by decide +kernel⟩, wCo_X6_counted, wI_X6⟩
theorem kI_X6_counted : fx_mi yX6_counted := ⟨wIn_X6_counted, wSel_X6_counted⟩
theorem kD_X6_digest : fx_md yX6_digest cX6_digest 4 (some .long) 0 := ⟨⟨by decide, by decide, by decide +kernel⟩, wCo_X6_digest, wI_X6⟩
theorem kI_X6_digest : fx_mi yX6_digest := ⟨wIn_X6_digest, wSel_X6_digest⟩
theorem kD_X6_sums : fx_md yX6_sums cX6_sums 8 (some .long) 3 := ⟨⟨by decide, by decide, by decide +kernel⟩, wCo_X6_sums, wI_X6⟩
theorem kI_X6_sums : fx_mi yX6_sums := ⟨wIn_X6_sums, wSel_X6_sums⟩
