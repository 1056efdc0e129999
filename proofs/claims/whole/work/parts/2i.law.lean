def s_L_law_1 (Fu : Nat) (Λ : fx_L) (L_0 : Int) (xs : Int → Int) (script_3 : Int) (x_4 : Int) (m_5 : Int) : Int × fx_H → Option ((Int × fx_H) ⊕ ((Int × fx_H) ⊕ (Int))) := fun (i_1, h2) =>
  if i_1 ≤ (fx_w (L_0 - 4)) then
    (fx_rs L_0 xs i_1).bind fun v8 =>
    if (fx_iand v8 31) = 0 then
      (fx_rs L_0 xs (fx_w (i_1 + 1))).bind fun v11 =>
      (f_X5_thing Fu Λ x_4 v11 h2).bind fun (v13, h14) =>
      (fx_rs L_0 xs (fx_w (i_1 + 1))).bind fun v16 =>
      (f_X6_thing Fu Λ m_5 v16 h14).bind fun (v18, h19) =>
      if ¬ v13 = v18 then
        some (.inr (.inr 0))
      else
        some (.inl ((fx_w (i_1 + 4)), h19))
    else
      if (fx_iand v8 31) = 1 then
        (fx_rs L_0 xs (fx_w (i_1 + 1))).bind fun v24 =>
        (fx_rs L_0 xs (fx_w (i_1 + 2))).bind fun v26 =>
        (f_X5_town Fu Λ x_4 v24 v26 h2).bind fun (v28, h29) =>
        (fx_rs L_0 xs (fx_w (i_1 + 1))).bind fun v31 =>
        (fx_rs L_0 xs (fx_w (i_1 + 2))).bind fun v33 =>
        (f_X6_town Fu Λ m_5 v31 v33 h29).bind fun (v35, h36) =>
        if ¬ v28 = v35 then
          some (.inr (.inr 0))
        else
          some (.inl ((fx_w (i_1 + 4)), h36))
      else
        if (fx_iand v8 31) = 2 then
          (fx_rs L_0 xs (fx_w (i_1 + 1))).bind fun v41 =>
          (fx_rs L_0 xs (fx_w (i_1 + 2))).bind fun v43 =>
          (fx_rs L_0 xs (fx_w (i_1 + 3))).bind fun v45 =>
          (f_X5_put Fu Λ x_4 v41 v43 v45 h2).bind fun (v47, h48) =>
          (fx_rs L_0 xs (fx_w (i_1 + 1))).bind fun v50 =>
          (fx_rs L_0 xs (fx_w (i_1 + 2))).bind fun v52 =>
          (fx_rs L_0 xs (fx_w (i_1 + 3))).bind fun v54 =>
          (f_X6_put Fu Λ m_5 v50 v52 v54 h48).bind fun (v56, h57) =>
          if ¬ v47 = v56 then
            some (.inr (.inr 0))
          else
            some (.inl ((fx_w (i_1 + 4)), h57))
        else
          if (fx_iand v8 31) = 3 then
            (fx_rs L_0 xs (fx_w (i_1 + 1))).bind fun v62 =>
            (fx_rs L_0 xs (fx_w (i_1 + 2))).bind fun v64 =>
            (fx_rs L_0 xs (fx_w (i_1 + 3))).bind fun v66 =>
            (f_X5_does Fu Λ x_4 v62 v64 v66 h2).bind fun (v68, h69) =>
            (fx_rs L_0 xs (fx_w (i_1 + 1))).bind fun v71 =>
            (fx_rs L_0 xs (fx_w (i_1 + 2))).bind fun v73 =>
            (fx_rs L_0 xs (fx_w (i_1 + 3))).bind fun v75 =>
            (f_X6_does Fu Λ m_5 v71 v73 v75 h69).bind fun (v77, h78) =>
            if ¬ v68 = v77 then
              some (.inr (.inr 0))
            else
              some (.inl ((fx_w (i_1 + 4)), h78))
          else
            if (fx_iand v8 31) = 4 then
              (f_X5_undo Fu Λ x_4 h2).bind fun (v83, h84) =>
              (f_X6_undo Fu Λ m_5 h84).bind fun (v86, h87) =>
              if ¬ v83 = v86 then
                some (.inr (.inr 0))
              else
                some (.inl ((fx_w (i_1 + 4)), h87))
            else
              if (fx_iand v8 31) = 5 then
                (fx_rs L_0 xs (fx_w (i_1 + 1))).bind fun v92 =>
                (fx_rs L_0 xs (fx_w (i_1 + 2))).bind fun v94 =>
                (fx_rs L_0 xs (fx_w (i_1 + 3))).bind fun v96 =>
                (f_X5_need Fu Λ x_4 v92 v94 v96 h2).bind fun (v98, h99) =>
                (fx_rs L_0 xs (fx_w (i_1 + 1))).bind fun v101 =>
                (fx_rs L_0 xs (fx_w (i_1 + 2))).bind fun v103 =>
                (fx_rs L_0 xs (fx_w (i_1 + 3))).bind fun v105 =>
                (f_X6_need Fu Λ m_5 v101 v103 v105 h99).bind fun (v107, h108) =>
                if ¬ v98 = v107 then
                  some (.inr (.inr 0))
                else
                  some (.inl ((fx_w (i_1 + 4)), h108))
              else
                if (fx_iand v8 31) = 6 then
                  (fx_rs L_0 xs (fx_w (i_1 + 1))).bind fun v113 =>
                  (fx_rs L_0 xs (fx_w (i_1 + 2))).bind fun v115 =>
                  (fx_rs L_0 xs (fx_w (i_1 + 3))).bind fun v117 =>
                  (f_X5_type Fu Λ x_4 (fx_lor (fx_lshl v113 32) (fx_land v115 4294967295)) v117 h2).bind fun (v119, h120) =>
                  (fx_rs L_0 xs (fx_w (i_1 + 1))).bind fun v122 =>
                  (fx_rs L_0 xs (fx_w (i_1 + 2))).bind fun v124 =>
                  (fx_rs L_0 xs (fx_w (i_1 + 3))).bind fun v126 =>
                  (f_X6_type Fu Λ m_5 (fx_lor (fx_lshl v122 32) (fx_land v124 4294967295)) v126 h120).bind fun (v128, h129) =>
                  if ¬ v119 = v128 then
                    some (.inr (.inr 0))
                  else
                    some (.inl ((fx_w (i_1 + 4)), h129))
                else
                  if (fx_iand v8 31) = 7 then
                    (f_X5_clear Fu Λ x_4 h2).bind fun (v134, h135) =>
                    (f_X6_clear Fu Λ m_5 h135).bind fun (v137, h138) =>
                    if ¬ v134 = v137 then
                      some (.inr (.inr 0))
                    else
                      some (.inl ((fx_w (i_1 + 4)), h138))
                  else
                    if (fx_iand v8 31) = 8 then
                      (f_X5_read Fu Λ x_4 h2).bind fun (v143, h144) =>
                      (f_X6_read Fu Λ m_5 h144).bind fun (v146, h147) =>
                      if ¬ v143 = v146 then
                        some (.inr (.inr 0))
                      else
                        some (.inl ((fx_w (i_1 + 4)), h147))
                    else
                      if (fx_iand v8 31) = 9 then
                        (fx_rs L_0 xs (fx_w (i_1 + 1))).bind fun v152 =>
                        (f_X5_at Fu Λ x_4 v152 h2).bind fun (v154, h155) =>
                        (fx_rs L_0 xs (fx_w (i_1 + 1))).bind fun v157 =>
                        (f_X6_at Fu Λ m_5 v157 h155).bind fun (v159, h160) =>
                        if ¬ v154 = v159 then
                          some (.inr (.inr 0))
                        else
                          some (.inl ((fx_w (i_1 + 4)), h160))
                      else
                        if (fx_iand v8 31) = 10 then
                          (fx_rs L_0 xs (fx_w (i_1 + 1))).bind fun v165 =>
                          (fx_rs L_0 xs (fx_w (i_1 + 2))).bind fun v167 =>
                          (f_X5_pays Fu Λ x_4 v165 v167 h2).bind fun (v169, h170) =>
                          (fx_rs L_0 xs (fx_w (i_1 + 1))).bind fun v172 =>
                          (fx_rs L_0 xs (fx_w (i_1 + 2))).bind fun v174 =>
                          (f_X6_pays Fu Λ m_5 v172 v174 h170).bind fun (v176, h177) =>
                          if ¬ v169 = v176 then
                            some (.inr (.inr 0))
                          else
                            some (.inl ((fx_w (i_1 + 4)), h177))
                        else
                          if (fx_iand v8 31) = 11 then
                            (f_X5_all Fu Λ x_4 h2).bind fun (v182, h183) =>
                            (f_X6_all Fu Λ m_5 h183).bind fun (v185, h186) =>
                            if ¬ v182 = v185 then
                              some (.inr (.inr 0))
                            else
                              some (.inl ((fx_w (i_1 + 4)), h186))
                          else
                            if (fx_iand v8 31) = 12 then
                              (fx_rs L_0 xs (fx_w (i_1 + 1))).bind fun v191 =>
                              (fx_rs L_0 xs (fx_w (i_1 + 2))).bind fun v193 =>
                              (f_X5_least Fu Λ x_4 v191 v193 h2).bind fun (v195, h196) =>
                              (fx_rs L_0 xs (fx_w (i_1 + 1))).bind fun v198 =>
                              (fx_rs L_0 xs (fx_w (i_1 + 2))).bind fun v200 =>
                              (f_X6_least Fu Λ m_5 v198 v200 h196).bind fun (v202, h203) =>
                              if ¬ v195 = v202 then
                                some (.inr (.inr 0))
                              else
                                some (.inl ((fx_w (i_1 + 4)), h203))
                            else
                              if (fx_iand v8 31) = 13 then
                                (f_X5_fewest Fu Λ x_4 h2).bind fun (v208, h209) =>
                                (f_X6_fewest Fu Λ m_5 h209).bind fun (v211, h212) =>
                                if ¬ v208 = v211 then
                                  some (.inr (.inr 0))
                                else
                                  some (.inl ((fx_w (i_1 + 4)), h212))
                              else
                                if (fx_iand v8 31) = 14 then
                                  (fx_rs L_0 xs (fx_w (i_1 + 1))).bind fun v217 =>
                                  (f_X5_list Fu Λ x_4 v217 h2).bind fun (v219, h220) =>
                                  (fx_rs L_0 xs (fx_w (i_1 + 1))).bind fun v222 =>
                                  (f_X6_list Fu Λ m_5 v222 h220).bind fun (v224, h225) =>
                                  if ¬ v219 = v224 then
                                    some (.inr (.inr 0))
                                  else
                                    some (.inl ((fx_w (i_1 + 4)), h225))
                                else
                                  if (fx_iand v8 31) = 15 then
                                    (fx_rs L_0 xs (fx_w (i_1 + 1))).bind fun v230 =>
                                    (f_X5_rests Fu Λ x_4 v230 h2).bind fun (v232, h233) =>
                                    (fx_rs L_0 xs (fx_w (i_1 + 1))).bind fun v235 =>
                                    (f_X6_rests Fu Λ m_5 v235 h233).bind fun (v237, h238) =>
                                    if ¬ v232 = v237 then
                                      some (.inr (.inr 0))
                                    else
                                      some (.inl ((fx_w (i_1 + 4)), h238))
                                  else
                                    if (fx_iand v8 31) = 16 then
                                      (fx_rs L_0 xs (fx_w (i_1 + 1))).bind fun v243 =>
                                      (fx_rs L_0 xs (fx_w (i_1 + 2))).bind fun v245 =>
                                      (f_X5_better Fu Λ x_4 v243 v245 h2).bind fun (v247, h248) =>
                                      (fx_rs L_0 xs (fx_w (i_1 + 1))).bind fun v250 =>
                                      (fx_rs L_0 xs (fx_w (i_1 + 2))).bind fun v252 =>
                                      (f_X6_better Fu Λ m_5 v250 v252 h248).bind fun (v254, h255) =>
                                      if ¬ v247 = v254 then
                                        some (.inr (.inr 0))
                                      else
                                        some (.inl ((fx_w (i_1 + 4)), h255))
                                    else
                                      if (fx_iand v8 31) = 17 then
                                        (fx_rs L_0 xs (fx_w (i_1 + 1))).bind fun v260 =>
                                        (f_X5_name Fu Λ x_4 v260 h2).bind fun (v262, h263) =>
                                        (fx_rs L_0 xs (fx_w (i_1 + 1))).bind fun v265 =>
                                        (f_X6_name Fu Λ m_5 v265 h263).bind fun (v267, h268) =>
                                        if ¬ v262 = v267 then
                                          some (.inr (.inr 0))
                                        else
                                          some (.inl ((fx_w (i_1 + 4)), h268))
                                      else
                                        if (fx_iand v8 31) = 18 then
                                          (fx_rs L_0 xs (fx_w (i_1 + 1))).bind fun v273 =>
                                          (f_X5_line Fu Λ x_4 v273 h2).bind fun (v275, h276) =>
                                          (fx_rs L_0 xs (fx_w (i_1 + 1))).bind fun v278 =>
                                          (f_X6_line Fu Λ m_5 v278 h276).bind fun (v280, h281) =>
                                          if ¬ v275 = v280 then
                                            some (.inr (.inr 0))
                                          else
                                            some (.inl ((fx_w (i_1 + 4)), h281))
                                        else
                                          if (fx_iand v8 31) = 19 then
                                            (fx_rs L_0 xs (fx_w (i_1 + 1))).bind fun v286 =>
                                            (fx_rs L_0 xs (fx_w (i_1 + 2))).bind fun v288 =>
                                            (f_X5_choir Fu Λ x_4 v286 v288 h2).bind fun (v290, h291) =>
                                            (fx_rs L_0 xs (fx_w (i_1 + 1))).bind fun v293 =>
                                            (fx_rs L_0 xs (fx_w (i_1 + 2))).bind fun v295 =>
                                            (f_X6_choir Fu Λ m_5 v293 v295 h291).bind fun (v297, h298) =>
                                            if ¬ v290 = v297 then
                                              some (.inr (.inr 0))
                                            else
                                              some (.inl ((fx_w (i_1 + 4)), h298))
                                          else
                                            if (fx_iand v8 31) = 20 then
                                              (fx_rs L_0 xs (fx_w (i_1 + 1))).bind fun v303 =>
                                              (fx_rs L_0 xs (fx_w (i_1 + 2))).bind fun v305 =>
                                              (f_X5_told Fu Λ x_4 v303 v305 h2).bind fun (v307, h308) =>
                                              (fx_rs L_0 xs (fx_w (i_1 + 1))).bind fun v310 =>
                                              (fx_rs L_0 xs (fx_w (i_1 + 2))).bind fun v312 =>
                                              (f_X6_told Fu Λ m_5 v310 v312 h308).bind fun (v314, h315) =>
                                              if ¬ v307 = v314 then
                                                some (.inr (.inr 0))
                                              else
                                                some (.inl ((fx_w (i_1 + 4)), h315))
                                            else
                                              if (fx_iand v8 31) = 21 then
                                                (fx_rs L_0 xs (fx_w (i_1 + 1))).bind fun v320 =>
                                                (fx_rs L_0 xs (fx_w (i_1 + 2))).bind fun v322 =>
                                                (f_X5_did Fu Λ x_4 v320 v322 h2).bind fun (v324, h325) =>
                                                (fx_rs L_0 xs (fx_w (i_1 + 1))).bind fun v327 =>
                                                (fx_rs L_0 xs (fx_w (i_1 + 2))).bind fun v329 =>
                                                (f_X6_did Fu Λ m_5 v327 v329 h325).bind fun (v331, h332) =>
                                                if ¬ v324 = v331 then
                                                  some (.inr (.inr 0))
                                                else
                                                  some (.inl ((fx_w (i_1 + 4)), h332))
                                              else
                                                if (fx_iand v8 31) = 22 then
                                                  (fx_rs L_0 xs (fx_w (i_1 + 1))).bind fun v337 =>
                                                  (f_X5_copied Fu Λ x_4 v337 h2).bind fun (v339, h340) =>
                                                  (fx_rs L_0 xs (fx_w (i_1 + 1))).bind fun v342 =>
                                                  (f_X6_copied Fu Λ m_5 v342 h340).bind fun (v344, h345) =>
                                                  if ¬ v339 = v344 then
                                                    some (.inr (.inr 0))
                                                  else
                                                    some (.inl ((fx_w (i_1 + 4)), h345))
                                                else
                                                  if (fx_iand v8 31) = 23 then
                                                    (fx_rs L_0 xs (fx_w (i_1 + 1))).bind fun v350 =>
                                                    (fx_rs L_0 xs (fx_w (i_1 + 2))).bind fun v352 =>
                                                    (fx_rs L_0 xs (fx_w (i_1 + 3))).bind fun v354 =>
                                                    (f_X5_crowd Fu Λ x_4 v350 v352 v354 h2).bind fun (v356, h357) =>
                                                    (fx_rs L_0 xs (fx_w (i_1 + 1))).bind fun v359 =>
                                                    (fx_rs L_0 xs (fx_w (i_1 + 2))).bind fun v361 =>
                                                    (fx_rs L_0 xs (fx_w (i_1 + 3))).bind fun v363 =>
                                                    (f_X6_crowd Fu Λ m_5 v359 v361 v363 h357).bind fun (v365, h366) =>
                                                    if ¬ v356 = v365 then
                                                      some (.inr (.inr 0))
                                                    else
                                                      some (.inl ((fx_w (i_1 + 4)), h366))
                                                  else
                                                    if (fx_iand v8 31) = 24 then
                                                      (fx_rs L_0 xs (fx_w (i_1 + 1))).bind fun v371 =>
                                                      (f_X5_part Fu Λ x_4 v371 h2).bind fun (v373, h374) =>
                                                      (fx_rs L_0 xs (fx_w (i_1 + 1))).bind fun v376 =>
                                                      (f_X6_part Fu Λ m_5 v376 h374).bind fun (v378, h379) =>
                                                      if ¬ v373 = v378 then
                                                        some (.inr (.inr 0))
                                                      else
                                                        some (.inl ((fx_w (i_1 + 4)), h379))
                                                    else
                                                      if (fx_iand v8 31) = 25 then
                                                        (fx_rs L_0 xs (fx_w (i_1 + 1))).bind fun v384 =>
                                                        (f_X5_image Fu Λ x_4 v384 h2).bind fun (v386, h387) =>
                                                        (fx_rs L_0 xs (fx_w (i_1 + 1))).bind fun v389 =>
                                                        (f_X6_image Fu Λ m_5 v389 h387).bind fun (v391, h392) =>
                                                        if ¬ v386 = v391 then
                                                          some (.inr (.inr 0))
                                                        else
                                                          some (.inl ((fx_w (i_1 + 4)), h392))
                                                      else
                                                        if (fx_iand v8 31) = 26 then
                                                          (fx_rs L_0 xs (fx_w (i_1 + 1))).bind fun v397 =>
                                                          (f_X5_from Fu Λ x_4 v397 h2).bind fun (v399, h400) =>
                                                          (fx_rs L_0 xs (fx_w (i_1 + 1))).bind fun v402 =>
                                                          (f_X6_from Fu Λ m_5 v402 h400).bind fun (v404, h405) =>
                                                          if ¬ v399 = v404 then
                                                            some (.inr (.inr 0))
                                                          else
                                                            some (.inl ((fx_w (i_1 + 4)), h405))
                                                        else
                                                          if (fx_iand v8 31) = 27 then
                                                            (fx_rs L_0 xs (fx_w (i_1 + 1))).bind fun v410 =>
                                                            (f_X5_status Fu Λ x_4 v410 h2).bind fun (v412, h413) =>
                                                            (fx_rs L_0 xs (fx_w (i_1 + 1))).bind fun v415 =>
                                                            (f_X6_status Fu Λ m_5 v415 h413).bind fun (v417, h418) =>
                                                            if ¬ v412 = v417 then
                                                              some (.inr (.inr 0))
                                                            else
                                                              some (.inl ((fx_w (i_1 + 4)), h418))
                                                          else
                                                            if (fx_iand v8 31) = 28 then
                                                              (fx_rs L_0 xs (fx_w (i_1 + 1))).bind fun v423 =>
                                                              (f_X5_count Fu Λ x_4 v423 h2).bind fun (v425, h426) =>
                                                              (fx_rs L_0 xs (fx_w (i_1 + 1))).bind fun v428 =>
                                                              (f_X6_count Fu Λ m_5 v428 h426).bind fun (v430, h431) =>
                                                              if ¬ v425 = v430 then
                                                                some (.inr (.inr 0))
                                                              else
                                                                some (.inl ((fx_w (i_1 + 4)), h431))
                                                            else
                                                              if (fx_iand v8 31) = 29 then
                                                                (f_X5_digest Fu Λ x_4 h2).bind fun v436 =>
                                                                (f_X6_digest Fu Λ m_5 h2).bind fun v438 =>
                                                                if ¬ v436 = v438 then
                                                                  some (.inr (.inr 0))
                                                                else
                                                                  some (.inl ((fx_w (i_1 + 4)), h2))
                                                              else
                                                                some (.inl ((fx_w (i_1 + 4)), h2))
  else
    some (.inr (.inl (i_1, h2)))
def f_law (Fu : Nat) (Λ : fx_L) (L_0 : Int) (xs : Int → Int) (x_0 m_0 : Int) (h : fx_H) : Option Int :=
  Option.bind (fx_loop (s_L_law_1 Fu Λ L_0 xs 2 x_0 m_0) Fu (0, h)) fun x9 =>
  match x9 with
  | .inl (i_880, h881) =>
    some 1
  | .inr r9 => some r9
set_option maxRecDepth 100000 in
set_option maxHeartbeats 40000000 in
theorem m_law (Fu : Nat) (Λ : fx_L) (L_0 : Int) (xs : Int → Int) (x_0 m_0 : Int) (h : fx_H) (hf : f_law Fu Λ L_0 xs x_0 m_0 h = some 1) {M : fx_M} {G : fx_G} (F : fx_F fx_X M G Λ code R_law 4 room_1) (S : fx_Sc M G L_0 xs) (K : fx_FrL M G) : fx_J M G Λ 4 16 [some (62, 2), some (7, x_0), some (8, m_0), none] [] h := by
  unfold f_law at hf
  refine fx_iconst (pc := 16) F ⟨by decide, by decide⟩ dL_law_16 ?_
  refine fx_istore_n (pc := 17) (ls' := [some (62, 2), some (7, x_0), some (8, m_0), some (0, 0)]) F 3 rfl (by decide) rfl rfl dL_law_17 ?_
  obtain ⟨x9, e882, hf⟩ := fx_bnd hf
  have hE883 : (fun y : (Int × fx_H) ⊕ (Int) => match y with | .inl z => fx_J M G Λ 4 996 [some (62, 2), some (7, x_0), some (8, m_0), some (0, z.1)] [] z.2 | .inr r9 => some r9 = some 1) x9 := by
    cases x9 with
    | inr r9 => exact hf
    | inl y9 =>
      obtain ⟨i_880, h881⟩ := y9
      show fx_J M G Λ 4 996 [some (62, 2), some (7, x_0), some (8, m_0), some (0, i_880)] [] h881
      refine fx_iconst (pc := 996) F ⟨by decide, by decide⟩ dL_law_996 ?_
      exact fx_lawret (pc := 997) F K dL_law_997
  refine fx_loop_J (Hd := (fun z : Int × fx_H => fx_J M G Λ 4 18 [some (62, 2), some (7, x_0), some (8, m_0), some (0, z.1)] [] z.2)) (Ex := (fun y : (Int × fx_H) ⊕ (Int) => match y with | .inl z => fx_J M G Λ 4 996 [some (62, 2), some (7, x_0), some (8, m_0), some (0, z.1)] [] z.2 | .inr r9 => some r9 = some 1)) ?_ Fu _ _ e882 hE883
  rintro ⟨i_442, h443⟩ o9 eq444 ih ex
  unfold s_L_law_1 at eq444
  show fx_J M G Λ 4 18 [some (62, 2), some (7, x_0), some (8, m_0), some (0, i_442)] [] h443
  refine fx_iload_n (pc := 18) F 3 rfl rfl dL_law_18 ?_
  refine fx_aload_n (pc := 19) (t := 60) F 0 rfl rfl dL_law_19 ?_
  refine fx_slL (pc := 20) F S dL_law_20 ?_
  refine fx_iconst (pc := 21) F ⟨by decide, by decide⟩ dL_law_21 ?_
  refine fx_isub (pc := 22) F dL_law_22 ?_
  refine fx_nle (pc := 23) F 996 (by decide) dL_law_23 (fun c445 => ?_) (fun c445 => ?_)
  · have eq444 := (if_pos c445).symm.trans eq444
    refine fx_aload_n (pc := 26) (t := 60) F 0 rfl rfl dL_law_26 ?_
    refine fx_iload_n (pc := 27) F 3 rfl rfl dL_law_27 ?_
    obtain ⟨v446, e447, eq444⟩ := fx_bnd eq444
    refine fx_rsld (pc := 28) F S e447 dL_law_28 ?_
    refine fx_bipush (pc := 29) F ⟨by decide, by decide⟩ (by decide) dL_law_29 ?_
    refine fx_riand (pc := 31) F dL_law_31 ?_
    by_cases c448 : (fx_iand v446 31) = 0
    · have eq444 := (if_pos c448).symm.trans eq444
      have hB460 : fx_J M G Λ 4 168 [some (62, 2), some (7, x_0), some (8, m_0), some (0, i_442)] [] h443 := by
        refine fx_aload_n (pc := 168) (t := 5) F 1 rfl rfl dL_law_168 ?_
        refine fx_aload_n (pc := 169) (t := 60) F 0 rfl rfl dL_law_169 ?_
        refine fx_iload_n (pc := 170) F 3 rfl rfl dL_law_170 ?_
        refine fx_iconst (pc := 171) F ⟨by decide, by decide⟩ dL_law_171 ?_
        refine fx_iadd (pc := 172) F dL_law_172 ?_
        obtain ⟨v449, e450, eq444⟩ := fx_bnd eq444
        refine fx_rsld (pc := 173) F S e450 dL_law_173 ?_
        obtain ⟨⟨v451, h452⟩, e453, eq444⟩ := fx_bnd eq444
        refine fx_cV (pc := 174) F 5 kC_X5 [(0, v449)] x_0 [] (m_X5_thing Fu Λ x_0 v449 h443 _ _ e453) kD_X5_thing kI_X5_thing rfl wM_L_13 ⟨rfl, rfl⟩ ⟨by decide, by decide⟩ (Nat.le_of_ble_eq_true rfl) rfl dL_law_174 ?_
        refine fx_aload_n (pc := 177) (t := 6) F 2 rfl rfl dL_law_177 ?_
        refine fx_aload_n (pc := 178) (t := 60) F 0 rfl rfl dL_law_178 ?_
        refine fx_iload_n (pc := 179) F 3 rfl rfl dL_law_179 ?_
        refine fx_iconst (pc := 180) F ⟨by decide, by decide⟩ dL_law_180 ?_
        refine fx_iadd (pc := 181) F dL_law_181 ?_
        obtain ⟨v454, e455, eq444⟩ := fx_bnd eq444
        refine fx_rsld (pc := 182) F S e455 dL_law_182 ?_
        obtain ⟨⟨v456, h457⟩, e458, eq444⟩ := fx_bnd eq444
        refine fx_cV (pc := 183) F 6 kC_X6 [(0, v454)] m_0 [(0, v451)] (m_X6_thing Fu Λ m_0 v454 h452 _ _ e458) kD_X6_thing kI_X6_thing rfl wM_L_17 ⟨rfl, rfl⟩ ⟨by decide, by decide⟩ (Nat.le_of_ble_eq_true rfl) rfl dL_law_183 ?_
        refine fx_nne (pc := 186) F 990 (by decide) dL_law_186 (fun c459 => ?_) (fun c459 => ?_)
        · have eq444 := (if_pos c459).symm.trans eq444
          refine fx_iconst (pc := 189) F ⟨by decide, by decide⟩ dL_law_189 ?_
          cases eq444
          have q9 := ex _ rfl
          exact absurd (show some (0 : Int) = some 1 from q9) (by decide)
        · have eq444 := (if_neg c459).symm.trans eq444
          refine fx_iinc (pc := 990) (ls' := [some (62, 2), some (7, x_0), some (8, m_0), some (0, (fx_w (i_442 + 4)))]) F (by decide) rfl rfl rfl dL_law_990 ?_
          refine fx_goto (pc := 993) F 18 (by decide) dL_law_993 ?_
          cases eq444
          exact ih _ rfl
      exact fx_tswI (pc := 32) F 168 0 dL_law_32 c448 (by decide) rfl (by decide) hB460
    · have eq444 := (if_neg c448).symm.trans eq444
      by_cases c461 : (fx_iand v446 31) = 1
      · have eq444 := (if_pos c461).symm.trans eq444
        have hB477 : fx_J M G Λ 4 191 [some (62, 2), some (7, x_0), some (8, m_0), some (0, i_442)] [] h443 := by
          refine fx_aload_n (pc := 191) (t := 5) F 1 rfl rfl dL_law_191 ?_
          refine fx_aload_n (pc := 192) (t := 60) F 0 rfl rfl dL_law_192 ?_
          refine fx_iload_n (pc := 193) F 3 rfl rfl dL_law_193 ?_
          refine fx_iconst (pc := 194) F ⟨by decide, by decide⟩ dL_law_194 ?_
          refine fx_iadd (pc := 195) F dL_law_195 ?_
          obtain ⟨v462, e463, eq444⟩ := fx_bnd eq444
          refine fx_rsld (pc := 196) F S e463 dL_law_196 ?_
          refine fx_aload_n (pc := 197) (t := 60) F 0 rfl rfl dL_law_197 ?_
          refine fx_iload_n (pc := 198) F 3 rfl rfl dL_law_198 ?_
          refine fx_iconst (pc := 199) F ⟨by decide, by decide⟩ dL_law_199 ?_
          refine fx_iadd (pc := 200) F dL_law_200 ?_
          obtain ⟨v464, e465, eq444⟩ := fx_bnd eq444
          refine fx_rsld (pc := 201) F S e465 dL_law_201 ?_
          obtain ⟨⟨v466, h467⟩, e468, eq444⟩ := fx_bnd eq444
          refine fx_cV (pc := 202) F 5 kC_X5 [(0, v462), (0, v464)] x_0 [] (m_X5_town Fu Λ x_0 v462 v464 h443 _ _ e468) kD_X5_town kI_X5_town rfl wM_L_18 ⟨rfl, rfl⟩ ⟨by decide, by decide⟩ (Nat.le_of_ble_eq_true rfl) rfl dL_law_202 ?_
          refine fx_aload_n (pc := 205) (t := 6) F 2 rfl rfl dL_law_205 ?_
          refine fx_aload_n (pc := 206) (t := 60) F 0 rfl rfl dL_law_206 ?_
          refine fx_iload_n (pc := 207) F 3 rfl rfl dL_law_207 ?_
          refine fx_iconst (pc := 208) F ⟨by decide, by decide⟩ dL_law_208 ?_
          refine fx_iadd (pc := 209) F dL_law_209 ?_
          obtain ⟨v469, e470, eq444⟩ := fx_bnd eq444
          refine fx_rsld (pc := 210) F S e470 dL_law_210 ?_
          refine fx_aload_n (pc := 211) (t := 60) F 0 rfl rfl dL_law_211 ?_
          refine fx_iload_n (pc := 212) F 3 rfl rfl dL_law_212 ?_
          refine fx_iconst (pc := 213) F ⟨by decide, by decide⟩ dL_law_213 ?_
          refine fx_iadd (pc := 214) F dL_law_214 ?_
          obtain ⟨v471, e472, eq444⟩ := fx_bnd eq444
          refine fx_rsld (pc := 215) F S e472 dL_law_215 ?_
          obtain ⟨⟨v473, h474⟩, e475, eq444⟩ := fx_bnd eq444
          refine fx_cV (pc := 216) F 6 kC_X6 [(0, v469), (0, v471)] m_0 [(0, v466)] (m_X6_town Fu Λ m_0 v469 v471 h467 _ _ e475) kD_X6_town kI_X6_town rfl wM_L_22 ⟨rfl, rfl⟩ ⟨by decide, by decide⟩ (Nat.le_of_ble_eq_true rfl) rfl dL_law_216 ?_
          refine fx_nne (pc := 219) F 990 (by decide) dL_law_219 (fun c476 => ?_) (fun c476 => ?_)
          · have eq444 := (if_pos c476).symm.trans eq444
            refine fx_iconst (pc := 222) F ⟨by decide, by decide⟩ dL_law_222 ?_
            cases eq444
            have q9 := ex _ rfl
            exact absurd (show some (0 : Int) = some 1 from q9) (by decide)
          · have eq444 := (if_neg c476).symm.trans eq444
            refine fx_iinc (pc := 990) (ls' := [some (62, 2), some (7, x_0), some (8, m_0), some (0, (fx_w (i_442 + 4)))]) F (by decide) rfl rfl rfl dL_law_990 ?_
            refine fx_goto (pc := 993) F 18 (by decide) dL_law_993 ?_
            cases eq444
            exact ih _ rfl
        exact fx_tswI (pc := 32) F 191 1 dL_law_32 c461 (by decide) rfl (by decide) hB477
      · have eq444 := (if_neg c461).symm.trans eq444
        by_cases c478 : (fx_iand v446 31) = 2
        · have eq444 := (if_pos c478).symm.trans eq444
          have hB498 : fx_J M G Λ 4 224 [some (62, 2), some (7, x_0), some (8, m_0), some (0, i_442)] [] h443 := by
            refine fx_aload_n (pc := 224) (t := 5) F 1 rfl rfl dL_law_224 ?_
            refine fx_aload_n (pc := 225) (t := 60) F 0 rfl rfl dL_law_225 ?_
            refine fx_iload_n (pc := 226) F 3 rfl rfl dL_law_226 ?_
            refine fx_iconst (pc := 227) F ⟨by decide, by decide⟩ dL_law_227 ?_
            refine fx_iadd (pc := 228) F dL_law_228 ?_
            obtain ⟨v479, e480, eq444⟩ := fx_bnd eq444
            refine fx_rsld (pc := 229) F S e480 dL_law_229 ?_
            refine fx_aload_n (pc := 230) (t := 60) F 0 rfl rfl dL_law_230 ?_
            refine fx_iload_n (pc := 231) F 3 rfl rfl dL_law_231 ?_
            refine fx_iconst (pc := 232) F ⟨by decide, by decide⟩ dL_law_232 ?_
            refine fx_iadd (pc := 233) F dL_law_233 ?_
            obtain ⟨v481, e482, eq444⟩ := fx_bnd eq444
            refine fx_rsld (pc := 234) F S e482 dL_law_234 ?_
            refine fx_aload_n (pc := 235) (t := 60) F 0 rfl rfl dL_law_235 ?_
            refine fx_iload_n (pc := 236) F 3 rfl rfl dL_law_236 ?_
            refine fx_iconst (pc := 237) F ⟨by decide, by decide⟩ dL_law_237 ?_
            refine fx_iadd (pc := 238) F dL_law_238 ?_
            obtain ⟨v483, e484, eq444⟩ := fx_bnd eq444
            refine fx_rsld (pc := 239) F S e484 dL_law_239 ?_
            obtain ⟨⟨v485, h486⟩, e487, eq444⟩ := fx_bnd eq444
            refine fx_cV (pc := 240) F 5 kC_X5 [(0, v479), (0, v481), (0, v483)] x_0 [] (m_X5_put Fu Λ x_0 v479 v481 v483 h443 _ _ e487) kD_X5_put kI_X5_put rfl wM_L_23 ⟨rfl, rfl⟩ ⟨by decide, by decide⟩ (Nat.le_of_ble_eq_true rfl) rfl dL_law_240 ?_
            refine fx_aload_n (pc := 243) (t := 6) F 2 rfl rfl dL_law_243 ?_
            refine fx_aload_n (pc := 244) (t := 60) F 0 rfl rfl dL_law_244 ?_
            refine fx_iload_n (pc := 245) F 3 rfl rfl dL_law_245 ?_
            refine fx_iconst (pc := 246) F ⟨by decide, by decide⟩ dL_law_246 ?_
            refine fx_iadd (pc := 247) F dL_law_247 ?_
            obtain ⟨v488, e489, eq444⟩ := fx_bnd eq444
            refine fx_rsld (pc := 248) F S e489 dL_law_248 ?_
            refine fx_aload_n (pc := 249) (t := 60) F 0 rfl rfl dL_law_249 ?_
            refine fx_iload_n (pc := 250) F 3 rfl rfl dL_law_250 ?_
            refine fx_iconst (pc := 251) F ⟨by decide, by decide⟩ dL_law_251 ?_
            refine fx_iadd (pc := 252) F dL_law_252 ?_
            obtain ⟨v490, e491, eq444⟩ := fx_bnd eq444
            refine fx_rsld (pc := 253) F S e491 dL_law_253 ?_
            refine fx_aload_n (pc := 254) (t := 60) F 0 rfl rfl dL_law_254 ?_
            refine fx_iload_n (pc := 255) F 3 rfl rfl dL_law_255 ?_
            refine fx_iconst (pc := 256) F ⟨by decide, by decide⟩ dL_law_256 ?_
            refine fx_iadd (pc := 257) F dL_law_257 ?_
            obtain ⟨v492, e493, eq444⟩ := fx_bnd eq444
            refine fx_rsld (pc := 258) F S e493 dL_law_258 ?_
            obtain ⟨⟨v494, h495⟩, e496, eq444⟩ := fx_bnd eq444
            refine fx_cV (pc := 259) F 6 kC_X6 [(0, v488), (0, v490), (0, v492)] m_0 [(0, v485)] (m_X6_put Fu Λ m_0 v488 v490 v492 h486 _ _ e496) kD_X6_put kI_X6_put rfl wM_L_27 ⟨rfl, rfl⟩ ⟨by decide, by decide⟩ (Nat.le_of_ble_eq_true rfl) rfl dL_law_259 ?_
            refine fx_nne (pc := 262) F 990 (by decide) dL_law_262 (fun c497 => ?_) (fun c497 => ?_)
            · have eq444 := (if_pos c497).symm.trans eq444
              refine fx_iconst (pc := 265) F ⟨by decide, by decide⟩ dL_law_265 ?_
              cases eq444
              have q9 := ex _ rfl
              exact absurd (show some (0 : Int) = some 1 from q9) (by decide)
            · have eq444 := (if_neg c497).symm.trans eq444
              refine fx_iinc (pc := 990) (ls' := [some (62, 2), some (7, x_0), some (8, m_0), some (0, (fx_w (i_442 + 4)))]) F (by decide) rfl rfl rfl dL_law_990 ?_
              refine fx_goto (pc := 993) F 18 (by decide) dL_law_993 ?_
              cases eq444
              exact ih _ rfl
          exact fx_tswI (pc := 32) F 224 2 dL_law_32 c478 (by decide) rfl (by decide) hB498
        · have eq444 := (if_neg c478).symm.trans eq444
          by_cases c499 : (fx_iand v446 31) = 3
          · have eq444 := (if_pos c499).symm.trans eq444
            have hB519 : fx_J M G Λ 4 267 [some (62, 2), some (7, x_0), some (8, m_0), some (0, i_442)] [] h443 := by
              refine fx_aload_n (pc := 267) (t := 5) F 1 rfl rfl dL_law_267 ?_
              refine fx_aload_n (pc := 268) (t := 60) F 0 rfl rfl dL_law_268 ?_
              refine fx_iload_n (pc := 269) F 3 rfl rfl dL_law_269 ?_
              refine fx_iconst (pc := 270) F ⟨by decide, by decide⟩ dL_law_270 ?_
              refine fx_iadd (pc := 271) F dL_law_271 ?_
              obtain ⟨v500, e501, eq444⟩ := fx_bnd eq444
              refine fx_rsld (pc := 272) F S e501 dL_law_272 ?_
              refine fx_aload_n (pc := 273) (t := 60) F 0 rfl rfl dL_law_273 ?_
              refine fx_iload_n (pc := 274) F 3 rfl rfl dL_law_274 ?_
              refine fx_iconst (pc := 275) F ⟨by decide, by decide⟩ dL_law_275 ?_
              refine fx_iadd (pc := 276) F dL_law_276 ?_
              obtain ⟨v502, e503, eq444⟩ := fx_bnd eq444
              refine fx_rsld (pc := 277) F S e503 dL_law_277 ?_
              refine fx_aload_n (pc := 278) (t := 60) F 0 rfl rfl dL_law_278 ?_
              refine fx_iload_n (pc := 279) F 3 rfl rfl dL_law_279 ?_
              refine fx_iconst (pc := 280) F ⟨by decide, by decide⟩ dL_law_280 ?_
              refine fx_iadd (pc := 281) F dL_law_281 ?_
              obtain ⟨v504, e505, eq444⟩ := fx_bnd eq444
              refine fx_rsld (pc := 282) F S e505 dL_law_282 ?_
              obtain ⟨⟨v506, h507⟩, e508, eq444⟩ := fx_bnd eq444
              refine fx_cV (pc := 283) F 5 kC_X5 [(0, v500), (0, v502), (0, v504)] x_0 [] (m_X5_does Fu Λ x_0 v500 v502 v504 h443 _ _ e508) kD_X5_does kI_X5_does rfl wM_L_28 ⟨rfl, rfl⟩ ⟨by decide, by decide⟩ (Nat.le_of_ble_eq_true rfl) rfl dL_law_283 ?_
              refine fx_aload_n (pc := 286) (t := 6) F 2 rfl rfl dL_law_286 ?_
              refine fx_aload_n (pc := 287) (t := 60) F 0 rfl rfl dL_law_287 ?_
              refine fx_iload_n (pc := 288) F 3 rfl rfl dL_law_288 ?_
              refine fx_iconst (pc := 289) F ⟨by decide, by decide⟩ dL_law_289 ?_
              refine fx_iadd (pc := 290) F dL_law_290 ?_
              obtain ⟨v509, e510, eq444⟩ := fx_bnd eq444
              refine fx_rsld (pc := 291) F S e510 dL_law_291 ?_
              refine fx_aload_n (pc := 292) (t := 60) F 0 rfl rfl dL_law_292 ?_
              refine fx_iload_n (pc := 293) F 3 rfl rfl dL_law_293 ?_
              refine fx_iconst (pc := 294) F ⟨by decide, by decide⟩ dL_law_294 ?_
              refine fx_iadd (pc := 295) F dL_law_295 ?_
              obtain ⟨v511, e512, eq444⟩ := fx_bnd eq444
              refine fx_rsld (pc := 296) F S e512 dL_law_296 ?_
              refine fx_aload_n (pc := 297) (t := 60) F 0 rfl rfl dL_law_297 ?_
              refine fx_iload_n (pc := 298) F 3 rfl rfl dL_law_298 ?_
              refine fx_iconst (pc := 299) F ⟨by decide, by decide⟩ dL_law_299 ?_
              refine fx_iadd (pc := 300) F dL_law_300 ?_
              obtain ⟨v513, e514, eq444⟩ := fx_bnd eq444
              refine fx_rsld (pc := 301) F S e514 dL_law_301 ?_
              obtain ⟨⟨v515, h516⟩, e517, eq444⟩ := fx_bnd eq444
              refine fx_cV (pc := 302) F 6 kC_X6 [(0, v509), (0, v511), (0, v513)] m_0 [(0, v506)] (m_X6_does Fu Λ m_0 v509 v511 v513 h507 _ _ e517) kD_X6_does kI_X6_does rfl wM_L_31 ⟨rfl, rfl⟩ ⟨by decide, by decide⟩ (Nat.le_of_ble_eq_true rfl) rfl dL_law_302 ?_
              refine fx_nne (pc := 305) F 990 (by decide) dL_law_305 (fun c518 => ?_) (fun c518 => ?_)
              · have eq444 := (if_pos c518).symm.trans eq444
                refine fx_iconst (pc := 308) F ⟨by decide, by decide⟩ dL_law_308 ?_
                cases eq444
                have q9 := ex _ rfl
                exact absurd (show some (0 : Int) = some 1 from q9) (by decide)
              · have eq444 := (if_neg c518).symm.trans eq444
                refine fx_iinc (pc := 990) (ls' := [some (62, 2), some (7, x_0), some (8, m_0), some (0, (fx_w (i_442 + 4)))]) F (by decide) rfl rfl rfl dL_law_990 ?_
                refine fx_goto (pc := 993) F 18 (by decide) dL_law_993 ?_
                cases eq444
                exact ih _ rfl
            exact fx_tswI (pc := 32) F 267 3 dL_law_32 c499 (by decide) rfl (by decide) hB519
          · have eq444 := (if_neg c499).symm.trans eq444
            by_cases c520 : (fx_iand v446 31) = 4
            · have eq444 := (if_pos c520).symm.trans eq444
              have hB528 : fx_J M G Λ 4 310 [some (62, 2), some (7, x_0), some (8, m_0), some (0, i_442)] [] h443 := by
                refine fx_aload_n (pc := 310) (t := 5) F 1 rfl rfl dL_law_310 ?_
                obtain ⟨⟨v521, h522⟩, e523, eq444⟩ := fx_bnd eq444
                refine fx_cV (pc := 311) F 5 kC_X5 [] x_0 [] (m_X5_undo Fu Λ x_0 h443 _ _ e523) kD_X5_undo kI_X5_undo rfl wM_L_32 ⟨rfl, rfl⟩ ⟨by decide, by decide⟩ (Nat.le_of_ble_eq_true rfl) rfl dL_law_311 ?_
                refine fx_aload_n (pc := 314) (t := 6) F 2 rfl rfl dL_law_314 ?_
                obtain ⟨⟨v524, h525⟩, e526, eq444⟩ := fx_bnd eq444
                refine fx_cV (pc := 315) F 6 kC_X6 [] m_0 [(0, v521)] (m_X6_undo Fu Λ m_0 h522 _ _ e526) kD_X6_undo kI_X6_undo rfl wM_L_36 ⟨rfl, rfl⟩ ⟨by decide, by decide⟩ (Nat.le_of_ble_eq_true rfl) rfl dL_law_315 ?_
                refine fx_nne (pc := 318) F 990 (by decide) dL_law_318 (fun c527 => ?_) (fun c527 => ?_)
                · have eq444 := (if_pos c527).symm.trans eq444
                  refine fx_iconst (pc := 321) F ⟨by decide, by decide⟩ dL_law_321 ?_
                  cases eq444
                  have q9 := ex _ rfl
                  exact absurd (show some (0 : Int) = some 1 from q9) (by decide)
                · have eq444 := (if_neg c527).symm.trans eq444
                  refine fx_iinc (pc := 990) (ls' := [some (62, 2), some (7, x_0), some (8, m_0), some (0, (fx_w (i_442 + 4)))]) F (by decide) rfl rfl rfl dL_law_990 ?_
                  refine fx_goto (pc := 993) F 18 (by decide) dL_law_993 ?_
                  cases eq444
                  exact ih _ rfl
              exact fx_tswI (pc := 32) F 310 4 dL_law_32 c520 (by decide) rfl (by decide) hB528
            · have eq444 := (if_neg c520).symm.trans eq444
              by_cases c529 : (fx_iand v446 31) = 5
              · have eq444 := (if_pos c529).symm.trans eq444
                have hB549 : fx_J M G Λ 4 323 [some (62, 2), some (7, x_0), some (8, m_0), some (0, i_442)] [] h443 := by
                  refine fx_aload_n (pc := 323) (t := 5) F 1 rfl rfl dL_law_323 ?_
                  refine fx_aload_n (pc := 324) (t := 60) F 0 rfl rfl dL_law_324 ?_
                  refine fx_iload_n (pc := 325) F 3 rfl rfl dL_law_325 ?_
                  refine fx_iconst (pc := 326) F ⟨by decide, by decide⟩ dL_law_326 ?_
                  refine fx_iadd (pc := 327) F dL_law_327 ?_
                  obtain ⟨v530, e531, eq444⟩ := fx_bnd eq444
                  refine fx_rsld (pc := 328) F S e531 dL_law_328 ?_
                  refine fx_aload_n (pc := 329) (t := 60) F 0 rfl rfl dL_law_329 ?_
                  refine fx_iload_n (pc := 330) F 3 rfl rfl dL_law_330 ?_
                  refine fx_iconst (pc := 331) F ⟨by decide, by decide⟩ dL_law_331 ?_
                  refine fx_iadd (pc := 332) F dL_law_332 ?_
                  obtain ⟨v532, e533, eq444⟩ := fx_bnd eq444
                  refine fx_rsld (pc := 333) F S e533 dL_law_333 ?_
                  refine fx_aload_n (pc := 334) (t := 60) F 0 rfl rfl dL_law_334 ?_
                  refine fx_iload_n (pc := 335) F 3 rfl rfl dL_law_335 ?_
                  refine fx_iconst (pc := 336) F ⟨by decide, by decide⟩ dL_law_336 ?_
                  refine fx_iadd (pc := 337) F dL_law_337 ?_
                  obtain ⟨v534, e535, eq444⟩ := fx_bnd eq444
                  refine fx_rsld (pc := 338) F S e535 dL_law_338 ?_
                  obtain ⟨⟨v536, h537⟩, e538, eq444⟩ := fx_bnd eq444
                  refine fx_cV (pc := 339) F 5 kC_X5 [(0, v530), (0, v532), (0, v534)] x_0 [] (m_X5_need Fu Λ x_0 v530 v532 v534 h443 _ _ e538) kD_X5_need kI_X5_need rfl wM_L_37 ⟨rfl, rfl⟩ ⟨by decide, by decide⟩ (Nat.le_of_ble_eq_true rfl) rfl dL_law_339 ?_
                  refine fx_aload_n (pc := 342) (t := 6) F 2 rfl rfl dL_law_342 ?_
                  refine fx_aload_n (pc := 343) (t := 60) F 0 rfl rfl dL_law_343 ?_
                  refine fx_iload_n (pc := 344) F 3 rfl rfl dL_law_344 ?_
                  refine fx_iconst (pc := 345) F ⟨by decide, by decide⟩ dL_law_345 ?_
                  refine fx_iadd (pc := 346) F dL_law_346 ?_
                  obtain ⟨v539, e540, eq444⟩ := fx_bnd eq444
                  refine fx_rsld (pc := 347) F S e540 dL_law_347 ?_
                  refine fx_aload_n (pc := 348) (t := 60) F 0 rfl rfl dL_law_348 ?_
                  refine fx_iload_n (pc := 349) F 3 rfl rfl dL_law_349 ?_
                  refine fx_iconst (pc := 350) F ⟨by decide, by decide⟩ dL_law_350 ?_
                  refine fx_iadd (pc := 351) F dL_law_351 ?_
                  obtain ⟨v541, e542, eq444⟩ := fx_bnd eq444
                  refine fx_rsld (pc := 352) F S e542 dL_law_352 ?_
                  refine fx_aload_n (pc := 353) (t := 60) F 0 rfl rfl dL_law_353 ?_
                  refine fx_iload_n (pc := 354) F 3 rfl rfl dL_law_354 ?_
                  refine fx_iconst (pc := 355) F ⟨by decide, by decide⟩ dL_law_355 ?_
                  refine fx_iadd (pc := 356) F dL_law_356 ?_
                  obtain ⟨v543, e544, eq444⟩ := fx_bnd eq444
                  refine fx_rsld (pc := 357) F S e544 dL_law_357 ?_
                  obtain ⟨⟨v545, h546⟩, e547, eq444⟩ := fx_bnd eq444
                  refine fx_cV (pc := 358) F 6 kC_X6 [(0, v539), (0, v541), (0, v543)] m_0 [(0, v536)] (m_X6_need Fu Λ m_0 v539 v541 v543 h537 _ _ e547) kD_X6_need kI_X6_need rfl wM_L_40 ⟨rfl, rfl⟩ ⟨by decide, by decide⟩ (Nat.le_of_ble_eq_true rfl) rfl dL_law_358 ?_
                  refine fx_nne (pc := 361) F 990 (by decide) dL_law_361 (fun c548 => ?_) (fun c548 => ?_)
                  · have eq444 := (if_pos c548).symm.trans eq444
                    refine fx_iconst (pc := 364) F ⟨by decide, by decide⟩ dL_law_364 ?_
                    cases eq444
                    have q9 := ex _ rfl
                    exact absurd (show some (0 : Int) = some 1 from q9) (by decide)
                  · have eq444 := (if_neg c548).symm.trans eq444
                    refine fx_iinc (pc := 990) (ls' := [some (62, 2), some (7, x_0), some (8, m_0), some (0, (fx_w (i_442 + 4)))]) F (by decide) rfl rfl rfl dL_law_990 ?_
                    refine fx_goto (pc := 993) F 18 (by decide) dL_law_993 ?_
                    cases eq444
                    exact ih _ rfl
                exact fx_tswI (pc := 32) F 323 5 dL_law_32 c529 (by decide) rfl (by decide) hB549
              · have eq444 := (if_neg c529).symm.trans eq444
                by_cases c550 : (fx_iand v446 31) = 6
                · have eq444 := (if_pos c550).symm.trans eq444
                  have hB570 : fx_J M G Λ 4 366 [some (62, 2), some (7, x_0), some (8, m_0), some (0, i_442)] [] h443 := by
                    refine fx_aload_n (pc := 366) (t := 5) F 1 rfl rfl dL_law_366 ?_
                    refine fx_aload_n (pc := 367) (t := 60) F 0 rfl rfl dL_law_367 ?_
                    refine fx_iload_n (pc := 368) F 3 rfl rfl dL_law_368 ?_
                    refine fx_iconst (pc := 369) F ⟨by decide, by decide⟩ dL_law_369 ?_
                    refine fx_iadd (pc := 370) F dL_law_370 ?_
                    obtain ⟨v551, e552, eq444⟩ := fx_bnd eq444
                    refine fx_rsld (pc := 371) F S e552 dL_law_371 ?_
                    refine fx_ri2l (pc := 372) F dL_law_372 ?_
                    refine fx_bipush (pc := 373) F ⟨by decide, by decide⟩ (by decide) dL_law_373 ?_
                    refine fx_rlshl (pc := 375) F dL_law_375 ?_
                    refine fx_aload_n (pc := 376) (t := 60) F 0 rfl rfl dL_law_376 ?_
                    refine fx_iload_n (pc := 377) F 3 rfl rfl dL_law_377 ?_
                    refine fx_iconst (pc := 378) F ⟨by decide, by decide⟩ dL_law_378 ?_
                    refine fx_iadd (pc := 379) F dL_law_379 ?_
                    obtain ⟨v553, e554, eq444⟩ := fx_bnd eq444
                    refine fx_rsld (pc := 380) F S e554 dL_law_380 ?_
                    refine fx_ri2l (pc := 381) F dL_law_381 ?_
                    refine fx_ldc2 (pc := 382) (z := 4294967295) F (by decide) ⟨by decide, by decide⟩ wK_L_41 dL_law_382 ?_
                    refine fx_rland (pc := 385) F dL_law_385 ?_
                    refine fx_rlor (pc := 386) F dL_law_386 ?_
                    refine fx_aload_n (pc := 387) (t := 60) F 0 rfl rfl dL_law_387 ?_
                    refine fx_iload_n (pc := 388) F 3 rfl rfl dL_law_388 ?_
                    refine fx_iconst (pc := 389) F ⟨by decide, by decide⟩ dL_law_389 ?_
                    refine fx_iadd (pc := 390) F dL_law_390 ?_
                    obtain ⟨v555, e556, eq444⟩ := fx_bnd eq444
                    refine fx_rsld (pc := 391) F S e556 dL_law_391 ?_
                    obtain ⟨⟨v557, h558⟩, e559, eq444⟩ := fx_bnd eq444
                    refine fx_cV (pc := 392) F 5 kC_X5 [(1, (fx_lor (fx_lshl v551 32) (fx_land v553 4294967295))), (0, v555)] x_0 [] (m_X5_type Fu Λ x_0 (fx_lor (fx_lshl v551 32) (fx_land v553 4294967295)) v555 h443 _ _ e559) kD_X5_type kI_X5_type rfl wM_L_43 ⟨rfl, rfl⟩ ⟨by decide, by decide⟩ (Nat.le_of_ble_eq_true rfl) rfl dL_law_392 ?_
                    refine fx_aload_n (pc := 395) (t := 6) F 2 rfl rfl dL_law_395 ?_
                    refine fx_aload_n (pc := 396) (t := 60) F 0 rfl rfl dL_law_396 ?_
                    refine fx_iload_n (pc := 397) F 3 rfl rfl dL_law_397 ?_
                    refine fx_iconst (pc := 398) F ⟨by decide, by decide⟩ dL_law_398 ?_
                    refine fx_iadd (pc := 399) F dL_law_399 ?_
                    obtain ⟨v560, e561, eq444⟩ := fx_bnd eq444
                    refine fx_rsld (pc := 400) F S e561 dL_law_400 ?_
                    refine fx_ri2l (pc := 401) F dL_law_401 ?_
                    refine fx_bipush (pc := 402) F ⟨by decide, by decide⟩ (by decide) dL_law_402 ?_
                    refine fx_rlshl (pc := 404) F dL_law_404 ?_
                    refine fx_aload_n (pc := 405) (t := 60) F 0 rfl rfl dL_law_405 ?_
                    refine fx_iload_n (pc := 406) F 3 rfl rfl dL_law_406 ?_
                    refine fx_iconst (pc := 407) F ⟨by decide, by decide⟩ dL_law_407 ?_
                    refine fx_iadd (pc := 408) F dL_law_408 ?_
                    obtain ⟨v562, e563, eq444⟩ := fx_bnd eq444
                    refine fx_rsld (pc := 409) F S e563 dL_law_409 ?_
                    refine fx_ri2l (pc := 410) F dL_law_410 ?_
                    refine fx_ldc2 (pc := 411) (z := 4294967295) F (by decide) ⟨by decide, by decide⟩ wK_L_41 dL_law_411 ?_
                    refine fx_rland (pc := 414) F dL_law_414 ?_
                    refine fx_rlor (pc := 415) F dL_law_415 ?_
                    refine fx_aload_n (pc := 416) (t := 60) F 0 rfl rfl dL_law_416 ?_
                    refine fx_iload_n (pc := 417) F 3 rfl rfl dL_law_417 ?_
                    refine fx_iconst (pc := 418) F ⟨by decide, by decide⟩ dL_law_418 ?_
                    refine fx_iadd (pc := 419) F dL_law_419 ?_
                    obtain ⟨v564, e565, eq444⟩ := fx_bnd eq444
                    refine fx_rsld (pc := 420) F S e565 dL_law_420 ?_
                    obtain ⟨⟨v566, h567⟩, e568, eq444⟩ := fx_bnd eq444
                    refine fx_cV (pc := 421) F 6 kC_X6 [(1, (fx_lor (fx_lshl v560 32) (fx_land v562 4294967295))), (0, v564)] m_0 [(0, v557)] (m_X6_type Fu Λ m_0 (fx_lor (fx_lshl v560 32) (fx_land v562 4294967295)) v564 h558 _ _ e568) kD_X6_type kI_X6_type rfl wM_L_47 ⟨rfl, rfl⟩ ⟨by decide, by decide⟩ (Nat.le_of_ble_eq_true rfl) rfl dL_law_421 ?_
                    refine fx_nne (pc := 424) F 990 (by decide) dL_law_424 (fun c569 => ?_) (fun c569 => ?_)
                    · have eq444 := (if_pos c569).symm.trans eq444
                      refine fx_iconst (pc := 427) F ⟨by decide, by decide⟩ dL_law_427 ?_
                      cases eq444
                      have q9 := ex _ rfl
                      exact absurd (show some (0 : Int) = some 1 from q9) (by decide)
                    · have eq444 := (if_neg c569).symm.trans eq444
                      refine fx_iinc (pc := 990) (ls' := [some (62, 2), some (7, x_0), some (8, m_0), some (0, (fx_w (i_442 + 4)))]) F (by decide) rfl rfl rfl dL_law_990 ?_
                      refine fx_goto (pc := 993) F 18 (by decide) dL_law_993 ?_
                      cases eq444
                      exact ih _ rfl
                  exact fx_tswI (pc := 32) F 366 6 dL_law_32 c550 (by decide) rfl (by decide) hB570
                · have eq444 := (if_neg c550).symm.trans eq444
                  by_cases c571 : (fx_iand v446 31) = 7
                  · have eq444 := (if_pos c571).symm.trans eq444
                    have hB579 : fx_J M G Λ 4 429 [some (62, 2), some (7, x_0), some (8, m_0), some (0, i_442)] [] h443 := by
                      refine fx_aload_n (pc := 429) (t := 5) F 1 rfl rfl dL_law_429 ?_
                      obtain ⟨⟨v572, h573⟩, e574, eq444⟩ := fx_bnd eq444
                      refine fx_cV (pc := 430) F 5 kC_X5 [] x_0 [] (m_X5_clear Fu Λ x_0 h443 _ _ e574) kD_X5_clear kI_X5_clear rfl wM_L_48 ⟨rfl, rfl⟩ ⟨by decide, by decide⟩ (Nat.le_of_ble_eq_true rfl) rfl dL_law_430 ?_
                      refine fx_aload_n (pc := 433) (t := 6) F 2 rfl rfl dL_law_433 ?_
                      obtain ⟨⟨v575, h576⟩, e577, eq444⟩ := fx_bnd eq444
                      refine fx_cV (pc := 434) F 6 kC_X6 [] m_0 [(0, v572)] (m_X6_clear Fu Λ m_0 h573 _ _ e577) kD_X6_clear kI_X6_clear rfl wM_L_51 ⟨rfl, rfl⟩ ⟨by decide, by decide⟩ (Nat.le_of_ble_eq_true rfl) rfl dL_law_434 ?_
                      refine fx_nne (pc := 437) F 990 (by decide) dL_law_437 (fun c578 => ?_) (fun c578 => ?_)
                      · have eq444 := (if_pos c578).symm.trans eq444
                        refine fx_iconst (pc := 440) F ⟨by decide, by decide⟩ dL_law_440 ?_
                        cases eq444
                        have q9 := ex _ rfl
                        exact absurd (show some (0 : Int) = some 1 from q9) (by decide)
                      · have eq444 := (if_neg c578).symm.trans eq444
                        refine fx_iinc (pc := 990) (ls' := [some (62, 2), some (7, x_0), some (8, m_0), some (0, (fx_w (i_442 + 4)))]) F (by decide) rfl rfl rfl dL_law_990 ?_
                        refine fx_goto (pc := 993) F 18 (by decide) dL_law_993 ?_
                        cases eq444
                        exact ih _ rfl
                    exact fx_tswI (pc := 32) F 429 7 dL_law_32 c571 (by decide) rfl (by decide) hB579
                  · have eq444 := (if_neg c571).symm.trans eq444
                    by_cases c580 : (fx_iand v446 31) = 8
                    · have eq444 := (if_pos c580).symm.trans eq444
                      have hB588 : fx_J M G Λ 4 442 [some (62, 2), some (7, x_0), some (8, m_0), some (0, i_442)] [] h443 := by
                        refine fx_aload_n (pc := 442) (t := 5) F 1 rfl rfl dL_law_442 ?_
                        obtain ⟨⟨v581, h582⟩, e583, eq444⟩ := fx_bnd eq444
                        refine fx_cV (pc := 443) F 5 kC_X5 [] x_0 [] (m_X5_read Fu Λ x_0 h443 _ _ e583) kD_X5_read kI_X5_read rfl wM_L_52 ⟨rfl, rfl⟩ ⟨by decide, by decide⟩ (Nat.le_of_ble_eq_true rfl) rfl dL_law_443 ?_
                        refine fx_aload_n (pc := 446) (t := 6) F 2 rfl rfl dL_law_446 ?_
                        obtain ⟨⟨v584, h585⟩, e586, eq444⟩ := fx_bnd eq444
                        refine fx_cV (pc := 447) F 6 kC_X6 [] m_0 [(0, v581)] (m_X6_read Fu Λ m_0 h582 _ _ e586) kD_X6_read kI_X6_read rfl wM_L_55 ⟨rfl, rfl⟩ ⟨by decide, by decide⟩ (Nat.le_of_ble_eq_true rfl) rfl dL_law_447 ?_
                        refine fx_nne (pc := 450) F 990 (by decide) dL_law_450 (fun c587 => ?_) (fun c587 => ?_)
                        · have eq444 := (if_pos c587).symm.trans eq444
                          refine fx_iconst (pc := 453) F ⟨by decide, by decide⟩ dL_law_453 ?_
                          cases eq444
                          have q9 := ex _ rfl
                          exact absurd (show some (0 : Int) = some 1 from q9) (by decide)
                        · have eq444 := (if_neg c587).symm.trans eq444
                          refine fx_iinc (pc := 990) (ls' := [some (62, 2), some (7, x_0), some (8, m_0), some (0, (fx_w (i_442 + 4)))]) F (by decide) rfl rfl rfl dL_law_990 ?_
                          refine fx_goto (pc := 993) F 18 (by decide) dL_law_993 ?_
                          cases eq444
                          exact ih _ rfl
                      exact fx_tswI (pc := 32) F 442 8 dL_law_32 c580 (by decide) rfl (by decide) hB588
                    · have eq444 := (if_neg c580).symm.trans eq444
                      by_cases c589 : (fx_iand v446 31) = 9
                      · have eq444 := (if_pos c589).symm.trans eq444
                        have hB601 : fx_J M G Λ 4 455 [some (62, 2), some (7, x_0), some (8, m_0), some (0, i_442)] [] h443 := by
                          refine fx_aload_n (pc := 455) (t := 5) F 1 rfl rfl dL_law_455 ?_
                          refine fx_aload_n (pc := 456) (t := 60) F 0 rfl rfl dL_law_456 ?_
                          refine fx_iload_n (pc := 457) F 3 rfl rfl dL_law_457 ?_
                          refine fx_iconst (pc := 458) F ⟨by decide, by decide⟩ dL_law_458 ?_
                          refine fx_iadd (pc := 459) F dL_law_459 ?_
                          obtain ⟨v590, e591, eq444⟩ := fx_bnd eq444
                          refine fx_rsld (pc := 460) F S e591 dL_law_460 ?_
                          obtain ⟨⟨v592, h593⟩, e594, eq444⟩ := fx_bnd eq444
                          refine fx_cV (pc := 461) F 5 kC_X5 [(0, v590)] x_0 [] (m_X5_at Fu Λ x_0 v590 h443 _ _ e594) kD_X5_at kI_X5_at rfl wM_L_56 ⟨rfl, rfl⟩ ⟨by decide, by decide⟩ (Nat.le_of_ble_eq_true rfl) rfl dL_law_461 ?_
                          refine fx_aload_n (pc := 464) (t := 6) F 2 rfl rfl dL_law_464 ?_
                          refine fx_aload_n (pc := 465) (t := 60) F 0 rfl rfl dL_law_465 ?_
                          refine fx_iload_n (pc := 466) F 3 rfl rfl dL_law_466 ?_
                          refine fx_iconst (pc := 467) F ⟨by decide, by decide⟩ dL_law_467 ?_
                          refine fx_iadd (pc := 468) F dL_law_468 ?_
                          obtain ⟨v595, e596, eq444⟩ := fx_bnd eq444
                          refine fx_rsld (pc := 469) F S e596 dL_law_469 ?_
                          obtain ⟨⟨v597, h598⟩, e599, eq444⟩ := fx_bnd eq444
                          refine fx_cV (pc := 470) F 6 kC_X6 [(0, v595)] m_0 [(0, v592)] (m_X6_at Fu Λ m_0 v595 h593 _ _ e599) kD_X6_at kI_X6_at rfl wM_L_59 ⟨rfl, rfl⟩ ⟨by decide, by decide⟩ (Nat.le_of_ble_eq_true rfl) rfl dL_law_470 ?_
                          refine fx_nne (pc := 473) F 990 (by decide) dL_law_473 (fun c600 => ?_) (fun c600 => ?_)
                          · have eq444 := (if_pos c600).symm.trans eq444
                            refine fx_iconst (pc := 476) F ⟨by decide, by decide⟩ dL_law_476 ?_
                            cases eq444
                            have q9 := ex _ rfl
                            exact absurd (show some (0 : Int) = some 1 from q9) (by decide)
                          · have eq444 := (if_neg c600).symm.trans eq444
                            refine fx_iinc (pc := 990) (ls' := [some (62, 2), some (7, x_0), some (8, m_0), some (0, (fx_w (i_442 + 4)))]) F (by decide) rfl rfl rfl dL_law_990 ?_
                            refine fx_goto (pc := 993) F 18 (by decide) dL_law_993 ?_
                            cases eq444
                            exact ih _ rfl
                        exact fx_tswI (pc := 32) F 455 9 dL_law_32 c589 (by decide) rfl (by decide) hB601
                      · have eq444 := (if_neg c589).symm.trans eq444
                        by_cases c602 : (fx_iand v446 31) = 10
                        · have eq444 := (if_pos c602).symm.trans eq444
                          have hB618 : fx_J M G Λ 4 478 [some (62, 2), some (7, x_0), some (8, m_0), some (0, i_442)] [] h443 := by
                            refine fx_aload_n (pc := 478) (t := 5) F 1 rfl rfl dL_law_478 ?_
                            refine fx_aload_n (pc := 479) (t := 60) F 0 rfl rfl dL_law_479 ?_
                            refine fx_iload_n (pc := 480) F 3 rfl rfl dL_law_480 ?_
                            refine fx_iconst (pc := 481) F ⟨by decide, by decide⟩ dL_law_481 ?_
                            refine fx_iadd (pc := 482) F dL_law_482 ?_
                            obtain ⟨v603, e604, eq444⟩ := fx_bnd eq444
                            refine fx_rsld (pc := 483) F S e604 dL_law_483 ?_
                            refine fx_aload_n (pc := 484) (t := 60) F 0 rfl rfl dL_law_484 ?_
                            refine fx_iload_n (pc := 485) F 3 rfl rfl dL_law_485 ?_
                            refine fx_iconst (pc := 486) F ⟨by decide, by decide⟩ dL_law_486 ?_
                            refine fx_iadd (pc := 487) F dL_law_487 ?_
                            obtain ⟨v605, e606, eq444⟩ := fx_bnd eq444
                            refine fx_rsld (pc := 488) F S e606 dL_law_488 ?_
                            obtain ⟨⟨v607, h608⟩, e609, eq444⟩ := fx_bnd eq444
                            refine fx_cV (pc := 489) F 5 kC_X5 [(0, v603), (0, v605)] x_0 [] (m_X5_pays Fu Λ x_0 v603 v605 h443 _ _ e609) kD_X5_pays kI_X5_pays rfl wM_L_60 ⟨rfl, rfl⟩ ⟨by decide, by decide⟩ (Nat.le_of_ble_eq_true rfl) rfl dL_law_489 ?_
                            refine fx_aload_n (pc := 492) (t := 6) F 2 rfl rfl dL_law_492 ?_
                            refine fx_aload_n (pc := 493) (t := 60) F 0 rfl rfl dL_law_493 ?_
                            refine fx_iload_n (pc := 494) F 3 rfl rfl dL_law_494 ?_
                            refine fx_iconst (pc := 495) F ⟨by decide, by decide⟩ dL_law_495 ?_
                            refine fx_iadd (pc := 496) F dL_law_496 ?_
                            obtain ⟨v610, e611, eq444⟩ := fx_bnd eq444
                            refine fx_rsld (pc := 497) F S e611 dL_law_497 ?_
                            refine fx_aload_n (pc := 498) (t := 60) F 0 rfl rfl dL_law_498 ?_
                            refine fx_iload_n (pc := 499) F 3 rfl rfl dL_law_499 ?_
                            refine fx_iconst (pc := 500) F ⟨by decide, by decide⟩ dL_law_500 ?_
                            refine fx_iadd (pc := 501) F dL_law_501 ?_
                            obtain ⟨v612, e613, eq444⟩ := fx_bnd eq444
                            refine fx_rsld (pc := 502) F S e613 dL_law_502 ?_
                            obtain ⟨⟨v614, h615⟩, e616, eq444⟩ := fx_bnd eq444
                            refine fx_cV (pc := 503) F 6 kC_X6 [(0, v610), (0, v612)] m_0 [(0, v607)] (m_X6_pays Fu Λ m_0 v610 v612 h608 _ _ e616) kD_X6_pays kI_X6_pays rfl wM_L_63 ⟨rfl, rfl⟩ ⟨by decide, by decide⟩ (Nat.le_of_ble_eq_true rfl) rfl dL_law_503 ?_
                            refine fx_nne (pc := 506) F 990 (by decide) dL_law_506 (fun c617 => ?_) (fun c617 => ?_)
                            · have eq444 := (if_pos c617).symm.trans eq444
                              refine fx_iconst (pc := 509) F ⟨by decide, by decide⟩ dL_law_509 ?_
                              cases eq444
                              have q9 := ex _ rfl
                              exact absurd (show some (0 : Int) = some 1 from q9) (by decide)
                            · have eq444 := (if_neg c617).symm.trans eq444
                              refine fx_iinc (pc := 990) (ls' := [some (62, 2), some (7, x_0), some (8, m_0), some (0, (fx_w (i_442 + 4)))]) F (by decide) rfl rfl rfl dL_law_990 ?_
                              refine fx_goto (pc := 993) F 18 (by decide) dL_law_993 ?_
                              cases eq444
                              exact ih _ rfl
                          exact fx_tswI (pc := 32) F 478 10 dL_law_32 c602 (by decide) rfl (by decide) hB618
                        · have eq444 := (if_neg c602).symm.trans eq444
                          by_cases c619 : (fx_iand v446 31) = 11
                          · have eq444 := (if_pos c619).symm.trans eq444
                            have hB627 : fx_J M G Λ 4 511 [some (62, 2), some (7, x_0), some (8, m_0), some (0, i_442)] [] h443 := by
                              refine fx_aload_n (pc := 511) (t := 5) F 1 rfl rfl dL_law_511 ?_
                              obtain ⟨⟨v620, h621⟩, e622, eq444⟩ := fx_bnd eq444
                              refine fx_cV (pc := 512) F 5 kC_X5 [] x_0 [] (m_X5_all Fu Λ x_0 h443 _ _ e622) kD_X5_all kI_X5_all rfl wM_L_64 ⟨rfl, rfl⟩ ⟨by decide, by decide⟩ (Nat.le_of_ble_eq_true rfl) rfl dL_law_512 ?_
                              refine fx_aload_n (pc := 515) (t := 6) F 2 rfl rfl dL_law_515 ?_
                              obtain ⟨⟨v623, h624⟩, e625, eq444⟩ := fx_bnd eq444
                              refine fx_cV (pc := 516) F 6 kC_X6 [] m_0 [(0, v620)] (m_X6_all Fu Λ m_0 h621 _ _ e625) kD_X6_all kI_X6_all rfl wM_L_67 ⟨rfl, rfl⟩ ⟨by decide, by decide⟩ (Nat.le_of_ble_eq_true rfl) rfl dL_law_516 ?_
                              refine fx_nne (pc := 519) F 990 (by decide) dL_law_519 (fun c626 => ?_) (fun c626 => ?_)
                              · have eq444 := (if_pos c626).symm.trans eq444
                                refine fx_iconst (pc := 522) F ⟨by decide, by decide⟩ dL_law_522 ?_
                                cases eq444
                                have q9 := ex _ rfl
                                exact absurd (show some (0 : Int) = some 1 from q9) (by decide)
                              · have eq444 := (if_neg c626).symm.trans eq444
                                refine fx_iinc (pc := 990) (ls' := [some (62, 2), some (7, x_0), some (8, m_0), some (0, (fx_w (i_442 + 4)))]) F (by decide) rfl rfl rfl dL_law_990 ?_
                                refine fx_goto (pc := 993) F 18 (by decide) dL_law_993 ?_
                                cases eq444
                                exact ih _ rfl
                            exact fx_tswI (pc := 32) F 511 11 dL_law_32 c619 (by decide) rfl (by decide) hB627
                          · have eq444 := (if_neg c619).symm.trans eq444
                            by_cases c628 : (fx_iand v446 31) = 12
                            · have eq444 := (if_pos c628).symm.trans eq444
                              have hB644 : fx_J M G Λ 4 524 [some (62, 2), some (7, x_0), some (8, m_0), some (0, i_442)] [] h443 := by
                                refine fx_aload_n (pc := 524) (t := 5) F 1 rfl rfl dL_law_524 ?_
                                refine fx_aload_n (pc := 525) (t := 60) F 0 rfl rfl dL_law_525 ?_
                                refine fx_iload_n (pc := 526) F 3 rfl rfl dL_law_526 ?_
                                refine fx_iconst (pc := 527) F ⟨by decide, by decide⟩ dL_law_527 ?_
                                refine fx_iadd (pc := 528) F dL_law_528 ?_
                                obtain ⟨v629, e630, eq444⟩ := fx_bnd eq444
                                refine fx_rsld (pc := 529) F S e630 dL_law_529 ?_
                                refine fx_aload_n (pc := 530) (t := 60) F 0 rfl rfl dL_law_530 ?_
                                refine fx_iload_n (pc := 531) F 3 rfl rfl dL_law_531 ?_
                                refine fx_iconst (pc := 532) F ⟨by decide, by decide⟩ dL_law_532 ?_
                                refine fx_iadd (pc := 533) F dL_law_533 ?_
                                obtain ⟨v631, e632, eq444⟩ := fx_bnd eq444
                                refine fx_rsld (pc := 534) F S e632 dL_law_534 ?_
                                obtain ⟨⟨v633, h634⟩, e635, eq444⟩ := fx_bnd eq444
                                refine fx_cV (pc := 535) F 5 kC_X5 [(0, v629), (0, v631)] x_0 [] (m_X5_least Fu Λ x_0 v629 v631 h443 _ _ e635) kD_X5_least kI_X5_least rfl wM_L_68 ⟨rfl, rfl⟩ ⟨by decide, by decide⟩ (Nat.le_of_ble_eq_true rfl) rfl dL_law_535 ?_
                                refine fx_aload_n (pc := 538) (t := 6) F 2 rfl rfl dL_law_538 ?_
                                refine fx_aload_n (pc := 539) (t := 60) F 0 rfl rfl dL_law_539 ?_
                                refine fx_iload_n (pc := 540) F 3 rfl rfl dL_law_540 ?_
                                refine fx_iconst (pc := 541) F ⟨by decide, by decide⟩ dL_law_541 ?_
                                refine fx_iadd (pc := 542) F dL_law_542 ?_
                                obtain ⟨v636, e637, eq444⟩ := fx_bnd eq444
                                refine fx_rsld (pc := 543) F S e637 dL_law_543 ?_
                                refine fx_aload_n (pc := 544) (t := 60) F 0 rfl rfl dL_law_544 ?_
                                refine fx_iload_n (pc := 545) F 3 rfl rfl dL_law_545 ?_
                                refine fx_iconst (pc := 546) F ⟨by decide, by decide⟩ dL_law_546 ?_
                                refine fx_iadd (pc := 547) F dL_law_547 ?_
                                obtain ⟨v638, e639, eq444⟩ := fx_bnd eq444
                                refine fx_rsld (pc := 548) F S e639 dL_law_548 ?_
                                obtain ⟨⟨v640, h641⟩, e642, eq444⟩ := fx_bnd eq444
                                refine fx_cV (pc := 549) F 6 kC_X6 [(0, v636), (0, v638)] m_0 [(0, v633)] (m_X6_least Fu Λ m_0 v636 v638 h634 _ _ e642) kD_X6_least kI_X6_least rfl wM_L_71 ⟨rfl, rfl⟩ ⟨by decide, by decide⟩ (Nat.le_of_ble_eq_true rfl) rfl dL_law_549 ?_
                                refine fx_nne (pc := 552) F 990 (by decide) dL_law_552 (fun c643 => ?_) (fun c643 => ?_)
                                · have eq444 := (if_pos c643).symm.trans eq444
                                  refine fx_iconst (pc := 555) F ⟨by decide, by decide⟩ dL_law_555 ?_
                                  cases eq444
                                  have q9 := ex _ rfl
                                  exact absurd (show some (0 : Int) = some 1 from q9) (by decide)
                                · have eq444 := (if_neg c643).symm.trans eq444
                                  refine fx_iinc (pc := 990) (ls' := [some (62, 2), some (7, x_0), some (8, m_0), some (0, (fx_w (i_442 + 4)))]) F (by decide) rfl rfl rfl dL_law_990 ?_
                                  refine fx_goto (pc := 993) F 18 (by decide) dL_law_993 ?_
                                  cases eq444
                                  exact ih _ rfl
                              exact fx_tswI (pc := 32) F 524 12 dL_law_32 c628 (by decide) rfl (by decide) hB644
                            · have eq444 := (if_neg c628).symm.trans eq444
                              by_cases c645 : (fx_iand v446 31) = 13
                              · have eq444 := (if_pos c645).symm.trans eq444
                                have hB653 : fx_J M G Λ 4 557 [some (62, 2), some (7, x_0), some (8, m_0), some (0, i_442)] [] h443 := by
                                  refine fx_aload_n (pc := 557) (t := 5) F 1 rfl rfl dL_law_557 ?_
                                  obtain ⟨⟨v646, h647⟩, e648, eq444⟩ := fx_bnd eq444
                                  refine fx_cV (pc := 558) F 5 kC_X5 [] x_0 [] (m_X5_fewest Fu Λ x_0 h443 _ _ e648) kD_X5_fewest kI_X5_fewest rfl wM_L_72 ⟨rfl, rfl⟩ ⟨by decide, by decide⟩ (Nat.le_of_ble_eq_true rfl) rfl dL_law_558 ?_
                                  refine fx_aload_n (pc := 561) (t := 6) F 2 rfl rfl dL_law_561 ?_
                                  obtain ⟨⟨v649, h650⟩, e651, eq444⟩ := fx_bnd eq444
                                  refine fx_cV (pc := 562) F 6 kC_X6 [] m_0 [(0, v646)] (m_X6_fewest Fu Λ m_0 h647 _ _ e651) kD_X6_fewest kI_X6_fewest rfl wM_L_75 ⟨rfl, rfl⟩ ⟨by decide, by decide⟩ (Nat.le_of_ble_eq_true rfl) rfl dL_law_562 ?_
                                  refine fx_nne (pc := 565) F 990 (by decide) dL_law_565 (fun c652 => ?_) (fun c652 => ?_)
                                  · have eq444 := (if_pos c652).symm.trans eq444
                                    refine fx_iconst (pc := 568) F ⟨by decide, by decide⟩ dL_law_568 ?_
                                    cases eq444
                                    have q9 := ex _ rfl
                                    exact absurd (show some (0 : Int) = some 1 from q9) (by decide)
                                  · have eq444 := (if_neg c652).symm.trans eq444
                                    refine fx_iinc (pc := 990) (ls' := [some (62, 2), some (7, x_0), some (8, m_0), some (0, (fx_w (i_442 + 4)))]) F (by decide) rfl rfl rfl dL_law_990 ?_
                                    refine fx_goto (pc := 993) F 18 (by decide) dL_law_993 ?_
                                    cases eq444
                                    exact ih _ rfl
                                exact fx_tswI (pc := 32) F 557 13 dL_law_32 c645 (by decide) rfl (by decide) hB653
                              · have eq444 := (if_neg c645).symm.trans eq444
                                by_cases c654 : (fx_iand v446 31) = 14
                                · have eq444 := (if_pos c654).symm.trans eq444
                                  have hB666 : fx_J M G Λ 4 570 [some (62, 2), some (7, x_0), some (8, m_0), some (0, i_442)] [] h443 := by
                                    refine fx_aload_n (pc := 570) (t := 5) F 1 rfl rfl dL_law_570 ?_
                                    refine fx_aload_n (pc := 571) (t := 60) F 0 rfl rfl dL_law_571 ?_
                                    refine fx_iload_n (pc := 572) F 3 rfl rfl dL_law_572 ?_
                                    refine fx_iconst (pc := 573) F ⟨by decide, by decide⟩ dL_law_573 ?_
                                    refine fx_iadd (pc := 574) F dL_law_574 ?_
                                    obtain ⟨v655, e656, eq444⟩ := fx_bnd eq444
                                    refine fx_rsld (pc := 575) F S e656 dL_law_575 ?_
                                    obtain ⟨⟨v657, h658⟩, e659, eq444⟩ := fx_bnd eq444
                                    refine fx_cV (pc := 576) F 5 kC_X5 [(0, v655)] x_0 [] (m_X5_list Fu Λ x_0 v655 h443 _ _ e659) kD_X5_list kI_X5_list rfl wM_L_76 ⟨rfl, rfl⟩ ⟨by decide, by decide⟩ (Nat.le_of_ble_eq_true rfl) rfl dL_law_576 ?_
                                    refine fx_aload_n (pc := 579) (t := 6) F 2 rfl rfl dL_law_579 ?_
                                    refine fx_aload_n (pc := 580) (t := 60) F 0 rfl rfl dL_law_580 ?_
                                    refine fx_iload_n (pc := 581) F 3 rfl rfl dL_law_581 ?_
                                    refine fx_iconst (pc := 582) F ⟨by decide, by decide⟩ dL_law_582 ?_
                                    refine fx_iadd (pc := 583) F dL_law_583 ?_
                                    obtain ⟨v660, e661, eq444⟩ := fx_bnd eq444
                                    refine fx_rsld (pc := 584) F S e661 dL_law_584 ?_
                                    obtain ⟨⟨v662, h663⟩, e664, eq444⟩ := fx_bnd eq444
                                    refine fx_cV (pc := 585) F 6 kC_X6 [(0, v660)] m_0 [(0, v657)] (m_X6_list Fu Λ m_0 v660 h658 _ _ e664) kD_X6_list kI_X6_list rfl wM_L_79 ⟨rfl, rfl⟩ ⟨by decide, by decide⟩ (Nat.le_of_ble_eq_true rfl) rfl dL_law_585 ?_
                                    refine fx_nne (pc := 588) F 990 (by decide) dL_law_588 (fun c665 => ?_) (fun c665 => ?_)
                                    · have eq444 := (if_pos c665).symm.trans eq444
                                      refine fx_iconst (pc := 591) F ⟨by decide, by decide⟩ dL_law_591 ?_
                                      cases eq444
                                      have q9 := ex _ rfl
                                      exact absurd (show some (0 : Int) = some 1 from q9) (by decide)
                                    · have eq444 := (if_neg c665).symm.trans eq444
                                      refine fx_iinc (pc := 990) (ls' := [some (62, 2), some (7, x_0), some (8, m_0), some (0, (fx_w (i_442 + 4)))]) F (by decide) rfl rfl rfl dL_law_990 ?_
                                      refine fx_goto (pc := 993) F 18 (by decide) dL_law_993 ?_
                                      cases eq444
                                      exact ih _ rfl
                                  exact fx_tswI (pc := 32) F 570 14 dL_law_32 c654 (by decide) rfl (by decide) hB666
                                · have eq444 := (if_neg c654).symm.trans eq444
                                  by_cases c667 : (fx_iand v446 31) = 15
                                  · have eq444 := (if_pos c667).symm.trans eq444
                                    have hB679 : fx_J M G Λ 4 593 [some (62, 2), some (7, x_0), some (8, m_0), some (0, i_442)] [] h443 := by
                                      refine fx_aload_n (pc := 593) (t := 5) F 1 rfl rfl dL_law_593 ?_
                                      refine fx_aload_n (pc := 594) (t := 60) F 0 rfl rfl dL_law_594 ?_
                                      refine fx_iload_n (pc := 595) F 3 rfl rfl dL_law_595 ?_
                                      refine fx_iconst (pc := 596) F ⟨by decide, by decide⟩ dL_law_596 ?_
                                      refine fx_iadd (pc := 597) F dL_law_597 ?_
                                      obtain ⟨v668, e669, eq444⟩ := fx_bnd eq444
                                      refine fx_rsld (pc := 598) F S e669 dL_law_598 ?_
                                      obtain ⟨⟨v670, h671⟩, e672, eq444⟩ := fx_bnd eq444
                                      refine fx_cV (pc := 599) F 5 kC_X5 [(0, v668)] x_0 [] (m_X5_rests Fu Λ x_0 v668 h443 _ _ e672) kD_X5_rests kI_X5_rests rfl wM_L_80 ⟨rfl, rfl⟩ ⟨by decide, by decide⟩ (Nat.le_of_ble_eq_true rfl) rfl dL_law_599 ?_
                                      refine fx_aload_n (pc := 602) (t := 6) F 2 rfl rfl dL_law_602 ?_
                                      refine fx_aload_n (pc := 603) (t := 60) F 0 rfl rfl dL_law_603 ?_
                                      refine fx_iload_n (pc := 604) F 3 rfl rfl dL_law_604 ?_
                                      refine fx_iconst (pc := 605) F ⟨by decide, by decide⟩ dL_law_605 ?_
                                      refine fx_iadd (pc := 606) F dL_law_606 ?_
                                      obtain ⟨v673, e674, eq444⟩ := fx_bnd eq444
                                      refine fx_rsld (pc := 607) F S e674 dL_law_607 ?_
                                      obtain ⟨⟨v675, h676⟩, e677, eq444⟩ := fx_bnd eq444
                                      refine fx_cV (pc := 608) F 6 kC_X6 [(0, v673)] m_0 [(0, v670)] (m_X6_rests Fu Λ m_0 v673 h671 _ _ e677) kD_X6_rests kI_X6_rests rfl wM_L_83 ⟨rfl, rfl⟩ ⟨by decide, by decide⟩ (Nat.le_of_ble_eq_true rfl) rfl dL_law_608 ?_
                                      refine fx_nne (pc := 611) F 990 (by decide) dL_law_611 (fun c678 => ?_) (fun c678 => ?_)
                                      · have eq444 := (if_pos c678).symm.trans eq444
                                        refine fx_iconst (pc := 614) F ⟨by decide, by decide⟩ dL_law_614 ?_
                                        cases eq444
                                        have q9 := ex _ rfl
                                        exact absurd (show some (0 : Int) = some 1 from q9) (by decide)
                                      · have eq444 := (if_neg c678).symm.trans eq444
                                        refine fx_iinc (pc := 990) (ls' := [some (62, 2), some (7, x_0), some (8, m_0), some (0, (fx_w (i_442 + 4)))]) F (by decide) rfl rfl rfl dL_law_990 ?_
                                        refine fx_goto (pc := 993) F 18 (by decide) dL_law_993 ?_
                                        cases eq444
                                        exact ih _ rfl
                                    exact fx_tswI (pc := 32) F 593 15 dL_law_32 c667 (by decide) rfl (by decide) hB679
                                  · have eq444 := (if_neg c667).symm.trans eq444
                                    by_cases c680 : (fx_iand v446 31) = 16
                                    · have eq444 := (if_pos c680).symm.trans eq444
                                      have hB696 : fx_J M G Λ 4 616 [some (62, 2), some (7, x_0), some (8, m_0), some (0, i_442)] [] h443 := by
                                        refine fx_aload_n (pc := 616) (t := 5) F 1 rfl rfl dL_law_616 ?_
                                        refine fx_aload_n (pc := 617) (t := 60) F 0 rfl rfl dL_law_617 ?_
                                        refine fx_iload_n (pc := 618) F 3 rfl rfl dL_law_618 ?_
                                        refine fx_iconst (pc := 619) F ⟨by decide, by decide⟩ dL_law_619 ?_
                                        refine fx_iadd (pc := 620) F dL_law_620 ?_
                                        obtain ⟨v681, e682, eq444⟩ := fx_bnd eq444
                                        refine fx_rsld (pc := 621) F S e682 dL_law_621 ?_
                                        refine fx_aload_n (pc := 622) (t := 60) F 0 rfl rfl dL_law_622 ?_
                                        refine fx_iload_n (pc := 623) F 3 rfl rfl dL_law_623 ?_
                                        refine fx_iconst (pc := 624) F ⟨by decide, by decide⟩ dL_law_624 ?_
                                        refine fx_iadd (pc := 625) F dL_law_625 ?_
                                        obtain ⟨v683, e684, eq444⟩ := fx_bnd eq444
                                        refine fx_rsld (pc := 626) F S e684 dL_law_626 ?_
                                        obtain ⟨⟨v685, h686⟩, e687, eq444⟩ := fx_bnd eq444
                                        refine fx_cV (pc := 627) F 5 kC_X5 [(0, v681), (0, v683)] x_0 [] (m_X5_better Fu Λ x_0 v681 v683 h443 _ _ e687) kD_X5_better kI_X5_better rfl wM_L_84 ⟨rfl, rfl⟩ ⟨by decide, by decide⟩ (Nat.le_of_ble_eq_true rfl) rfl dL_law_627 ?_
                                        refine fx_aload_n (pc := 630) (t := 6) F 2 rfl rfl dL_law_630 ?_
                                        refine fx_aload_n (pc := 631) (t := 60) F 0 rfl rfl dL_law_631 ?_
                                        refine fx_iload_n (pc := 632) F 3 rfl rfl dL_law_632 ?_
                                        refine fx_iconst (pc := 633) F ⟨by decide, by decide⟩ dL_law_633 ?_
                                        refine fx_iadd (pc := 634) F dL_law_634 ?_
                                        obtain ⟨v688, e689, eq444⟩ := fx_bnd eq444
                                        refine fx_rsld (pc := 635) F S e689 dL_law_635 ?_
                                        refine fx_aload_n (pc := 636) (t := 60) F 0 rfl rfl dL_law_636 ?_
                                        refine fx_iload_n (pc := 637) F 3 rfl rfl dL_law_637 ?_
                                        refine fx_iconst (pc := 638) F ⟨by decide, by decide⟩ dL_law_638 ?_
                                        refine fx_iadd (pc := 639) F dL_law_639 ?_
                                        obtain ⟨v690, e691, eq444⟩ := fx_bnd eq444
                                        refine fx_rsld (pc := 640) F S e691 dL_law_640 ?_
                                        obtain ⟨⟨v692, h693⟩, e694, eq444⟩ := fx_bnd eq444
                                        refine fx_cV (pc := 641) F 6 kC_X6 [(0, v688), (0, v690)] m_0 [(0, v685)] (m_X6_better Fu Λ m_0 v688 v690 h686 _ _ e694) kD_X6_better kI_X6_better rfl wM_L_87 ⟨rfl, rfl⟩ ⟨by decide, by decide⟩ (Nat.le_of_ble_eq_true rfl) rfl dL_law_641 ?_
                                        refine fx_nne (pc := 644) F 990 (by decide) dL_law_644 (fun c695 => ?_) (fun c695 => ?_)
                                        · have eq444 := (if_pos c695).symm.trans eq444
                                          refine fx_iconst (pc := 647) F ⟨by decide, by decide⟩ dL_law_647 ?_
                                          cases eq444
                                          have q9 := ex _ rfl
                                          exact absurd (show some (0 : Int) = some 1 from q9) (by decide)
                                        · have eq444 := (if_neg c695).symm.trans eq444
                                          refine fx_iinc (pc := 990) (ls' := [some (62, 2), some (7, x_0), some (8, m_0), some (0, (fx_w (i_442 + 4)))]) F (by decide) rfl rfl rfl dL_law_990 ?_
                                          refine fx_goto (pc := 993) F 18 (by decide) dL_law_993 ?_
                                          cases eq444
                                          exact ih _ rfl
                                      exact fx_tswI (pc := 32) F 616 16 dL_law_32 c680 (by decide) rfl (by decide) hB696
                                    · have eq444 := (if_neg c680).symm.trans eq444
                                      by_cases c697 : (fx_iand v446 31) = 17
                                      · have eq444 := (if_pos c697).symm.trans eq444
                                        have hB709 : fx_J M G Λ 4 649 [some (62, 2), some (7, x_0), some (8, m_0), some (0, i_442)] [] h443 := by
                                          refine fx_aload_n (pc := 649) (t := 5) F 1 rfl rfl dL_law_649 ?_
                                          refine fx_aload_n (pc := 650) (t := 60) F 0 rfl rfl dL_law_650 ?_
                                          refine fx_iload_n (pc := 651) F 3 rfl rfl dL_law_651 ?_
                                          refine fx_iconst (pc := 652) F ⟨by decide, by decide⟩ dL_law_652 ?_
                                          refine fx_iadd (pc := 653) F dL_law_653 ?_
                                          obtain ⟨v698, e699, eq444⟩ := fx_bnd eq444
                                          refine fx_rsld (pc := 654) F S e699 dL_law_654 ?_
                                          obtain ⟨⟨v700, h701⟩, e702, eq444⟩ := fx_bnd eq444
                                          refine fx_cV (pc := 655) F 5 kC_X5 [(0, v698)] x_0 [] (m_X5_name Fu Λ x_0 v698 h443 _ _ e702) kD_X5_name kI_X5_name rfl wM_L_88 ⟨rfl, rfl⟩ ⟨by decide, by decide⟩ (Nat.le_of_ble_eq_true rfl) rfl dL_law_655 ?_
                                          refine fx_aload_n (pc := 658) (t := 6) F 2 rfl rfl dL_law_658 ?_
                                          refine fx_aload_n (pc := 659) (t := 60) F 0 rfl rfl dL_law_659 ?_
                                          refine fx_iload_n (pc := 660) F 3 rfl rfl dL_law_660 ?_
                                          refine fx_iconst (pc := 661) F ⟨by decide, by decide⟩ dL_law_661 ?_
                                          refine fx_iadd (pc := 662) F dL_law_662 ?_
                                          obtain ⟨v703, e704, eq444⟩ := fx_bnd eq444
                                          refine fx_rsld (pc := 663) F S e704 dL_law_663 ?_
                                          obtain ⟨⟨v705, h706⟩, e707, eq444⟩ := fx_bnd eq444
                                          refine fx_cV (pc := 664) F 6 kC_X6 [(0, v703)] m_0 [(0, v700)] (m_X6_name Fu Λ m_0 v703 h701 _ _ e707) kD_X6_name kI_X6_name rfl wM_L_91 ⟨rfl, rfl⟩ ⟨by decide, by decide⟩ (Nat.le_of_ble_eq_true rfl) rfl dL_law_664 ?_
                                          refine fx_nne (pc := 667) F 990 (by decide) dL_law_667 (fun c708 => ?_) (fun c708 => ?_)
                                          · have eq444 := (if_pos c708).symm.trans eq444
                                            refine fx_iconst (pc := 670) F ⟨by decide, by decide⟩ dL_law_670 ?_
                                            cases eq444
                                            have q9 := ex _ rfl
                                            exact absurd (show some (0 : Int) = some 1 from q9) (by decide)
                                          · have eq444 := (if_neg c708).symm.trans eq444
                                            refine fx_iinc (pc := 990) (ls' := [some (62, 2), some (7, x_0), some (8, m_0), some (0, (fx_w (i_442 + 4)))]) F (by decide) rfl rfl rfl dL_law_990 ?_
                                            refine fx_goto (pc := 993) F 18 (by decide) dL_law_993 ?_
                                            cases eq444
                                            exact ih _ rfl
                                        exact fx_tswI (pc := 32) F 649 17 dL_law_32 c697 (by decide) rfl (by decide) hB709
                                      · have eq444 := (if_neg c697).symm.trans eq444
                                        by_cases c710 : (fx_iand v446 31) = 18
                                        · have eq444 := (if_pos c710).symm.trans eq444
                                          have hB722 : fx_J M G Λ 4 672 [some (62, 2), some (7, x_0), some (8, m_0), some (0, i_442)] [] h443 := by
                                            refine fx_aload_n (pc := 672) (t := 5) F 1 rfl rfl dL_law_672 ?_
                                            refine fx_aload_n (pc := 673) (t := 60) F 0 rfl rfl dL_law_673 ?_
                                            refine fx_iload_n (pc := 674) F 3 rfl rfl dL_law_674 ?_
                                            refine fx_iconst (pc := 675) F ⟨by decide, by decide⟩ dL_law_675 ?_
                                            refine fx_iadd (pc := 676) F dL_law_676 ?_
                                            obtain ⟨v711, e712, eq444⟩ := fx_bnd eq444
                                            refine fx_rsld (pc := 677) F S e712 dL_law_677 ?_
                                            obtain ⟨⟨v713, h714⟩, e715, eq444⟩ := fx_bnd eq444
                                            refine fx_cV (pc := 678) F 5 kC_X5 [(0, v711)] x_0 [] (m_X5_line Fu Λ x_0 v711 h443 _ _ e715) kD_X5_line kI_X5_line rfl wM_L_92 ⟨rfl, rfl⟩ ⟨by decide, by decide⟩ (Nat.le_of_ble_eq_true rfl) rfl dL_law_678 ?_
                                            refine fx_aload_n (pc := 681) (t := 6) F 2 rfl rfl dL_law_681 ?_
                                            refine fx_aload_n (pc := 682) (t := 60) F 0 rfl rfl dL_law_682 ?_
                                            refine fx_iload_n (pc := 683) F 3 rfl rfl dL_law_683 ?_
                                            refine fx_iconst (pc := 684) F ⟨by decide, by decide⟩ dL_law_684 ?_
                                            refine fx_iadd (pc := 685) F dL_law_685 ?_
                                            obtain ⟨v716, e717, eq444⟩ := fx_bnd eq444
                                            refine fx_rsld (pc := 686) F S e717 dL_law_686 ?_
                                            obtain ⟨⟨v718, h719⟩, e720, eq444⟩ := fx_bnd eq444
                                            refine fx_cV (pc := 687) F 6 kC_X6 [(0, v716)] m_0 [(0, v713)] (m_X6_line Fu Λ m_0 v716 h714 _ _ e720) kD_X6_line kI_X6_line rfl wM_L_95 ⟨rfl, rfl⟩ ⟨by decide, by decide⟩ (Nat.le_of_ble_eq_true rfl) rfl dL_law_687 ?_
                                            refine fx_nne (pc := 690) F 990 (by decide) dL_law_690 (fun c721 => ?_) (fun c721 => ?_)
                                            · have eq444 := (if_pos c721).symm.trans eq444
                                              refine fx_iconst (pc := 693) F ⟨by decide, by decide⟩ dL_law_693 ?_
                                              cases eq444
                                              have q9 := ex _ rfl
                                              exact absurd (show some (0 : Int) = some 1 from q9) (by decide)
                                            · have eq444 := (if_neg c721).symm.trans eq444
                                              refine fx_iinc (pc := 990) (ls' := [some (62, 2), some (7, x_0), some (8, m_0), some (0, (fx_w (i_442 + 4)))]) F (by decide) rfl rfl rfl dL_law_990 ?_
                                              refine fx_goto (pc := 993) F 18 (by decide) dL_law_993 ?_
                                              cases eq444
                                              exact ih _ rfl
                                          exact fx_tswI (pc := 32) F 672 18 dL_law_32 c710 (by decide) rfl (by decide) hB722
                                        · have eq444 := (if_neg c710).symm.trans eq444
                                          by_cases c723 : (fx_iand v446 31) = 19
                                          · have eq444 := (if_pos c723).symm.trans eq444
                                            have hB739 : fx_J M G Λ 4 695 [some (62, 2), some (7, x_0), some (8, m_0), some (0, i_442)] [] h443 := by
                                              refine fx_aload_n (pc := 695) (t := 5) F 1 rfl rfl dL_law_695 ?_
                                              refine fx_aload_n (pc := 696) (t := 60) F 0 rfl rfl dL_law_696 ?_
                                              refine fx_iload_n (pc := 697) F 3 rfl rfl dL_law_697 ?_
                                              refine fx_iconst (pc := 698) F ⟨by decide, by decide⟩ dL_law_698 ?_
                                              refine fx_iadd (pc := 699) F dL_law_699 ?_
                                              obtain ⟨v724, e725, eq444⟩ := fx_bnd eq444
                                              refine fx_rsld (pc := 700) F S e725 dL_law_700 ?_
                                              refine fx_aload_n (pc := 701) (t := 60) F 0 rfl rfl dL_law_701 ?_
                                              refine fx_iload_n (pc := 702) F 3 rfl rfl dL_law_702 ?_
                                              refine fx_iconst (pc := 703) F ⟨by decide, by decide⟩ dL_law_703 ?_
                                              refine fx_iadd (pc := 704) F dL_law_704 ?_
                                              obtain ⟨v726, e727, eq444⟩ := fx_bnd eq444
                                              refine fx_rsld (pc := 705) F S e727 dL_law_705 ?_
                                              obtain ⟨⟨v728, h729⟩, e730, eq444⟩ := fx_bnd eq444
                                              refine fx_cV (pc := 706) F 5 kC_X5 [(0, v724), (0, v726)] x_0 [] (m_X5_choir Fu Λ x_0 v724 v726 h443 _ _ e730) kD_X5_choir kI_X5_choir rfl wM_L_96 ⟨rfl, rfl⟩ ⟨by decide, by decide⟩ (Nat.le_of_ble_eq_true rfl) rfl dL_law_706 ?_
                                              refine fx_aload_n (pc := 709) (t := 6) F 2 rfl rfl dL_law_709 ?_
                                              refine fx_aload_n (pc := 710) (t := 60) F 0 rfl rfl dL_law_710 ?_
                                              refine fx_iload_n (pc := 711) F 3 rfl rfl dL_law_711 ?_
                                              refine fx_iconst (pc := 712) F ⟨by decide, by decide⟩ dL_law_712 ?_
                                              refine fx_iadd (pc := 713) F dL_law_713 ?_
                                              obtain ⟨v731, e732, eq444⟩ := fx_bnd eq444
                                              refine fx_rsld (pc := 714) F S e732 dL_law_714 ?_
                                              refine fx_aload_n (pc := 715) (t := 60) F 0 rfl rfl dL_law_715 ?_
                                              refine fx_iload_n (pc := 716) F 3 rfl rfl dL_law_716 ?_
                                              refine fx_iconst (pc := 717) F ⟨by decide, by decide⟩ dL_law_717 ?_
                                              refine fx_iadd (pc := 718) F dL_law_718 ?_
                                              obtain ⟨v733, e734, eq444⟩ := fx_bnd eq444
                                              refine fx_rsld (pc := 719) F S e734 dL_law_719 ?_
                                              obtain ⟨⟨v735, h736⟩, e737, eq444⟩ := fx_bnd eq444
                                              refine fx_cV (pc := 720) F 6 kC_X6 [(0, v731), (0, v733)] m_0 [(0, v728)] (m_X6_choir Fu Λ m_0 v731 v733 h729 _ _ e737) kD_X6_choir kI_X6_choir rfl wM_L_99 ⟨rfl, rfl⟩ ⟨by decide, by decide⟩ (Nat.le_of_ble_eq_true rfl) rfl dL_law_720 ?_
                                              refine fx_nne (pc := 723) F 990 (by decide) dL_law_723 (fun c738 => ?_) (fun c738 => ?_)
                                              · have eq444 := (if_pos c738).symm.trans eq444
                                                refine fx_iconst (pc := 726) F ⟨by decide, by decide⟩ dL_law_726 ?_
                                                cases eq444
                                                have q9 := ex _ rfl
                                                exact absurd (show some (0 : Int) = some 1 from q9) (by decide)
                                              · have eq444 := (if_neg c738).symm.trans eq444
                                                refine fx_iinc (pc := 990) (ls' := [some (62, 2), some (7, x_0), some (8, m_0), some (0, (fx_w (i_442 + 4)))]) F (by decide) rfl rfl rfl dL_law_990 ?_
                                                refine fx_goto (pc := 993) F 18 (by decide) dL_law_993 ?_
                                                cases eq444
                                                exact ih _ rfl
                                            exact fx_tswI (pc := 32) F 695 19 dL_law_32 c723 (by decide) rfl (by decide) hB739
                                          · have eq444 := (if_neg c723).symm.trans eq444
                                            by_cases c740 : (fx_iand v446 31) = 20
                                            · have eq444 := (if_pos c740).symm.trans eq444
                                              have hB756 : fx_J M G Λ 4 728 [some (62, 2), some (7, x_0), some (8, m_0), some (0, i_442)] [] h443 := by
                                                refine fx_aload_n (pc := 728) (t := 5) F 1 rfl rfl dL_law_728 ?_
                                                refine fx_aload_n (pc := 729) (t := 60) F 0 rfl rfl dL_law_729 ?_
                                                refine fx_iload_n (pc := 730) F 3 rfl rfl dL_law_730 ?_
                                                refine fx_iconst (pc := 731) F ⟨by decide, by decide⟩ dL_law_731 ?_
                                                refine fx_iadd (pc := 732) F dL_law_732 ?_
                                                obtain ⟨v741, e742, eq444⟩ := fx_bnd eq444
                                                refine fx_rsld (pc := 733) F S e742 dL_law_733 ?_
                                                refine fx_aload_n (pc := 734) (t := 60) F 0 rfl rfl dL_law_734 ?_
                                                refine fx_iload_n (pc := 735) F 3 rfl rfl dL_law_735 ?_
                                                refine fx_iconst (pc := 736) F ⟨by decide, by decide⟩ dL_law_736 ?_
                                                refine fx_iadd (pc := 737) F dL_law_737 ?_
                                                obtain ⟨v743, e744, eq444⟩ := fx_bnd eq444
                                                refine fx_rsld (pc := 738) F S e744 dL_law_738 ?_
                                                obtain ⟨⟨v745, h746⟩, e747, eq444⟩ := fx_bnd eq444
                                                refine fx_cV (pc := 739) F 5 kC_X5 [(0, v741), (0, v743)] x_0 [] (m_X5_told Fu Λ x_0 v741 v743 h443 _ _ e747) kD_X5_told kI_X5_told rfl wM_L_100 ⟨rfl, rfl⟩ ⟨by decide, by decide⟩ (Nat.le_of_ble_eq_true rfl) rfl dL_law_739 ?_
                                                refine fx_aload_n (pc := 742) (t := 6) F 2 rfl rfl dL_law_742 ?_
                                                refine fx_aload_n (pc := 743) (t := 60) F 0 rfl rfl dL_law_743 ?_
                                                refine fx_iload_n (pc := 744) F 3 rfl rfl dL_law_744 ?_
                                                refine fx_iconst (pc := 745) F ⟨by decide, by decide⟩ dL_law_745 ?_
                                                refine fx_iadd (pc := 746) F dL_law_746 ?_
                                                obtain ⟨v748, e749, eq444⟩ := fx_bnd eq444
                                                refine fx_rsld (pc := 747) F S e749 dL_law_747 ?_
                                                refine fx_aload_n (pc := 748) (t := 60) F 0 rfl rfl dL_law_748 ?_
                                                refine fx_iload_n (pc := 749) F 3 rfl rfl dL_law_749 ?_
                                                refine fx_iconst (pc := 750) F ⟨by decide, by decide⟩ dL_law_750 ?_
                                                refine fx_iadd (pc := 751) F dL_law_751 ?_
                                                obtain ⟨v750, e751, eq444⟩ := fx_bnd eq444
                                                refine fx_rsld (pc := 752) F S e751 dL_law_752 ?_
                                                obtain ⟨⟨v752, h753⟩, e754, eq444⟩ := fx_bnd eq444
                                                refine fx_cV (pc := 753) F 6 kC_X6 [(0, v748), (0, v750)] m_0 [(0, v745)] (m_X6_told Fu Λ m_0 v748 v750 h746 _ _ e754) kD_X6_told kI_X6_told rfl wM_L_103 ⟨rfl, rfl⟩ ⟨by decide, by decide⟩ (Nat.le_of_ble_eq_true rfl) rfl dL_law_753 ?_
                                                refine fx_nne (pc := 756) F 990 (by decide) dL_law_756 (fun c755 => ?_) (fun c755 => ?_)
                                                · have eq444 := (if_pos c755).symm.trans eq444
                                                  refine fx_iconst (pc := 759) F ⟨by decide, by decide⟩ dL_law_759 ?_
                                                  cases eq444
                                                  have q9 := ex _ rfl
                                                  exact absurd (show some (0 : Int) = some 1 from q9) (by decide)
                                                · have eq444 := (if_neg c755).symm.trans eq444
                                                  refine fx_iinc (pc := 990) (ls' := [some (62, 2), some (7, x_0), some (8, m_0), some (0, (fx_w (i_442 + 4)))]) F (by decide) rfl rfl rfl dL_law_990 ?_
                                                  refine fx_goto (pc := 993) F 18 (by decide) dL_law_993 ?_
                                                  cases eq444
                                                  exact ih _ rfl
                                              exact fx_tswI (pc := 32) F 728 20 dL_law_32 c740 (by decide) rfl (by decide) hB756
                                            · have eq444 := (if_neg c740).symm.trans eq444
                                              by_cases c757 : (fx_iand v446 31) = 21
                                              · have eq444 := (if_pos c757).symm.trans eq444
                                                have hB773 : fx_J M G Λ 4 761 [some (62, 2), some (7, x_0), some (8, m_0), some (0, i_442)] [] h443 := by
                                                  refine fx_aload_n (pc := 761) (t := 5) F 1 rfl rfl dL_law_761 ?_
                                                  refine fx_aload_n (pc := 762) (t := 60) F 0 rfl rfl dL_law_762 ?_
                                                  refine fx_iload_n (pc := 763) F 3 rfl rfl dL_law_763 ?_
                                                  refine fx_iconst (pc := 764) F ⟨by decide, by decide⟩ dL_law_764 ?_
                                                  refine fx_iadd (pc := 765) F dL_law_765 ?_
                                                  obtain ⟨v758, e759, eq444⟩ := fx_bnd eq444
                                                  refine fx_rsld (pc := 766) F S e759 dL_law_766 ?_
                                                  refine fx_aload_n (pc := 767) (t := 60) F 0 rfl rfl dL_law_767 ?_
                                                  refine fx_iload_n (pc := 768) F 3 rfl rfl dL_law_768 ?_
                                                  refine fx_iconst (pc := 769) F ⟨by decide, by decide⟩ dL_law_769 ?_
                                                  refine fx_iadd (pc := 770) F dL_law_770 ?_
                                                  obtain ⟨v760, e761, eq444⟩ := fx_bnd eq444
                                                  refine fx_rsld (pc := 771) F S e761 dL_law_771 ?_
                                                  obtain ⟨⟨v762, h763⟩, e764, eq444⟩ := fx_bnd eq444
                                                  refine fx_cV (pc := 772) F 5 kC_X5 [(0, v758), (0, v760)] x_0 [] (m_X5_did Fu Λ x_0 v758 v760 h443 _ _ e764) kD_X5_did kI_X5_did rfl wM_L_104 ⟨rfl, rfl⟩ ⟨by decide, by decide⟩ (Nat.le_of_ble_eq_true rfl) rfl dL_law_772 ?_
                                                  refine fx_aload_n (pc := 775) (t := 6) F 2 rfl rfl dL_law_775 ?_
                                                  refine fx_aload_n (pc := 776) (t := 60) F 0 rfl rfl dL_law_776 ?_
                                                  refine fx_iload_n (pc := 777) F 3 rfl rfl dL_law_777 ?_
                                                  refine fx_iconst (pc := 778) F ⟨by decide, by decide⟩ dL_law_778 ?_
                                                  refine fx_iadd (pc := 779) F dL_law_779 ?_
                                                  obtain ⟨v765, e766, eq444⟩ := fx_bnd eq444
                                                  refine fx_rsld (pc := 780) F S e766 dL_law_780 ?_
                                                  refine fx_aload_n (pc := 781) (t := 60) F 0 rfl rfl dL_law_781 ?_
                                                  refine fx_iload_n (pc := 782) F 3 rfl rfl dL_law_782 ?_
                                                  refine fx_iconst (pc := 783) F ⟨by decide, by decide⟩ dL_law_783 ?_
                                                  refine fx_iadd (pc := 784) F dL_law_784 ?_
                                                  obtain ⟨v767, e768, eq444⟩ := fx_bnd eq444
                                                  refine fx_rsld (pc := 785) F S e768 dL_law_785 ?_
                                                  obtain ⟨⟨v769, h770⟩, e771, eq444⟩ := fx_bnd eq444
                                                  refine fx_cV (pc := 786) F 6 kC_X6 [(0, v765), (0, v767)] m_0 [(0, v762)] (m_X6_did Fu Λ m_0 v765 v767 h763 _ _ e771) kD_X6_did kI_X6_did rfl wM_L_107 ⟨rfl, rfl⟩ ⟨by decide, by decide⟩ (Nat.le_of_ble_eq_true rfl) rfl dL_law_786 ?_
                                                  refine fx_nne (pc := 789) F 990 (by decide) dL_law_789 (fun c772 => ?_) (fun c772 => ?_)
                                                  · have eq444 := (if_pos c772).symm.trans eq444
                                                    refine fx_iconst (pc := 792) F ⟨by decide, by decide⟩ dL_law_792 ?_
                                                    cases eq444
                                                    have q9 := ex _ rfl
                                                    exact absurd (show some (0 : Int) = some 1 from q9) (by decide)
                                                  · have eq444 := (if_neg c772).symm.trans eq444
                                                    refine fx_iinc (pc := 990) (ls' := [some (62, 2), some (7, x_0), some (8, m_0), some (0, (fx_w (i_442 + 4)))]) F (by decide) rfl rfl rfl dL_law_990 ?_
                                                    refine fx_goto (pc := 993) F 18 (by decide) dL_law_993 ?_
                                                    cases eq444
                                                    exact ih _ rfl
                                                exact fx_tswI (pc := 32) F 761 21 dL_law_32 c757 (by decide) rfl (by decide) hB773
                                              · have eq444 := (if_neg c757).symm.trans eq444
                                                by_cases c774 : (fx_iand v446 31) = 22
                                                · have eq444 := (if_pos c774).symm.trans eq444
                                                  have hB786 : fx_J M G Λ 4 794 [some (62, 2), some (7, x_0), some (8, m_0), some (0, i_442)] [] h443 := by
                                                    refine fx_aload_n (pc := 794) (t := 5) F 1 rfl rfl dL_law_794 ?_
                                                    refine fx_aload_n (pc := 795) (t := 60) F 0 rfl rfl dL_law_795 ?_
                                                    refine fx_iload_n (pc := 796) F 3 rfl rfl dL_law_796 ?_
                                                    refine fx_iconst (pc := 797) F ⟨by decide, by decide⟩ dL_law_797 ?_
                                                    refine fx_iadd (pc := 798) F dL_law_798 ?_
                                                    obtain ⟨v775, e776, eq444⟩ := fx_bnd eq444
                                                    refine fx_rsld (pc := 799) F S e776 dL_law_799 ?_
                                                    obtain ⟨⟨v777, h778⟩, e779, eq444⟩ := fx_bnd eq444
                                                    refine fx_cV (pc := 800) F 5 kC_X5 [(0, v775)] x_0 [] (m_X5_copied Fu Λ x_0 v775 h443 _ _ e779) kD_X5_copied kI_X5_copied rfl wM_L_108 ⟨rfl, rfl⟩ ⟨by decide, by decide⟩ (Nat.le_of_ble_eq_true rfl) rfl dL_law_800 ?_
                                                    refine fx_aload_n (pc := 803) (t := 6) F 2 rfl rfl dL_law_803 ?_
                                                    refine fx_aload_n (pc := 804) (t := 60) F 0 rfl rfl dL_law_804 ?_
                                                    refine fx_iload_n (pc := 805) F 3 rfl rfl dL_law_805 ?_
                                                    refine fx_iconst (pc := 806) F ⟨by decide, by decide⟩ dL_law_806 ?_
                                                    refine fx_iadd (pc := 807) F dL_law_807 ?_
                                                    obtain ⟨v780, e781, eq444⟩ := fx_bnd eq444
                                                    refine fx_rsld (pc := 808) F S e781 dL_law_808 ?_
                                                    obtain ⟨⟨v782, h783⟩, e784, eq444⟩ := fx_bnd eq444
                                                    refine fx_cV (pc := 809) F 6 kC_X6 [(0, v780)] m_0 [(0, v777)] (m_X6_copied Fu Λ m_0 v780 h778 _ _ e784) kD_X6_copied kI_X6_copied rfl wM_L_111 ⟨rfl, rfl⟩ ⟨by decide, by decide⟩ (Nat.le_of_ble_eq_true rfl) rfl dL_law_809 ?_
                                                    refine fx_nne (pc := 812) F 990 (by decide) dL_law_812 (fun c785 => ?_) (fun c785 => ?_)
                                                    · have eq444 := (if_pos c785).symm.trans eq444
                                                      refine fx_iconst (pc := 815) F ⟨by decide, by decide⟩ dL_law_815 ?_
                                                      cases eq444
                                                      have q9 := ex _ rfl
                                                      exact absurd (show some (0 : Int) = some 1 from q9) (by decide)
                                                    · have eq444 := (if_neg c785).symm.trans eq444
                                                      refine fx_iinc (pc := 990) (ls' := [some (62, 2), some (7, x_0), some (8, m_0), some (0, (fx_w (i_442 + 4)))]) F (by decide) rfl rfl rfl dL_law_990 ?_
                                                      refine fx_goto (pc := 993) F 18 (by decide) dL_law_993 ?_
                                                      cases eq444
                                                      exact ih _ rfl
                                                  exact fx_tswI (pc := 32) F 794 22 dL_law_32 c774 (by decide) rfl (by decide) hB786
                                                · have eq444 := (if_neg c774).symm.trans eq444
                                                  by_cases c787 : (fx_iand v446 31) = 23
                                                  · have eq444 := (if_pos c787).symm.trans eq444
                                                    have hB807 : fx_J M G Λ 4 817 [some (62, 2), some (7, x_0), some (8, m_0), some (0, i_442)] [] h443 := by
                                                      refine fx_aload_n (pc := 817) (t := 5) F 1 rfl rfl dL_law_817 ?_
                                                      refine fx_aload_n (pc := 818) (t := 60) F 0 rfl rfl dL_law_818 ?_
                                                      refine fx_iload_n (pc := 819) F 3 rfl rfl dL_law_819 ?_
                                                      refine fx_iconst (pc := 820) F ⟨by decide, by decide⟩ dL_law_820 ?_
                                                      refine fx_iadd (pc := 821) F dL_law_821 ?_
                                                      obtain ⟨v788, e789, eq444⟩ := fx_bnd eq444
                                                      refine fx_rsld (pc := 822) F S e789 dL_law_822 ?_
                                                      refine fx_aload_n (pc := 823) (t := 60) F 0 rfl rfl dL_law_823 ?_
                                                      refine fx_iload_n (pc := 824) F 3 rfl rfl dL_law_824 ?_
                                                      refine fx_iconst (pc := 825) F ⟨by decide, by decide⟩ dL_law_825 ?_
                                                      refine fx_iadd (pc := 826) F dL_law_826 ?_
                                                      obtain ⟨v790, e791, eq444⟩ := fx_bnd eq444
                                                      refine fx_rsld (pc := 827) F S e791 dL_law_827 ?_
                                                      refine fx_aload_n (pc := 828) (t := 60) F 0 rfl rfl dL_law_828 ?_
                                                      refine fx_iload_n (pc := 829) F 3 rfl rfl dL_law_829 ?_
                                                      refine fx_iconst (pc := 830) F ⟨by decide, by decide⟩ dL_law_830 ?_
                                                      refine fx_iadd (pc := 831) F dL_law_831 ?_
                                                      obtain ⟨v792, e793, eq444⟩ := fx_bnd eq444
                                                      refine fx_rsld (pc := 832) F S e793 dL_law_832 ?_
                                                      obtain ⟨⟨v794, h795⟩, e796, eq444⟩ := fx_bnd eq444
                                                      refine fx_cV (pc := 833) F 5 kC_X5 [(0, v788), (0, v790), (0, v792)] x_0 [] (m_X5_crowd Fu Λ x_0 v788 v790 v792 h443 _ _ e796) kD_X5_crowd kI_X5_crowd rfl wM_L_112 ⟨rfl, rfl⟩ ⟨by decide, by decide⟩ (Nat.le_of_ble_eq_true rfl) rfl dL_law_833 ?_
                                                      refine fx_aload_n (pc := 836) (t := 6) F 2 rfl rfl dL_law_836 ?_
                                                      refine fx_aload_n (pc := 837) (t := 60) F 0 rfl rfl dL_law_837 ?_
                                                      refine fx_iload_n (pc := 838) F 3 rfl rfl dL_law_838 ?_
                                                      refine fx_iconst (pc := 839) F ⟨by decide, by decide⟩ dL_law_839 ?_
                                                      refine fx_iadd (pc := 840) F dL_law_840 ?_
                                                      obtain ⟨v797, e798, eq444⟩ := fx_bnd eq444
                                                      refine fx_rsld (pc := 841) F S e798 dL_law_841 ?_
                                                      refine fx_aload_n (pc := 842) (t := 60) F 0 rfl rfl dL_law_842 ?_
                                                      refine fx_iload_n (pc := 843) F 3 rfl rfl dL_law_843 ?_
                                                      refine fx_iconst (pc := 844) F ⟨by decide, by decide⟩ dL_law_844 ?_
                                                      refine fx_iadd (pc := 845) F dL_law_845 ?_
                                                      obtain ⟨v799, e800, eq444⟩ := fx_bnd eq444
                                                      refine fx_rsld (pc := 846) F S e800 dL_law_846 ?_
                                                      refine fx_aload_n (pc := 847) (t := 60) F 0 rfl rfl dL_law_847 ?_
                                                      refine fx_iload_n (pc := 848) F 3 rfl rfl dL_law_848 ?_
                                                      refine fx_iconst (pc := 849) F ⟨by decide, by decide⟩ dL_law_849 ?_
                                                      refine fx_iadd (pc := 850) F dL_law_850 ?_
                                                      obtain ⟨v801, e802, eq444⟩ := fx_bnd eq444
                                                      refine fx_rsld (pc := 851) F S e802 dL_law_851 ?_
                                                      obtain ⟨⟨v803, h804⟩, e805, eq444⟩ := fx_bnd eq444
                                                      refine fx_cV (pc := 852) F 6 kC_X6 [(0, v797), (0, v799), (0, v801)] m_0 [(0, v794)] (m_X6_crowd Fu Λ m_0 v797 v799 v801 h795 _ _ e805) kD_X6_crowd kI_X6_crowd rfl wM_L_115 ⟨rfl, rfl⟩ ⟨by decide, by decide⟩ (Nat.le_of_ble_eq_true rfl) rfl dL_law_852 ?_
                                                      refine fx_nne (pc := 855) F 990 (by decide) dL_law_855 (fun c806 => ?_) (fun c806 => ?_)
                                                      · have eq444 := (if_pos c806).symm.trans eq444
                                                        refine fx_iconst (pc := 858) F ⟨by decide, by decide⟩ dL_law_858 ?_
                                                        cases eq444
                                                        have q9 := ex _ rfl
                                                        exact absurd (show some (0 : Int) = some 1 from q9) (by decide)
                                                      · have eq444 := (if_neg c806).symm.trans eq444
                                                        refine fx_iinc (pc := 990) (ls' := [some (62, 2), some (7, x_0), some (8, m_0), some (0, (fx_w (i_442 + 4)))]) F (by decide) rfl rfl rfl dL_law_990 ?_
                                                        refine fx_goto (pc := 993) F 18 (by decide) dL_law_993 ?_
                                                        cases eq444
                                                        exact ih _ rfl
                                                    exact fx_tswI (pc := 32) F 817 23 dL_law_32 c787 (by decide) rfl (by decide) hB807
                                                  · have eq444 := (if_neg c787).symm.trans eq444
                                                    by_cases c808 : (fx_iand v446 31) = 24
                                                    · have eq444 := (if_pos c808).symm.trans eq444
                                                      have hB820 : fx_J M G Λ 4 860 [some (62, 2), some (7, x_0), some (8, m_0), some (0, i_442)] [] h443 := by
                                                        refine fx_aload_n (pc := 860) (t := 5) F 1 rfl rfl dL_law_860 ?_
                                                        refine fx_aload_n (pc := 861) (t := 60) F 0 rfl rfl dL_law_861 ?_
                                                        refine fx_iload_n (pc := 862) F 3 rfl rfl dL_law_862 ?_
                                                        refine fx_iconst (pc := 863) F ⟨by decide, by decide⟩ dL_law_863 ?_
                                                        refine fx_iadd (pc := 864) F dL_law_864 ?_
                                                        obtain ⟨v809, e810, eq444⟩ := fx_bnd eq444
                                                        refine fx_rsld (pc := 865) F S e810 dL_law_865 ?_
                                                        obtain ⟨⟨v811, h812⟩, e813, eq444⟩ := fx_bnd eq444
                                                        refine fx_cV (pc := 866) F 5 kC_X5 [(0, v809)] x_0 [] (m_X5_part Fu Λ x_0 v809 h443 _ _ e813) kD_X5_part kI_X5_part rfl wM_L_116 ⟨rfl, rfl⟩ ⟨by decide, by decide⟩ (Nat.le_of_ble_eq_true rfl) rfl dL_law_866 ?_
                                                        refine fx_aload_n (pc := 869) (t := 6) F 2 rfl rfl dL_law_869 ?_
                                                        refine fx_aload_n (pc := 870) (t := 60) F 0 rfl rfl dL_law_870 ?_
                                                        refine fx_iload_n (pc := 871) F 3 rfl rfl dL_law_871 ?_
                                                        refine fx_iconst (pc := 872) F ⟨by decide, by decide⟩ dL_law_872 ?_
                                                        refine fx_iadd (pc := 873) F dL_law_873 ?_
                                                        obtain ⟨v814, e815, eq444⟩ := fx_bnd eq444
                                                        refine fx_rsld (pc := 874) F S e815 dL_law_874 ?_
                                                        obtain ⟨⟨v816, h817⟩, e818, eq444⟩ := fx_bnd eq444
                                                        refine fx_cV (pc := 875) F 6 kC_X6 [(0, v814)] m_0 [(1, v811)] (m_X6_part Fu Λ m_0 v814 h812 _ _ e818) kD_X6_part kI_X6_part rfl wM_L_120 ⟨rfl, rfl⟩ ⟨by decide, by decide⟩ (Nat.le_of_ble_eq_true rfl) rfl dL_law_875 ?_
                                                        refine fx_nlne (pc := 878) F 990 (by decide) dL_law_878 dL_law_879 (fun c819 => ?_) (fun c819 => ?_)
                                                        · have eq444 := (if_pos c819).symm.trans eq444
                                                          refine fx_iconst (pc := 882) F ⟨by decide, by decide⟩ dL_law_882 ?_
                                                          cases eq444
                                                          have q9 := ex _ rfl
                                                          exact absurd (show some (0 : Int) = some 1 from q9) (by decide)
                                                        · have eq444 := (if_neg c819).symm.trans eq444
                                                          refine fx_iinc (pc := 990) (ls' := [some (62, 2), some (7, x_0), some (8, m_0), some (0, (fx_w (i_442 + 4)))]) F (by decide) rfl rfl rfl dL_law_990 ?_
                                                          refine fx_goto (pc := 993) F 18 (by decide) dL_law_993 ?_
                                                          cases eq444
                                                          exact ih _ rfl
                                                      exact fx_tswI (pc := 32) F 860 24 dL_law_32 c808 (by decide) rfl (by decide) hB820
                                                    · have eq444 := (if_neg c808).symm.trans eq444
                                                      by_cases c821 : (fx_iand v446 31) = 25
                                                      · have eq444 := (if_pos c821).symm.trans eq444
                                                        have hB833 : fx_J M G Λ 4 884 [some (62, 2), some (7, x_0), some (8, m_0), some (0, i_442)] [] h443 := by
                                                          refine fx_aload_n (pc := 884) (t := 5) F 1 rfl rfl dL_law_884 ?_
                                                          refine fx_aload_n (pc := 885) (t := 60) F 0 rfl rfl dL_law_885 ?_
                                                          refine fx_iload_n (pc := 886) F 3 rfl rfl dL_law_886 ?_
                                                          refine fx_iconst (pc := 887) F ⟨by decide, by decide⟩ dL_law_887 ?_
                                                          refine fx_iadd (pc := 888) F dL_law_888 ?_
                                                          obtain ⟨v822, e823, eq444⟩ := fx_bnd eq444
                                                          refine fx_rsld (pc := 889) F S e823 dL_law_889 ?_
                                                          obtain ⟨⟨v824, h825⟩, e826, eq444⟩ := fx_bnd eq444
                                                          refine fx_cV (pc := 890) F 5 kC_X5 [(0, v822)] x_0 [] (m_X5_image Fu Λ x_0 v822 h443 _ _ e826) kD_X5_image kI_X5_image rfl wM_L_121 ⟨rfl, rfl⟩ ⟨by decide, by decide⟩ (Nat.le_of_ble_eq_true rfl) rfl dL_law_890 ?_
                                                          refine fx_aload_n (pc := 893) (t := 6) F 2 rfl rfl dL_law_893 ?_
                                                          refine fx_aload_n (pc := 894) (t := 60) F 0 rfl rfl dL_law_894 ?_
                                                          refine fx_iload_n (pc := 895) F 3 rfl rfl dL_law_895 ?_
                                                          refine fx_iconst (pc := 896) F ⟨by decide, by decide⟩ dL_law_896 ?_
                                                          refine fx_iadd (pc := 897) F dL_law_897 ?_
                                                          obtain ⟨v827, e828, eq444⟩ := fx_bnd eq444
                                                          refine fx_rsld (pc := 898) F S e828 dL_law_898 ?_
                                                          obtain ⟨⟨v829, h830⟩, e831, eq444⟩ := fx_bnd eq444
                                                          refine fx_cV (pc := 899) F 6 kC_X6 [(0, v827)] m_0 [(0, v824)] (m_X6_image Fu Λ m_0 v827 h825 _ _ e831) kD_X6_image kI_X6_image rfl wM_L_124 ⟨rfl, rfl⟩ ⟨by decide, by decide⟩ (Nat.le_of_ble_eq_true rfl) rfl dL_law_899 ?_
                                                          refine fx_nne (pc := 902) F 990 (by decide) dL_law_902 (fun c832 => ?_) (fun c832 => ?_)
                                                          · have eq444 := (if_pos c832).symm.trans eq444
                                                            refine fx_iconst (pc := 905) F ⟨by decide, by decide⟩ dL_law_905 ?_
                                                            cases eq444
                                                            have q9 := ex _ rfl
                                                            exact absurd (show some (0 : Int) = some 1 from q9) (by decide)
                                                          · have eq444 := (if_neg c832).symm.trans eq444
                                                            refine fx_iinc (pc := 990) (ls' := [some (62, 2), some (7, x_0), some (8, m_0), some (0, (fx_w (i_442 + 4)))]) F (by decide) rfl rfl rfl dL_law_990 ?_
                                                            refine fx_goto (pc := 993) F 18 (by decide) dL_law_993 ?_
                                                            cases eq444
                                                            exact ih _ rfl
                                                        exact fx_tswI (pc := 32) F 884 25 dL_law_32 c821 (by decide) rfl (by decide) hB833
                                                      · have eq444 := (if_neg c821).symm.trans eq444
                                                        by_cases c834 : (fx_iand v446 31) = 26
                                                        · have eq444 := (if_pos c834).symm.trans eq444
                                                          have hB846 : fx_J M G Λ 4 907 [some (62, 2), some (7, x_0), some (8, m_0), some (0, i_442)] [] h443 := by
                                                            refine fx_aload_n (pc := 907) (t := 5) F 1 rfl rfl dL_law_907 ?_
                                                            refine fx_aload_n (pc := 908) (t := 60) F 0 rfl rfl dL_law_908 ?_
                                                            refine fx_iload_n (pc := 909) F 3 rfl rfl dL_law_909 ?_
                                                            refine fx_iconst (pc := 910) F ⟨by decide, by decide⟩ dL_law_910 ?_
                                                            refine fx_iadd (pc := 911) F dL_law_911 ?_
                                                            obtain ⟨v835, e836, eq444⟩ := fx_bnd eq444
                                                            refine fx_rsld (pc := 912) F S e836 dL_law_912 ?_
                                                            obtain ⟨⟨v837, h838⟩, e839, eq444⟩ := fx_bnd eq444
                                                            refine fx_cV (pc := 913) F 5 kC_X5 [(0, v835)] x_0 [] (m_X5_from Fu Λ x_0 v835 h443 _ _ e839) kD_X5_from kI_X5_from rfl wM_L_125 ⟨rfl, rfl⟩ ⟨by decide, by decide⟩ (Nat.le_of_ble_eq_true rfl) rfl dL_law_913 ?_
                                                            refine fx_aload_n (pc := 916) (t := 6) F 2 rfl rfl dL_law_916 ?_
                                                            refine fx_aload_n (pc := 917) (t := 60) F 0 rfl rfl dL_law_917 ?_
                                                            refine fx_iload_n (pc := 918) F 3 rfl rfl dL_law_918 ?_
                                                            refine fx_iconst (pc := 919) F ⟨by decide, by decide⟩ dL_law_919 ?_
                                                            refine fx_iadd (pc := 920) F dL_law_920 ?_
                                                            obtain ⟨v840, e841, eq444⟩ := fx_bnd eq444
                                                            refine fx_rsld (pc := 921) F S e841 dL_law_921 ?_
                                                            obtain ⟨⟨v842, h843⟩, e844, eq444⟩ := fx_bnd eq444
                                                            refine fx_cV (pc := 922) F 6 kC_X6 [(0, v840)] m_0 [(0, v837)] (m_X6_from Fu Λ m_0 v840 h838 _ _ e844) kD_X6_from kI_X6_from rfl wM_L_128 ⟨rfl, rfl⟩ ⟨by decide, by decide⟩ (Nat.le_of_ble_eq_true rfl) rfl dL_law_922 ?_
                                                            refine fx_nne (pc := 925) F 990 (by decide) dL_law_925 (fun c845 => ?_) (fun c845 => ?_)
                                                            · have eq444 := (if_pos c845).symm.trans eq444
                                                              refine fx_iconst (pc := 928) F ⟨by decide, by decide⟩ dL_law_928 ?_
                                                              cases eq444
                                                              have q9 := ex _ rfl
                                                              exact absurd (show some (0 : Int) = some 1 from q9) (by decide)
                                                            · have eq444 := (if_neg c845).symm.trans eq444
                                                              refine fx_iinc (pc := 990) (ls' := [some (62, 2), some (7, x_0), some (8, m_0), some (0, (fx_w (i_442 + 4)))]) F (by decide) rfl rfl rfl dL_law_990 ?_
                                                              refine fx_goto (pc := 993) F 18 (by decide) dL_law_993 ?_
                                                              cases eq444
                                                              exact ih _ rfl
                                                          exact fx_tswI (pc := 32) F 907 26 dL_law_32 c834 (by decide) rfl (by decide) hB846
                                                        · have eq444 := (if_neg c834).symm.trans eq444
                                                          by_cases c847 : (fx_iand v446 31) = 27
                                                          · have eq444 := (if_pos c847).symm.trans eq444
                                                            have hB859 : fx_J M G Λ 4 930 [some (62, 2), some (7, x_0), some (8, m_0), some (0, i_442)] [] h443 := by
                                                              refine fx_aload_n (pc := 930) (t := 5) F 1 rfl rfl dL_law_930 ?_
                                                              refine fx_aload_n (pc := 931) (t := 60) F 0 rfl rfl dL_law_931 ?_
                                                              refine fx_iload_n (pc := 932) F 3 rfl rfl dL_law_932 ?_
                                                              refine fx_iconst (pc := 933) F ⟨by decide, by decide⟩ dL_law_933 ?_
                                                              refine fx_iadd (pc := 934) F dL_law_934 ?_
                                                              obtain ⟨v848, e849, eq444⟩ := fx_bnd eq444
                                                              refine fx_rsld (pc := 935) F S e849 dL_law_935 ?_
                                                              obtain ⟨⟨v850, h851⟩, e852, eq444⟩ := fx_bnd eq444
                                                              refine fx_cV (pc := 936) F 5 kC_X5 [(0, v848)] x_0 [] (m_X5_status Fu Λ x_0 v848 h443 _ _ e852) kD_X5_status kI_X5_status rfl wM_L_129 ⟨rfl, rfl⟩ ⟨by decide, by decide⟩ (Nat.le_of_ble_eq_true rfl) rfl dL_law_936 ?_
                                                              refine fx_aload_n (pc := 939) (t := 6) F 2 rfl rfl dL_law_939 ?_
                                                              refine fx_aload_n (pc := 940) (t := 60) F 0 rfl rfl dL_law_940 ?_
                                                              refine fx_iload_n (pc := 941) F 3 rfl rfl dL_law_941 ?_
                                                              refine fx_iconst (pc := 942) F ⟨by decide, by decide⟩ dL_law_942 ?_
                                                              refine fx_iadd (pc := 943) F dL_law_943 ?_
                                                              obtain ⟨v853, e854, eq444⟩ := fx_bnd eq444
                                                              refine fx_rsld (pc := 944) F S e854 dL_law_944 ?_
                                                              obtain ⟨⟨v855, h856⟩, e857, eq444⟩ := fx_bnd eq444
                                                              refine fx_cV (pc := 945) F 6 kC_X6 [(0, v853)] m_0 [(0, v850)] (m_X6_status Fu Λ m_0 v853 h851 _ _ e857) kD_X6_status kI_X6_status rfl wM_L_132 ⟨rfl, rfl⟩ ⟨by decide, by decide⟩ (Nat.le_of_ble_eq_true rfl) rfl dL_law_945 ?_
                                                              refine fx_nne (pc := 948) F 990 (by decide) dL_law_948 (fun c858 => ?_) (fun c858 => ?_)
                                                              · have eq444 := (if_pos c858).symm.trans eq444
                                                                refine fx_iconst (pc := 951) F ⟨by decide, by decide⟩ dL_law_951 ?_
                                                                cases eq444
                                                                have q9 := ex _ rfl
                                                                exact absurd (show some (0 : Int) = some 1 from q9) (by decide)
                                                              · have eq444 := (if_neg c858).symm.trans eq444
                                                                refine fx_iinc (pc := 990) (ls' := [some (62, 2), some (7, x_0), some (8, m_0), some (0, (fx_w (i_442 + 4)))]) F (by decide) rfl rfl rfl dL_law_990 ?_
                                                                refine fx_goto (pc := 993) F 18 (by decide) dL_law_993 ?_
                                                                cases eq444
                                                                exact ih _ rfl
                                                            exact fx_tswI (pc := 32) F 930 27 dL_law_32 c847 (by decide) rfl (by decide) hB859
                                                          · have eq444 := (if_neg c847).symm.trans eq444
                                                            by_cases c860 : (fx_iand v446 31) = 28
                                                            · have eq444 := (if_pos c860).symm.trans eq444
                                                              have hB872 : fx_J M G Λ 4 953 [some (62, 2), some (7, x_0), some (8, m_0), some (0, i_442)] [] h443 := by
                                                                refine fx_aload_n (pc := 953) (t := 5) F 1 rfl rfl dL_law_953 ?_
                                                                refine fx_aload_n (pc := 954) (t := 60) F 0 rfl rfl dL_law_954 ?_
                                                                refine fx_iload_n (pc := 955) F 3 rfl rfl dL_law_955 ?_
                                                                refine fx_iconst (pc := 956) F ⟨by decide, by decide⟩ dL_law_956 ?_
                                                                refine fx_iadd (pc := 957) F dL_law_957 ?_
                                                                obtain ⟨v861, e862, eq444⟩ := fx_bnd eq444
                                                                refine fx_rsld (pc := 958) F S e862 dL_law_958 ?_
                                                                obtain ⟨⟨v863, h864⟩, e865, eq444⟩ := fx_bnd eq444
                                                                refine fx_cV (pc := 959) F 5 kC_X5 [(0, v861)] x_0 [] (m_X5_count Fu Λ x_0 v861 h443 _ _ e865) kD_X5_count kI_X5_count rfl wM_L_133 ⟨rfl, rfl⟩ ⟨by decide, by decide⟩ (Nat.le_of_ble_eq_true rfl) rfl dL_law_959 ?_
                                                                refine fx_aload_n (pc := 962) (t := 6) F 2 rfl rfl dL_law_962 ?_
                                                                refine fx_aload_n (pc := 963) (t := 60) F 0 rfl rfl dL_law_963 ?_
                                                                refine fx_iload_n (pc := 964) F 3 rfl rfl dL_law_964 ?_
                                                                refine fx_iconst (pc := 965) F ⟨by decide, by decide⟩ dL_law_965 ?_
                                                                refine fx_iadd (pc := 966) F dL_law_966 ?_
                                                                obtain ⟨v866, e867, eq444⟩ := fx_bnd eq444
                                                                refine fx_rsld (pc := 967) F S e867 dL_law_967 ?_
                                                                obtain ⟨⟨v868, h869⟩, e870, eq444⟩ := fx_bnd eq444
                                                                refine fx_cV (pc := 968) F 6 kC_X6 [(0, v866)] m_0 [(0, v863)] (m_X6_count Fu Λ m_0 v866 h864 _ _ e870) kD_X6_count kI_X6_count rfl wM_L_136 ⟨rfl, rfl⟩ ⟨by decide, by decide⟩ (Nat.le_of_ble_eq_true rfl) rfl dL_law_968 ?_
                                                                refine fx_nne (pc := 971) F 990 (by decide) dL_law_971 (fun c871 => ?_) (fun c871 => ?_)
                                                                · have eq444 := (if_pos c871).symm.trans eq444
                                                                  refine fx_iconst (pc := 974) F ⟨by decide, by decide⟩ dL_law_974 ?_
                                                                  cases eq444
                                                                  have q9 := ex _ rfl
                                                                  exact absurd (show some (0 : Int) = some 1 from q9) (by decide)
                                                                · have eq444 := (if_neg c871).symm.trans eq444
                                                                  refine fx_iinc (pc := 990) (ls' := [some (62, 2), some (7, x_0), some (8, m_0), some (0, (fx_w (i_442 + 4)))]) F (by decide) rfl rfl rfl dL_law_990 ?_
                                                                  refine fx_goto (pc := 993) F 18 (by decide) dL_law_993 ?_
                                                                  cases eq444
                                                                  exact ih _ rfl
                                                              exact fx_tswI (pc := 32) F 953 28 dL_law_32 c860 (by decide) rfl (by decide) hB872
                                                            · have eq444 := (if_neg c860).symm.trans eq444
                                                              by_cases c873 : (fx_iand v446 31) = 29
                                                              · have eq444 := (if_pos c873).symm.trans eq444
                                                                have hB879 : fx_J M G Λ 4 976 [some (62, 2), some (7, x_0), some (8, m_0), some (0, i_442)] [] h443 := by
                                                                  refine fx_aload_n (pc := 976) (t := 5) F 1 rfl rfl dL_law_976 ?_
                                                                  obtain ⟨v874, e875, eq444⟩ := fx_bnd eq444
                                                                  refine fx_cV (pc := 977) F 5 kC_X5 [] x_0 [] (m_X5_digest Fu Λ x_0 h443 _ e875) kD_X5_digest kI_X5_digest rfl wM_L_137 ⟨rfl, rfl⟩ ⟨by decide, by decide⟩ (Nat.le_of_ble_eq_true rfl) rfl dL_law_977 ?_
                                                                  refine fx_aload_n (pc := 980) (t := 6) F 2 rfl rfl dL_law_980 ?_
                                                                  obtain ⟨v876, e877, eq444⟩ := fx_bnd eq444
                                                                  refine fx_cV (pc := 981) F 6 kC_X6 [] m_0 [(1, v874)] (m_X6_digest Fu Λ m_0 h443 _ e877) kD_X6_digest kI_X6_digest rfl wM_L_141 ⟨rfl, rfl⟩ ⟨by decide, by decide⟩ (Nat.le_of_ble_eq_true rfl) rfl dL_law_981 ?_
                                                                  refine fx_nlne (pc := 984) F 990 (by decide) dL_law_984 dL_law_985 (fun c878 => ?_) (fun c878 => ?_)
                                                                  · have eq444 := (if_pos c878).symm.trans eq444
                                                                    refine fx_iconst (pc := 988) F ⟨by decide, by decide⟩ dL_law_988 ?_
                                                                    cases eq444
                                                                    have q9 := ex _ rfl
                                                                    exact absurd (show some (0 : Int) = some 1 from q9) (by decide)
                                                                  · have eq444 := (if_neg c878).symm.trans eq444
                                                                    refine fx_iinc (pc := 990) (ls' := [some (62, 2), some (7, x_0), some (8, m_0), some (0, (fx_w (i_442 + 4)))]) F (by decide) rfl rfl rfl dL_law_990 ?_
                                                                    refine fx_goto (pc := 993) F 18 (by decide) dL_law_993 ?_
                                                                    cases eq444
                                                                    exact ih _ rfl
                                                                exact fx_tswI (pc := 32) F 976 29 dL_law_32 c873 (by decide) rfl (by decide) hB879
                                                              · have eq444 := (if_neg c873).symm.trans eq444
                                                                refine fx_tswO (pc := 32) F 990 dL_law_32 (by omega) (by decide) ?_
                                                                refine fx_iinc (pc := 990) (ls' := [some (62, 2), some (7, x_0), some (8, m_0), some (0, (fx_w (i_442 + 4)))]) F (by decide) rfl rfl rfl dL_law_990 ?_
                                                                refine fx_goto (pc := 993) F 18 (by decide) dL_law_993 ?_
                                                                cases eq444
                                                                exact ih _ rfl
  · have eq444 := (if_neg c445).symm.trans eq444
    cases eq444
    exact ex _ rfl
