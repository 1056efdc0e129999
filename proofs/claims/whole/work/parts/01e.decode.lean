theorem dX6_paysOf_139 : decode cX6_paysOf 139 = .ok (.iconst 0, 1) := by decide +kernel
theorem dX6_paysOf_140 : decode cX6_paysOf 140 = .ok (.istore 7, 2) := by decide +kernel
theorem dX6_paysOf_142 : decode cX6_paysOf 142 = .ok (.iinc 8 1, 3) := by decide +kernel
theorem dX6_paysOf_145 : decode cX6_paysOf 145 = .ok (.goto (-98), 3) := by decide +kernel
theorem dX6_paysOf_148 : decode cX6_paysOf 148 = .ok (.iload 4, 2) := by decide +kernel
theorem dX6_paysOf_150 : decode cX6_paysOf 150 = .ok (.tableswitch 97 1 5 #[34, 41, 76, 34, 79], 34) := by decide +kernel
theorem dX6_paysOf_184 : decode cX6_paysOf 184 = .ok (.iconst 2, 1) := by decide +kernel
theorem dX6_paysOf_185 : decode cX6_paysOf 185 = .ok (.iload 5, 2) := by decide +kernel
theorem dX6_paysOf_187 : decode cX6_paysOf 187 = .ok (.iconst 1, 1) := by decide +kernel
theorem dX6_paysOf_188 : decode cX6_paysOf 188 = .ok (.isub, 1) := by decide +kernel
theorem dX6_paysOf_189 : decode cX6_paysOf 189 = .ok (.imul, 1) := by decide +kernel
theorem dX6_paysOf_190 : decode cX6_paysOf 190 = .ok (.ireturn, 1) := by decide +kernel
theorem dX6_paysOf_191 : decode cX6_paysOf 191 = .ok (.iload 7, 2) := by decide +kernel
theorem dX6_paysOf_193 : decode cX6_paysOf 193 = .ok (.ifCond .ne 10, 3) := by decide +kernel
theorem dX6_paysOf_196 : decode cX6_paysOf 196 = .ok (.iload 5, 2) := by decide +kernel
theorem dX6_paysOf_198 : decode cX6_paysOf 198 = .ok (.iconst 1, 1) := by decide +kernel
theorem dX6_paysOf_199 : decode cX6_paysOf 199 = .ok (.isub, 1) := by decide +kernel
theorem dX6_paysOf_200 : decode cX6_paysOf 200 = .ok (.goto 25, 3) := by decide +kernel
theorem dX6_paysOf_203 : decode cX6_paysOf 203 = .ok (.iload_n 1, 1) := by decide +kernel
theorem dX6_paysOf_204 : decode cX6_paysOf 204 = .ok (.aload_n 0, 1) := by decide +kernel
theorem dX6_paysOf_205 : decode cX6_paysOf 205 = .ok (.getfield 7, 3) := by decide +kernel
theorem dX6_paysOf_208 : decode cX6_paysOf 208 = .ok (.bipush 13, 2) := by decide +kernel
theorem dX6_paysOf_210 : decode cX6_paysOf 210 = .ok (.iaload, 1) := by decide +kernel
theorem dX6_paysOf_211 : decode cX6_paysOf 211 = .ok (.if_icmp .ne 13, 3) := by decide +kernel
theorem dX6_paysOf_214 : decode cX6_paysOf 214 = .ok (.iload 5, 2) := by decide +kernel
theorem dX6_paysOf_216 : decode cX6_paysOf 216 = .ok (.iload 5, 2) := by decide +kernel
theorem dX6_paysOf_218 : decode cX6_paysOf 218 = .ok (.iconst 1, 1) := by decide +kernel
theorem dX6_paysOf_219 : decode cX6_paysOf 219 = .ok (.isub, 1) := by decide +kernel
theorem dX6_paysOf_220 : decode cX6_paysOf 220 = .ok (.imul, 1) := by decide +kernel
theorem dX6_paysOf_221 : decode cX6_paysOf 221 = .ok (.goto 4, 3) := by decide +kernel
theorem dX6_paysOf_224 : decode cX6_paysOf 224 = .ok (.iconst 0, 1) := by decide +kernel
theorem dX6_paysOf_225 : decode cX6_paysOf 225 = .ok (.ireturn, 1) := by decide +kernel
theorem dX6_paysOf_226 : decode cX6_paysOf 226 = .ok (.iload 6, 2) := by decide +kernel
theorem dX6_paysOf_228 : decode cX6_paysOf 228 = .ok (.ireturn, 1) := by decide +kernel
theorem dX6_paysOf_229 : decode cX6_paysOf 229 = .ok (.iload 6, 2) := by decide +kernel
theorem dX6_paysOf_231 : decode cX6_paysOf 231 = .ok (.aload_n 0, 1) := by decide +kernel
theorem dX6_paysOf_232 : decode cX6_paysOf 232 = .ok (.iload_n 1, 1) := by decide +kernel
theorem dX6_paysOf_233 : decode cX6_paysOf 233 = .ok (.iload_n 2, 1) := by decide +kernel
theorem dX6_paysOf_234 : decode cX6_paysOf 234 = .ok (.invokevirtual 130, 3) := by decide +kernel
theorem dX6_paysOf_237 : decode cX6_paysOf 237 = .ok (.ifCond .eq 7, 3) := by decide +kernel
theorem dX6_paysOf_240 : decode cX6_paysOf 240 = .ok (.iconst 2, 1) := by decide +kernel
theorem dX6_paysOf_241 : decode cX6_paysOf 241 = .ok (.goto 4, 3) := by decide +kernel
theorem dX6_paysOf_244 : decode cX6_paysOf 244 = .ok (.iconst 0, 1) := by decide +kernel
theorem dX6_paysOf_245 : decode cX6_paysOf 245 = .ok (.iadd, 1) := by decide +kernel
theorem dX6_paysOf_246 : decode cX6_paysOf 246 = .ok (.ireturn, 1) := by decide +kernel
theorem dX6_paysOf_247 : decode cX6_paysOf 247 = .ok (.iload 5, 2) := by decide +kernel
theorem dX6_paysOf_249 : decode cX6_paysOf 249 = .ok (.iconst 1, 1) := by decide +kernel
theorem dX6_paysOf_250 : decode cX6_paysOf 250 = .ok (.isub, 1) := by decide +kernel
theorem dX6_paysOf_251 : decode cX6_paysOf 251 = .ok (.ireturn, 1) := by decide +kernel
theorem dX6_paysIn_0 : decode cX6_paysIn 0 = .ok (.iconst 0, 1) := by decide +kernel
theorem dX6_paysIn_1 : decode cX6_paysIn 1 = .ok (.istore_n 3, 1) := by decide +kernel
theorem dX6_paysIn_2 : decode cX6_paysIn 2 = .ok (.iconst 0, 1) := by decide +kernel
theorem dX6_paysIn_3 : decode cX6_paysIn 3 = .ok (.istore 4, 2) := by decide +kernel
theorem dX6_paysIn_5 : decode cX6_paysIn 5 = .ok (.iload 4, 2) := by decide +kernel
theorem dX6_paysIn_7 : decode cX6_paysIn 7 = .ok (.iload_n 2, 1) := by decide +kernel
theorem dX6_paysIn_8 : decode cX6_paysIn 8 = .ok (.if_icmp .ge 19, 3) := by decide +kernel
theorem dX6_paysIn_11 : decode cX6_paysIn 11 = .ok (.iload_n 3, 1) := by decide +kernel
theorem dX6_paysIn_12 : decode cX6_paysIn 12 = .ok (.aload_n 0, 1) := by decide +kernel
theorem dX6_paysIn_13 : decode cX6_paysIn 13 = .ok (.iload_n 1, 1) := by decide +kernel
theorem dX6_paysIn_14 : decode cX6_paysIn 14 = .ok (.iload 4, 2) := by decide +kernel
theorem dX6_paysIn_16 : decode cX6_paysIn 16 = .ok (.invokevirtual 134, 3) := by decide +kernel
theorem dX6_paysIn_19 : decode cX6_paysIn 19 = .ok (.iadd, 1) := by decide +kernel
theorem dX6_paysIn_20 : decode cX6_paysIn 20 = .ok (.istore_n 3, 1) := by decide +kernel
theorem dX6_paysIn_21 : decode cX6_paysIn 21 = .ok (.iinc 4 1, 3) := by decide +kernel
theorem dX6_paysIn_24 : decode cX6_paysIn 24 = .ok (.goto (-19), 3) := by decide +kernel
theorem dX6_paysIn_27 : decode cX6_paysIn 27 = .ok (.iload_n 3, 1) := by decide +kernel
theorem dX6_paysIn_28 : decode cX6_paysIn 28 = .ok (.ireturn, 1) := by decide +kernel
theorem dX6_allIn_0 : decode cX6_allIn 0 = .ok (.iconst 0, 1) := by decide +kernel
theorem dX6_allIn_1 : decode cX6_allIn 1 = .ok (.istore_n 2, 1) := by decide +kernel
theorem dX6_allIn_2 : decode cX6_allIn 2 = .ok (.iconst 0, 1) := by decide +kernel
theorem dX6_allIn_3 : decode cX6_allIn 3 = .ok (.istore_n 3, 1) := by decide +kernel
theorem dX6_allIn_4 : decode cX6_allIn 4 = .ok (.iload_n 3, 1) := by decide +kernel
theorem dX6_allIn_5 : decode cX6_allIn 5 = .ok (.aload_n 0, 1) := by decide +kernel
theorem dX6_allIn_6 : decode cX6_allIn 6 = .ok (.invokevirtual 78, 3) := by decide +kernel
theorem dX6_allIn_9 : decode cX6_allIn 9 = .ok (.if_icmp .ge 18, 3) := by decide +kernel
theorem dX6_allIn_12 : decode cX6_allIn 12 = .ok (.iload_n 2, 1) := by decide +kernel
theorem dX6_allIn_13 : decode cX6_allIn 13 = .ok (.aload_n 0, 1) := by decide +kernel
theorem dX6_allIn_14 : decode cX6_allIn 14 = .ok (.iload_n 3, 1) := by decide +kernel
theorem dX6_allIn_15 : decode cX6_allIn 15 = .ok (.iload_n 1, 1) := by decide +kernel
theorem dX6_allIn_16 : decode cX6_allIn 16 = .ok (.invokevirtual 137, 3) := by decide +kernel
theorem dX6_allIn_19 : decode cX6_allIn 19 = .ok (.iadd, 1) := by decide +kernel
theorem dX6_allIn_20 : decode cX6_allIn 20 = .ok (.istore_n 2, 1) := by decide +kernel
theorem dX6_allIn_21 : decode cX6_allIn 21 = .ok (.iinc 3 1, 3) := by decide +kernel
theorem dX6_allIn_24 : decode cX6_allIn 24 = .ok (.goto (-20), 3) := by decide +kernel
theorem dX6_allIn_27 : decode cX6_allIn 27 = .ok (.iload_n 2, 1) := by decide +kernel
theorem dX6_allIn_28 : decode cX6_allIn 28 = .ok (.ireturn, 1) := by decide +kernel
theorem dX6_pays_0 : decode cX6_pays 0 = .ok (.aload_n 0, 1) := by decide +kernel
theorem dX6_pays_1 : decode cX6_pays 1 = .ok (.iload_n 1, 1) := by decide +kernel
theorem dX6_pays_2 : decode cX6_pays 2 = .ok (.invokevirtual 102, 3) := by decide +kernel
theorem dX6_pays_5 : decode cX6_pays 5 = .ok (.ifCond .eq 11, 3) := by decide +kernel
theorem dX6_pays_8 : decode cX6_pays 8 = .ok (.aload_n 0, 1) := by decide +kernel
theorem dX6_pays_9 : decode cX6_pays 9 = .ok (.iload_n 2, 1) := by decide +kernel
theorem dX6_pays_10 : decode cX6_pays 10 = .ok (.invokevirtual 97, 3) := by decide +kernel
theorem dX6_pays_13 : decode cX6_pays 13 = .ok (.ifCond .ne 10, 3) := by decide +kernel
theorem dX6_pays_16 : decode cX6_pays 16 = .ok (.aload_n 0, 1) := by decide +kernel
theorem dX6_pays_17 : decode cX6_pays 17 = .ok (.bipush (-2), 2) := by decide +kernel
theorem dX6_pays_19 : decode cX6_pays 19 = .ok (.invokevirtual 88, 3) := by decide +kernel
theorem dX6_pays_22 : decode cX6_pays 22 = .ok (.ireturn, 1) := by decide +kernel
theorem dX6_pays_23 : decode cX6_pays 23 = .ok (.aload_n 0, 1) := by decide +kernel
theorem dX6_pays_24 : decode cX6_pays 24 = .ok (.invokevirtual 119, 3) := by decide +kernel
theorem dX6_pays_27 : decode cX6_pays 27 = .ok (.aload_n 0, 1) := by decide +kernel
theorem dX6_pays_28 : decode cX6_pays 28 = .ok (.invokevirtual 140, 3) := by decide +kernel
theorem dX6_pays_31 : decode cX6_pays 31 = .ok (.aload_n 0, 1) := by decide +kernel
theorem dX6_pays_32 : decode cX6_pays 32 = .ok (.iload_n 1, 1) := by decide +kernel
theorem dX6_pays_33 : decode cX6_pays 33 = .ok (.iload_n 2, 1) := by decide +kernel
theorem dX6_pays_34 : decode cX6_pays 34 = .ok (.invokevirtual 134, 3) := by decide +kernel
theorem dX6_pays_37 : decode cX6_pays 37 = .ok (.ireturn, 1) := by decide +kernel
theorem dX6_all_0 : decode cX6_all 0 = .ok (.aload_n 0, 1) := by decide +kernel
theorem dX6_all_1 : decode cX6_all 1 = .ok (.invokevirtual 119, 3) := by decide +kernel
theorem dX6_all_4 : decode cX6_all 4 = .ok (.aload_n 0, 1) := by decide +kernel
theorem dX6_all_5 : decode cX6_all 5 = .ok (.invokevirtual 140, 3) := by decide +kernel
theorem dX6_all_8 : decode cX6_all 8 = .ok (.aload_n 0, 1) := by decide +kernel
theorem dX6_all_9 : decode cX6_all 9 = .ok (.aload_n 0, 1) := by decide +kernel
theorem dX6_all_10 : decode cX6_all 10 = .ok (.invokevirtual 81, 3) := by decide +kernel
theorem dX6_all_13 : decode cX6_all 13 = .ok (.invokevirtual 143, 3) := by decide +kernel
theorem dX6_all_16 : decode cX6_all 16 = .ok (.ireturn, 1) := by decide +kernel
theorem dX6_takeNeeds_0 : decode cX6_takeNeeds 0 = .ok (.iconst 0, 1) := by decide +kernel
theorem dX6_takeNeeds_1 : decode cX6_takeNeeds 1 = .ok (.istore_n 3, 1) := by decide +kernel
theorem dX6_takeNeeds_2 : decode cX6_takeNeeds 2 = .ok (.iconst 0, 1) := by decide +kernel
theorem dX6_takeNeeds_3 : decode cX6_takeNeeds 3 = .ok (.istore 4, 2) := by decide +kernel
theorem dX6_takeNeeds_5 : decode cX6_takeNeeds 5 = .ok (.iload 4, 2) := by decide +kernel
theorem dX6_takeNeeds_7 : decode cX6_takeNeeds 7 = .ok (.bipush 9, 2) := by decide +kernel
theorem dX6_takeNeeds_9 : decode cX6_takeNeeds 9 = .ok (.if_icmp .ge 41, 3) := by decide +kernel
theorem dX6_takeNeeds_12 : decode cX6_takeNeeds 12 = .ok (.aload_n 0, 1) := by decide +kernel
theorem dX6_takeNeeds_13 : decode cX6_takeNeeds 13 = .ok (.getfield 42, 3) := by decide +kernel
theorem dX6_takeNeeds_16 : decode cX6_takeNeeds 16 = .ok (.iload 4, 2) := by decide +kernel
theorem dX6_takeNeeds_18 : decode cX6_takeNeeds 18 = .ok (.aload_n 0, 1) := by decide +kernel
theorem dX6_takeNeeds_19 : decode cX6_takeNeeds 19 = .ok (.getfield 7, 3) := by decide +kernel
theorem dX6_takeNeeds_22 : decode cX6_takeNeeds 22 = .ok (.bipush 44, 2) := by decide +kernel
theorem dX6_takeNeeds_24 : decode cX6_takeNeeds 24 = .ok (.bipush 9, 2) := by decide +kernel
theorem dX6_takeNeeds_26 : decode cX6_takeNeeds 26 = .ok (.iload_n 1, 1) := by decide +kernel
theorem dX6_takeNeeds_27 : decode cX6_takeNeeds 27 = .ok (.imul, 1) := by decide +kernel
theorem dX6_takeNeeds_28 : decode cX6_takeNeeds 28 = .ok (.iadd, 1) := by decide +kernel
theorem dX6_takeNeeds_29 : decode cX6_takeNeeds 29 = .ok (.iload 4, 2) := by decide +kernel
theorem dX6_takeNeeds_31 : decode cX6_takeNeeds 31 = .ok (.iadd, 1) := by decide +kernel
theorem dX6_takeNeeds_32 : decode cX6_takeNeeds 32 = .ok (.iaload, 1) := by decide +kernel
theorem dX6_takeNeeds_33 : decode cX6_takeNeeds 33 = .ok (.iastore, 1) := by decide +kernel
theorem dX6_takeNeeds_34 : decode cX6_takeNeeds 34 = .ok (.iload_n 3, 1) := by decide +kernel
theorem dX6_takeNeeds_35 : decode cX6_takeNeeds 35 = .ok (.aload_n 0, 1) := by decide +kernel
theorem dX6_takeNeeds_36 : decode cX6_takeNeeds 36 = .ok (.getfield 42, 3) := by decide +kernel
theorem dX6_takeNeeds_39 : decode cX6_takeNeeds 39 = .ok (.iload 4, 2) := by decide +kernel
theorem dX6_takeNeeds_41 : decode cX6_takeNeeds 41 = .ok (.iaload, 1) := by decide +kernel
theorem dX6_takeNeeds_42 : decode cX6_takeNeeds 42 = .ok (.iadd, 1) := by decide +kernel
theorem dX6_takeNeeds_43 : decode cX6_takeNeeds 43 = .ok (.istore_n 3, 1) := by decide +kernel
theorem dX6_takeNeeds_44 : decode cX6_takeNeeds 44 = .ok (.iinc 4 1, 3) := by decide +kernel
theorem dX6_takeNeeds_47 : decode cX6_takeNeeds 47 = .ok (.goto (-42), 3) := by decide +kernel
theorem dX6_takeNeeds_50 : decode cX6_takeNeeds 50 = .ok (.aload_n 0, 1) := by decide +kernel
theorem dX6_takeNeeds_51 : decode cX6_takeNeeds 51 = .ok (.getfield 42, 3) := by decide +kernel
theorem dX6_takeNeeds_54 : decode cX6_takeNeeds 54 = .ok (.bipush 9, 2) := by decide +kernel
theorem dX6_takeNeeds_56 : decode cX6_takeNeeds 56 = .ok (.iload_n 2, 1) := by decide +kernel
theorem dX6_takeNeeds_57 : decode cX6_takeNeeds 57 = .ok (.iload_n 3, 1) := by decide +kernel
theorem dX6_takeNeeds_58 : decode cX6_takeNeeds 58 = .ok (.isub, 1) := by decide +kernel
theorem dX6_takeNeeds_59 : decode cX6_takeNeeds 59 = .ok (.iastore, 1) := by decide +kernel
theorem dX6_takeNeeds_60 : decode cX6_takeNeeds 60 = .ok (.return_, 1) := by decide +kernel
theorem dX6_findRows_0 : decode cX6_findRows 0 = .ok (.aload_n 0, 1) := by decide +kernel
theorem dX6_findRows_1 : decode cX6_findRows 1 = .ok (.iload_n 1, 1) := by decide +kernel
theorem dX6_findRows_2 : decode cX6_findRows 2 = .ok (.iload_n 2, 1) := by decide +kernel
theorem dX6_findRows_3 : decode cX6_findRows 3 = .ok (.invokevirtual 146, 3) := by decide +kernel
theorem dX6_findRows_6 : decode cX6_findRows 6 = .ok (.aload_n 0, 1) := by decide +kernel
theorem dX6_findRows_7 : decode cX6_findRows 7 = .ok (.getfield 39, 3) := by decide +kernel
theorem dX6_findRows_10 : decode cX6_findRows 10 = .ok (.iload_n 1, 1) := by decide +kernel
theorem dX6_findRows_11 : decode cX6_findRows 11 = .ok (.iconst 0, 1) := by decide +kernel
theorem dX6_findRows_12 : decode cX6_findRows 12 = .ok (.iastore, 1) := by decide +kernel
theorem dX6_findRows_13 : decode cX6_findRows 13 = .ok (.aload_n 0, 1) := by decide +kernel
theorem dX6_findRows_14 : decode cX6_findRows 14 = .ok (.getfield 42, 3) := by decide +kernel
theorem dX6_findRows_17 : decode cX6_findRows 17 = .ok (.bipush 9, 2) := by decide +kernel
theorem dX6_findRows_19 : decode cX6_findRows 19 = .ok (.iaload, 1) := by decide +kernel
theorem dX6_findRows_20 : decode cX6_findRows 20 = .ok (.ifCond .ge 4, 3) := by decide +kernel
theorem dX6_findRows_23 : decode cX6_findRows 23 = .ok (.return_, 1) := by decide +kernel
theorem dX6_findRows_24 : decode cX6_findRows 24 = .ok (.iconst 0, 1) := by decide +kernel
theorem dX6_findRows_25 : decode cX6_findRows 25 = .ok (.istore_n 3, 1) := by decide +kernel
theorem dX6_findRows_26 : decode cX6_findRows 26 = .ok (.aload_n 0, 1) := by decide +kernel
theorem dX6_findRows_27 : decode cX6_findRows 27 = .ok (.getfield 45, 3) := by decide +kernel
theorem dX6_findRows_30 : decode cX6_findRows 30 = .ok (.iconst 0, 1) := by decide +kernel
theorem dX6_findRows_31 : decode cX6_findRows 31 = .ok (.iconst (-1), 1) := by decide +kernel
theorem dX6_findRows_32 : decode cX6_findRows 32 = .ok (.iastore, 1) := by decide +kernel
theorem dX6_findRows_33 : decode cX6_findRows 33 = .ok (.iload_n 3, 1) := by decide +kernel
theorem dX6_findRows_34 : decode cX6_findRows 34 = .ok (.ifCond .lt 124, 3) := by decide +kernel
theorem dX6_findRows_37 : decode cX6_findRows 37 = .ok (.aload_n 0, 1) := by decide +kernel
theorem dX6_findRows_38 : decode cX6_findRows 38 = .ok (.getfield 45, 3) := by decide +kernel
theorem dX6_findRows_41 : decode cX6_findRows 41 = .ok (.iload_n 3, 1) := by decide +kernel
theorem dX6_findRows_42 : decode cX6_findRows 42 = .ok (.iaload, 1) := by decide +kernel
theorem dX6_findRows_43 : decode cX6_findRows 43 = .ok (.iconst (-1), 1) := by decide +kernel
theorem dX6_findRows_44 : decode cX6_findRows 44 = .ok (.if_icmp .eq 18, 3) := by decide +kernel
theorem dX6_findRows_47 : decode cX6_findRows 47 = .ok (.aload_n 0, 1) := by decide +kernel
theorem dX6_findRows_48 : decode cX6_findRows 48 = .ok (.getfield 42, 3) := by decide +kernel
theorem dX6_findRows_51 : decode cX6_findRows 51 = .ok (.aload_n 0, 1) := by decide +kernel
theorem dX6_findRows_52 : decode cX6_findRows 52 = .ok (.getfield 45, 3) := by decide +kernel
theorem dX6_findRows_55 : decode cX6_findRows 55 = .ok (.iload_n 3, 1) := by decide +kernel
theorem dX6_findRows_56 : decode cX6_findRows 56 = .ok (.iaload, 1) := by decide +kernel
theorem dX6_findRows_57 : decode cX6_findRows 57 = .ok (.dup2, 1) := by decide +kernel
theorem dX6_findRows_58 : decode cX6_findRows 58 = .ok (.iaload, 1) := by decide +kernel
theorem dX6_findRows_59 : decode cX6_findRows 59 = .ok (.iconst 1, 1) := by decide +kernel
theorem dX6_findRows_60 : decode cX6_findRows 60 = .ok (.iadd, 1) := by decide +kernel
theorem dX6_findRows_61 : decode cX6_findRows 61 = .ok (.iastore, 1) := by decide +kernel
theorem dX6_findRows_62 : decode cX6_findRows 62 = .ok (.aload_n 0, 1) := by decide +kernel
theorem dX6_findRows_63 : decode cX6_findRows 63 = .ok (.getfield 45, 3) := by decide +kernel
theorem dX6_findRows_66 : decode cX6_findRows 66 = .ok (.iload_n 3, 1) := by decide +kernel
theorem dX6_findRows_67 : decode cX6_findRows 67 = .ok (.dup2, 1) := by decide +kernel
theorem dX6_findRows_68 : decode cX6_findRows 68 = .ok (.iaload, 1) := by decide +kernel
theorem dX6_findRows_69 : decode cX6_findRows 69 = .ok (.iconst 1, 1) := by decide +kernel
theorem dX6_findRows_70 : decode cX6_findRows 70 = .ok (.iadd, 1) := by decide +kernel
theorem dX6_findRows_71 : decode cX6_findRows 71 = .ok (.iastore, 1) := by decide +kernel
theorem dX6_findRows_72 : decode cX6_findRows 72 = .ok (.aload_n 0, 1) := by decide +kernel
theorem dX6_findRows_73 : decode cX6_findRows 73 = .ok (.getfield 45, 3) := by decide +kernel
theorem dX6_findRows_76 : decode cX6_findRows 76 = .ok (.iload_n 3, 1) := by decide +kernel
theorem dX6_findRows_77 : decode cX6_findRows 77 = .ok (.iaload, 1) := by decide +kernel
theorem dX6_findRows_78 : decode cX6_findRows 78 = .ok (.bipush 9, 2) := by decide +kernel
theorem dX6_findRows_80 : decode cX6_findRows 80 = .ok (.if_icmp .gt 17, 3) := by decide +kernel
theorem dX6_findRows_83 : decode cX6_findRows 83 = .ok (.aload_n 0, 1) := by decide +kernel
theorem dX6_findRows_84 : decode cX6_findRows 84 = .ok (.getfield 42, 3) := by decide +kernel
theorem dX6_findRows_87 : decode cX6_findRows 87 = .ok (.aload_n 0, 1) := by decide +kernel
theorem dX6_findRows_88 : decode cX6_findRows 88 = .ok (.getfield 45, 3) := by decide +kernel
theorem dX6_findRows_91 : decode cX6_findRows 91 = .ok (.iload_n 3, 1) := by decide +kernel
theorem dX6_findRows_92 : decode cX6_findRows 92 = .ok (.iaload, 1) := by decide +kernel
theorem dX6_findRows_93 : decode cX6_findRows 93 = .ok (.iaload, 1) := by decide +kernel
theorem dX6_findRows_94 : decode cX6_findRows 94 = .ok (.ifCond .eq (-32), 3) := by decide +kernel
theorem dX6_findRows_97 : decode cX6_findRows 97 = .ok (.aload_n 0, 1) := by decide +kernel
theorem dX6_findRows_98 : decode cX6_findRows 98 = .ok (.getfield 45, 3) := by decide +kernel
theorem dX6_findRows_101 : decode cX6_findRows 101 = .ok (.iload_n 3, 1) := by decide +kernel
theorem dX6_findRows_102 : decode cX6_findRows 102 = .ok (.iaload, 1) := by decide +kernel
theorem dX6_findRows_103 : decode cX6_findRows 103 = .ok (.bipush 9, 2) := by decide +kernel
theorem dX6_findRows_105 : decode cX6_findRows 105 = .ok (.if_icmp .le 9, 3) := by decide +kernel
theorem dX6_findRows_108 : decode cX6_findRows 108 = .ok (.iinc 3 (-1), 3) := by decide +kernel
theorem dX6_findRows_111 : decode cX6_findRows 111 = .ok (.goto (-78), 3) := by decide +kernel
theorem dX6_findRows_114 : decode cX6_findRows 114 = .ok (.aload_n 0, 1) := by decide +kernel
theorem dX6_findRows_115 : decode cX6_findRows 115 = .ok (.getfield 42, 3) := by decide +kernel
theorem dX6_findRows_118 : decode cX6_findRows 118 = .ok (.aload_n 0, 1) := by decide +kernel
theorem dX6_findRows_119 : decode cX6_findRows 119 = .ok (.getfield 45, 3) := by decide +kernel
theorem dX6_findRows_122 : decode cX6_findRows 122 = .ok (.iload_n 3, 1) := by decide +kernel
theorem dX6_findRows_123 : decode cX6_findRows 123 = .ok (.iaload, 1) := by decide +kernel
theorem dX6_findRows_124 : decode cX6_findRows 124 = .ok (.dup2, 1) := by decide +kernel
theorem dX6_findRows_125 : decode cX6_findRows 125 = .ok (.iaload, 1) := by decide +kernel
theorem dX6_findRows_126 : decode cX6_findRows 126 = .ok (.iconst 1, 1) := by decide +kernel
theorem dX6_findRows_127 : decode cX6_findRows 127 = .ok (.isub, 1) := by decide +kernel
theorem dX6_findRows_128 : decode cX6_findRows 128 = .ok (.iastore, 1) := by decide +kernel
theorem dX6_findRows_129 : decode cX6_findRows 129 = .ok (.iload_n 3, 1) := by decide +kernel
theorem dX6_findRows_130 : decode cX6_findRows 130 = .ok (.iload_n 2, 1) := by decide +kernel
theorem dX6_findRows_131 : decode cX6_findRows 131 = .ok (.iconst 1, 1) := by decide +kernel
theorem dX6_findRows_132 : decode cX6_findRows 132 = .ok (.isub, 1) := by decide +kernel
theorem dX6_findRows_133 : decode cX6_findRows 133 = .ok (.if_icmp .ne 12, 3) := by decide +kernel
theorem dX6_findRows_136 : decode cX6_findRows 136 = .ok (.aload_n 0, 1) := by decide +kernel
theorem dX6_findRows_137 : decode cX6_findRows 137 = .ok (.iload_n 1, 1) := by decide +kernel
theorem dX6_findRows_138 : decode cX6_findRows 138 = .ok (.iload_n 2, 1) := by decide +kernel
theorem dX6_findRows_139 : decode cX6_findRows 139 = .ok (.invokevirtual 149, 3) := by decide +kernel
theorem dX6_findRows_142 : decode cX6_findRows 142 = .ok (.goto (-109), 3) := by decide +kernel
theorem dX6_findRows_145 : decode cX6_findRows 145 = .ok (.iinc 3 1, 3) := by decide +kernel
theorem dX6_findRows_148 : decode cX6_findRows 148 = .ok (.aload_n 0, 1) := by decide +kernel
theorem dX6_findRows_149 : decode cX6_findRows 149 = .ok (.getfield 45, 3) := by decide +kernel
theorem dX6_findRows_152 : decode cX6_findRows 152 = .ok (.iload_n 3, 1) := by decide +kernel
theorem dX6_findRows_153 : decode cX6_findRows 153 = .ok (.iconst (-1), 1) := by decide +kernel
theorem dX6_findRows_154 : decode cX6_findRows 154 = .ok (.iastore, 1) := by decide +kernel
theorem dX6_findRows_155 : decode cX6_findRows 155 = .ok (.goto (-122), 3) := by decide +kernel
theorem dX6_findRows_158 : decode cX6_findRows 158 = .ok (.return_, 1) := by decide +kernel
theorem dX6_keepRow_0 : decode cX6_keepRow 0 = .ok (.iconst 5, 1) := by decide +kernel
theorem dX6_keepRow_1 : decode cX6_keepRow 1 = .ok (.bipush 120, 2) := by decide +kernel
theorem dX6_keepRow_3 : decode cX6_keepRow 3 = .ok (.iload_n 1, 1) := by decide +kernel
theorem dX6_keepRow_4 : decode cX6_keepRow 4 = .ok (.imul, 1) := by decide +kernel
theorem dX6_keepRow_5 : decode cX6_keepRow 5 = .ok (.aload_n 0, 1) := by decide +kernel
theorem dX6_keepRow_6 : decode cX6_keepRow 6 = .ok (.getfield 39, 3) := by decide +kernel
theorem dX6_keepRow_9 : decode cX6_keepRow 9 = .ok (.iload_n 1, 1) := by decide +kernel
theorem dX6_keepRow_10 : decode cX6_keepRow 10 = .ok (.iaload, 1) := by decide +kernel
theorem dX6_keepRow_11 : decode cX6_keepRow 11 = .ok (.iadd, 1) := by decide +kernel
theorem dX6_keepRow_12 : decode cX6_keepRow 12 = .ok (.imul, 1) := by decide +kernel
theorem dX6_keepRow_13 : decode cX6_keepRow 13 = .ok (.istore_n 3, 1) := by decide +kernel
theorem dX6_keepRow_14 : decode cX6_keepRow 14 = .ok (.iconst 0, 1) := by decide +kernel
theorem dX6_keepRow_15 : decode cX6_keepRow 15 = .ok (.istore 4, 2) := by decide +kernel
theorem dX6_keepRow_17 : decode cX6_keepRow 17 = .ok (.iload 4, 2) := by decide +kernel
theorem dX6_keepRow_19 : decode cX6_keepRow 19 = .ok (.iload_n 2, 1) := by decide +kernel
theorem dX6_keepRow_20 : decode cX6_keepRow 20 = .ok (.if_icmp .ge 41, 3) := by decide +kernel
theorem dX6_keepRow_23 : decode cX6_keepRow 23 = .ok (.aload_n 0, 1) := by decide +kernel
theorem dX6_keepRow_24 : decode cX6_keepRow 24 = .ok (.getfield 36, 3) := by decide +kernel
theorem dX6_keepRow_27 : decode cX6_keepRow 27 = .ok (.iload_n 3, 1) := by decide +kernel
theorem dX6_keepRow_28 : decode cX6_keepRow 28 = .ok (.iload 4, 2) := by decide +kernel
theorem dX6_keepRow_30 : decode cX6_keepRow 30 = .ok (.iadd, 1) := by decide +kernel
theorem dX6_keepRow_31 : decode cX6_keepRow 31 = .ok (.aload_n 0, 1) := by decide +kernel
theorem dX6_keepRow_32 : decode cX6_keepRow 32 = .ok (.getfield 45, 3) := by decide +kernel
theorem dX6_keepRow_35 : decode cX6_keepRow 35 = .ok (.iload 4, 2) := by decide +kernel
theorem dX6_keepRow_37 : decode cX6_keepRow 37 = .ok (.iaload, 1) := by decide +kernel
theorem dX6_keepRow_38 : decode cX6_keepRow 38 = .ok (.bipush 9, 2) := by decide +kernel
theorem dX6_keepRow_40 : decode cX6_keepRow 40 = .ok (.if_icmp .ne 7, 3) := by decide +kernel
theorem dX6_keepRow_43 : decode cX6_keepRow 43 = .ok (.iconst (-1), 1) := by decide +kernel
theorem dX6_keepRow_44 : decode cX6_keepRow 44 = .ok (.goto 10, 3) := by decide +kernel
theorem dX6_keepRow_47 : decode cX6_keepRow 47 = .ok (.aload_n 0, 1) := by decide +kernel
theorem dX6_keepRow_48 : decode cX6_keepRow 48 = .ok (.getfield 45, 3) := by decide +kernel
theorem dX6_keepRow_51 : decode cX6_keepRow 51 = .ok (.iload 4, 2) := by decide +kernel
theorem dX6_keepRow_53 : decode cX6_keepRow 53 = .ok (.iaload, 1) := by decide +kernel
theorem dX6_keepRow_54 : decode cX6_keepRow 54 = .ok (.iastore, 1) := by decide +kernel
theorem dX6_keepRow_55 : decode cX6_keepRow 55 = .ok (.iinc 4 1, 3) := by decide +kernel
theorem dX6_keepRow_58 : decode cX6_keepRow 58 = .ok (.goto (-41), 3) := by decide +kernel
theorem dX6_keepRow_61 : decode cX6_keepRow 61 = .ok (.aload_n 0, 1) := by decide +kernel
theorem dX6_keepRow_62 : decode cX6_keepRow 62 = .ok (.getfield 39, 3) := by decide +kernel
theorem dX6_keepRow_65 : decode cX6_keepRow 65 = .ok (.iload_n 1, 1) := by decide +kernel
theorem dX6_keepRow_66 : decode cX6_keepRow 66 = .ok (.dup2, 1) := by decide +kernel
theorem dX6_keepRow_67 : decode cX6_keepRow 67 = .ok (.iaload, 1) := by decide +kernel
theorem dX6_keepRow_68 : decode cX6_keepRow 68 = .ok (.iconst 1, 1) := by decide +kernel
theorem dX6_keepRow_69 : decode cX6_keepRow 69 = .ok (.iadd, 1) := by decide +kernel
theorem dX6_keepRow_70 : decode cX6_keepRow 70 = .ok (.iastore, 1) := by decide +kernel
theorem dX6_keepRow_71 : decode cX6_keepRow 71 = .ok (.return_, 1) := by decide +kernel
theorem dX6_findAllRows_0 : decode cX6_findAllRows 0 = .ok (.iconst 0, 1) := by decide +kernel
theorem dX6_findAllRows_1 : decode cX6_findAllRows 1 = .ok (.istore_n 2, 1) := by decide +kernel
theorem dX6_findAllRows_2 : decode cX6_findAllRows 2 = .ok (.iload_n 2, 1) := by decide +kernel
theorem dX6_findAllRows_3 : decode cX6_findAllRows 3 = .ok (.aload_n 0, 1) := by decide +kernel
theorem dX6_findAllRows_4 : decode cX6_findAllRows 4 = .ok (.invokevirtual 78, 3) := by decide +kernel
theorem dX6_findAllRows_7 : decode cX6_findAllRows 7 = .ok (.if_icmp .ge 15, 3) := by decide +kernel
theorem dX6_findAllRows_10 : decode cX6_findAllRows 10 = .ok (.aload_n 0, 1) := by decide +kernel
theorem dX6_findAllRows_11 : decode cX6_findAllRows 11 = .ok (.iload_n 2, 1) := by decide +kernel
theorem dX6_findAllRows_12 : decode cX6_findAllRows 12 = .ok (.iload_n 1, 1) := by decide +kernel
theorem dX6_findAllRows_13 : decode cX6_findAllRows 13 = .ok (.invokevirtual 152, 3) := by decide +kernel
theorem dX6_findAllRows_16 : decode cX6_findAllRows 16 = .ok (.iinc 2 1, 3) := by decide +kernel
theorem dX6_findAllRows_19 : decode cX6_findAllRows 19 = .ok (.goto (-17), 3) := by decide +kernel
theorem dX6_findAllRows_22 : decode cX6_findAllRows 22 = .ok (.return_, 1) := by decide +kernel
theorem dX6_ways_0 : decode cX6_ways 0 = .ok (.lconst 1, 1) := by decide +kernel
theorem dX6_ways_1 : decode cX6_ways 1 = .ok (.lstore_n 1, 1) := by decide +kernel
theorem dX6_ways_2 : decode cX6_ways 2 = .ok (.iconst 0, 1) := by decide +kernel
theorem dX6_ways_3 : decode cX6_ways 3 = .ok (.istore_n 3, 1) := by decide +kernel
theorem dX6_ways_4 : decode cX6_ways 4 = .ok (.iload_n 3, 1) := by decide +kernel
theorem dX6_ways_5 : decode cX6_ways 5 = .ok (.aload_n 0, 1) := by decide +kernel
theorem dX6_ways_6 : decode cX6_ways 6 = .ok (.invokevirtual 78, 3) := by decide +kernel
theorem dX6_ways_9 : decode cX6_ways 9 = .ok (.if_icmp .ge 19, 3) := by decide +kernel
theorem dX6_ways_12 : decode cX6_ways 12 = .ok (.lload_n 1, 1) := by decide +kernel
theorem dX6_ways_13 : decode cX6_ways 13 = .ok (.aload_n 0, 1) := by decide +kernel
theorem dX6_ways_14 : decode cX6_ways 14 = .ok (.getfield 39, 3) := by decide +kernel
theorem dX6_ways_17 : decode cX6_ways 17 = .ok (.iload_n 3, 1) := by decide +kernel
theorem dX6_ways_18 : decode cX6_ways 18 = .ok (.iaload, 1) := by decide +kernel
theorem dX6_ways_19 : decode cX6_ways 19 = .ok (.i2l, 1) := by decide +kernel
theorem dX6_ways_20 : decode cX6_ways 20 = .ok (.lmul, 1) := by decide +kernel
theorem dX6_ways_21 : decode cX6_ways 21 = .ok (.lstore_n 1, 1) := by decide +kernel
theorem dX6_ways_22 : decode cX6_ways 22 = .ok (.iinc 3 1, 3) := by decide +kernel
theorem dX6_ways_25 : decode cX6_ways 25 = .ok (.goto (-21), 3) := by decide +kernel
theorem dX6_ways_28 : decode cX6_ways 28 = .ok (.lload_n 1, 1) := by decide +kernel
theorem dX6_ways_29 : decode cX6_ways 29 = .ok (.lreturn, 1) := by decide +kernel
theorem dX6_takeRow_0 : decode cX6_takeRow 0 = .ok (.iconst 0, 1) := by decide +kernel
theorem dX6_takeRow_1 : decode cX6_takeRow 1 = .ok (.istore 4, 2) := by decide +kernel
theorem dX6_takeRow_3 : decode cX6_takeRow 3 = .ok (.iload 4, 2) := by decide +kernel
theorem dX6_takeRow_5 : decode cX6_takeRow 5 = .ok (.iload_n 3, 1) := by decide +kernel
theorem dX6_takeRow_6 : decode cX6_takeRow 6 = .ok (.if_icmp .ge 36, 3) := by decide +kernel
theorem dX6_takeRow_9 : decode cX6_takeRow 9 = .ok (.aload_n 0, 1) := by decide +kernel
theorem dX6_takeRow_10 : decode cX6_takeRow 10 = .ok (.getfield 33, 3) := by decide +kernel
theorem dX6_takeRow_13 : decode cX6_takeRow 13 = .ok (.iconst 5, 1) := by decide +kernel
theorem dX6_takeRow_14 : decode cX6_takeRow 14 = .ok (.iload_n 1, 1) := by decide +kernel
theorem dX6_takeRow_15 : decode cX6_takeRow 15 = .ok (.imul, 1) := by decide +kernel
theorem dX6_takeRow_16 : decode cX6_takeRow 16 = .ok (.iload 4, 2) := by decide +kernel
theorem dX6_takeRow_18 : decode cX6_takeRow 18 = .ok (.iadd, 1) := by decide +kernel
theorem dX6_takeRow_19 : decode cX6_takeRow 19 = .ok (.aload_n 0, 1) := by decide +kernel
theorem dX6_takeRow_20 : decode cX6_takeRow 20 = .ok (.getfield 36, 3) := by decide +kernel
theorem dX6_takeRow_23 : decode cX6_takeRow 23 = .ok (.iconst 5, 1) := by decide +kernel
theorem dX6_takeRow_24 : decode cX6_takeRow 24 = .ok (.bipush 120, 2) := by decide +kernel
theorem dX6_takeRow_26 : decode cX6_takeRow 26 = .ok (.iload_n 1, 1) := by decide +kernel
theorem dX6_takeRow_27 : decode cX6_takeRow 27 = .ok (.imul, 1) := by decide +kernel
theorem dX6_takeRow_28 : decode cX6_takeRow 28 = .ok (.iload_n 2, 1) := by decide +kernel
theorem dX6_takeRow_29 : decode cX6_takeRow 29 = .ok (.iadd, 1) := by decide +kernel
theorem dX6_takeRow_30 : decode cX6_takeRow 30 = .ok (.imul, 1) := by decide +kernel
theorem dX6_takeRow_31 : decode cX6_takeRow 31 = .ok (.iload 4, 2) := by decide +kernel
theorem dX6_takeRow_33 : decode cX6_takeRow 33 = .ok (.iadd, 1) := by decide +kernel
theorem dX6_takeRow_34 : decode cX6_takeRow 34 = .ok (.iaload, 1) := by decide +kernel
theorem dX6_takeRow_35 : decode cX6_takeRow 35 = .ok (.iastore, 1) := by decide +kernel
theorem dX6_takeRow_36 : decode cX6_takeRow 36 = .ok (.iinc 4 1, 3) := by decide +kernel
theorem dX6_takeRow_39 : decode cX6_takeRow 39 = .ok (.goto (-36), 3) := by decide +kernel
theorem dX6_takeRow_42 : decode cX6_takeRow 42 = .ok (.return_, 1) := by decide +kernel
theorem dX6_findLeast_0 : decode cX6_findLeast 0 = .ok (.aload_n 0, 1) := by decide +kernel
theorem dX6_findLeast_1 : decode cX6_findLeast 1 = .ok (.invokevirtual 155, 3) := by decide +kernel
theorem dX6_findLeast_4 : decode cX6_findLeast 4 = .ok (.ldc 158, 2) := by decide +kernel
theorem dX6_findLeast_6 : decode cX6_findLeast 6 = .ok (.istore_n 2, 1) := by decide +kernel
theorem dX6_findLeast_7 : decode cX6_findLeast 7 = .ok (.aload_n 0, 1) := by decide +kernel
theorem dX6_findLeast_8 : decode cX6_findLeast 8 = .ok (.invokevirtual 159, 3) := by decide +kernel
theorem dX6_findLeast_11 : decode cX6_findLeast 11 = .ok (.lstore_n 3, 1) := by decide +kernel
theorem dX6_findLeast_12 : decode cX6_findLeast 12 = .ok (.lconst 0, 1) := by decide +kernel
theorem dX6_findLeast_13 : decode cX6_findLeast 13 = .ok (.lstore 5, 2) := by decide +kernel
theorem dX6_findLeast_15 : decode cX6_findLeast 15 = .ok (.lload 5, 2) := by decide +kernel
theorem dX6_findLeast_17 : decode cX6_findLeast 17 = .ok (.lload_n 3, 1) := by decide +kernel
theorem dX6_findLeast_18 : decode cX6_findLeast 18 = .ok (.lcmp, 1) := by decide +kernel
theorem dX6_findLeast_19 : decode cX6_findLeast 19 = .ok (.ifCond .ge 113, 3) := by decide +kernel
theorem dX6_findLeast_22 : decode cX6_findLeast 22 = .ok (.lload 5, 2) := by decide +kernel
theorem dX6_findLeast_24 : decode cX6_findLeast 24 = .ok (.lstore 7, 2) := by decide +kernel
theorem dX6_findLeast_26 : decode cX6_findLeast 26 = .ok (.aload_n 0, 1) := by decide +kernel
theorem dX6_findLeast_27 : decode cX6_findLeast 27 = .ok (.invokevirtual 78, 3) := by decide +kernel
theorem dX6_findLeast_30 : decode cX6_findLeast 30 = .ok (.iconst 1, 1) := by decide +kernel
theorem dX6_findLeast_31 : decode cX6_findLeast 31 = .ok (.isub, 1) := by decide +kernel
theorem dX6_findLeast_32 : decode cX6_findLeast 32 = .ok (.istore 9, 2) := by decide +kernel
theorem dX6_findLeast_34 : decode cX6_findLeast 34 = .ok (.iload 9, 2) := by decide +kernel
theorem dX6_findLeast_36 : decode cX6_findLeast 36 = .ok (.ifCond .lt 41, 3) := by decide +kernel
theorem dX6_findLeast_39 : decode cX6_findLeast 39 = .ok (.aload_n 0, 1) := by decide +kernel
theorem dX6_findLeast_40 : decode cX6_findLeast 40 = .ok (.iload 9, 2) := by decide +kernel
theorem dX6_findLeast_42 : decode cX6_findLeast 42 = .ok (.lload 7, 2) := by decide +kernel
theorem dX6_findLeast_44 : decode cX6_findLeast 44 = .ok (.aload_n 0, 1) := by decide +kernel
theorem dX6_findLeast_45 : decode cX6_findLeast 45 = .ok (.getfield 39, 3) := by decide +kernel
theorem dX6_findLeast_48 : decode cX6_findLeast 48 = .ok (.iload 9, 2) := by decide +kernel
theorem dX6_findLeast_50 : decode cX6_findLeast 50 = .ok (.iaload, 1) := by decide +kernel
theorem dX6_findLeast_51 : decode cX6_findLeast 51 = .ok (.i2l, 1) := by decide +kernel
theorem dX6_findLeast_52 : decode cX6_findLeast 52 = .ok (.lrem, 1) := by decide +kernel
theorem dX6_findLeast_53 : decode cX6_findLeast 53 = .ok (.l2i, 1) := by decide +kernel
theorem dX6_findLeast_54 : decode cX6_findLeast 54 = .ok (.iload_n 1, 1) := by decide +kernel
theorem dX6_findLeast_55 : decode cX6_findLeast 55 = .ok (.invokevirtual 163, 3) := by decide +kernel
theorem dX6_findLeast_58 : decode cX6_findLeast 58 = .ok (.lload 7, 2) := by decide +kernel
theorem dX6_findLeast_60 : decode cX6_findLeast 60 = .ok (.aload_n 0, 1) := by decide +kernel
theorem dX6_findLeast_61 : decode cX6_findLeast 61 = .ok (.getfield 39, 3) := by decide +kernel
theorem dX6_findLeast_64 : decode cX6_findLeast 64 = .ok (.iload 9, 2) := by decide +kernel
theorem dX6_findLeast_66 : decode cX6_findLeast 66 = .ok (.iaload, 1) := by decide +kernel
theorem dX6_findLeast_67 : decode cX6_findLeast 67 = .ok (.i2l, 1) := by decide +kernel
theorem dX6_findLeast_68 : decode cX6_findLeast 68 = .ok (.ldiv, 1) := by decide +kernel
theorem dX6_findLeast_69 : decode cX6_findLeast 69 = .ok (.lstore 7, 2) := by decide +kernel
theorem dX6_findLeast_71 : decode cX6_findLeast 71 = .ok (.iinc 9 (-1), 3) := by decide +kernel
theorem dX6_findLeast_74 : decode cX6_findLeast 74 = .ok (.goto (-40), 3) := by decide +kernel
theorem dX6_findLeast_77 : decode cX6_findLeast 77 = .ok (.aload_n 0, 1) := by decide +kernel
theorem dX6_findLeast_78 : decode cX6_findLeast 78 = .ok (.iload_n 1, 1) := by decide +kernel
theorem dX6_findLeast_79 : decode cX6_findLeast 79 = .ok (.invokevirtual 143, 3) := by decide +kernel
theorem dX6_findLeast_82 : decode cX6_findLeast 82 = .ok (.istore 9, 2) := by decide +kernel
theorem dX6_findLeast_84 : decode cX6_findLeast 84 = .ok (.iload 9, 2) := by decide +kernel
theorem dX6_findLeast_86 : decode cX6_findLeast 86 = .ok (.iload_n 2, 1) := by decide +kernel
theorem dX6_findLeast_87 : decode cX6_findLeast 87 = .ok (.if_icmp .ge 36, 3) := by decide +kernel
theorem dX6_findLeast_90 : decode cX6_findLeast 90 = .ok (.iload 9, 2) := by decide +kernel
theorem dX6_findLeast_92 : decode cX6_findLeast 92 = .ok (.istore_n 2, 1) := by decide +kernel
theorem dX6_findLeast_93 : decode cX6_findLeast 93 = .ok (.iconst 0, 1) := by decide +kernel
theorem dX6_findLeast_94 : decode cX6_findLeast 94 = .ok (.istore 10, 2) := by decide +kernel
theorem dX6_findLeast_96 : decode cX6_findLeast 96 = .ok (.iload 10, 2) := by decide +kernel
theorem dX6_findLeast_98 : decode cX6_findLeast 98 = .ok (.bipush 25, 2) := by decide +kernel
theorem dX6_findLeast_100 : decode cX6_findLeast 100 = .ok (.if_icmp .ge 23, 3) := by decide +kernel
theorem dX6_findLeast_103 : decode cX6_findLeast 103 = .ok (.aload_n 0, 1) := by decide +kernel
theorem dX6_findLeast_104 : decode cX6_findLeast 104 = .ok (.getfield 48, 3) := by decide +kernel
theorem dX6_findLeast_107 : decode cX6_findLeast 107 = .ok (.iload 10, 2) := by decide +kernel
theorem dX6_findLeast_109 : decode cX6_findLeast 109 = .ok (.aload_n 0, 1) := by decide +kernel
theorem dX6_findLeast_110 : decode cX6_findLeast 110 = .ok (.getfield 33, 3) := by decide +kernel
theorem dX6_findLeast_113 : decode cX6_findLeast 113 = .ok (.iload 10, 2) := by decide +kernel
theorem dX6_findLeast_115 : decode cX6_findLeast 115 = .ok (.iaload, 1) := by decide +kernel
theorem dX6_findLeast_116 : decode cX6_findLeast 116 = .ok (.iastore, 1) := by decide +kernel
theorem dX6_findLeast_117 : decode cX6_findLeast 117 = .ok (.iinc 10 1, 3) := by decide +kernel
theorem dX6_findLeast_120 : decode cX6_findLeast 120 = .ok (.goto (-24), 3) := by decide +kernel
theorem dX6_findLeast_123 : decode cX6_findLeast 123 = .ok (.lload 5, 2) := by decide +kernel
theorem dX6_findLeast_125 : decode cX6_findLeast 125 = .ok (.lconst 1, 1) := by decide +kernel
theorem dX6_findLeast_126 : decode cX6_findLeast 126 = .ok (.ladd, 1) := by decide +kernel
theorem dX6_findLeast_127 : decode cX6_findLeast 127 = .ok (.lstore 5, 2) := by decide +kernel
theorem dX6_findLeast_129 : decode cX6_findLeast 129 = .ok (.goto (-114), 3) := by decide +kernel
theorem dX6_findLeast_132 : decode cX6_findLeast 132 = .ok (.iload_n 2, 1) := by decide +kernel
theorem dX6_findLeast_133 : decode cX6_findLeast 133 = .ok (.ireturn, 1) := by decide +kernel
theorem dX6_least_0 : decode cX6_least 0 = .ok (.iload_n 1, 1) := by decide +kernel
theorem dX6_least_1 : decode cX6_least 1 = .ok (.iconst (-1), 1) := by decide +kernel
theorem dX6_least_2 : decode cX6_least 2 = .ok (.if_icmp .ne 15, 3) := by decide +kernel
theorem dX6_least_5 : decode cX6_least 5 = .ok (.iload_n 2, 1) := by decide +kernel
theorem dX6_least_6 : decode cX6_least 6 = .ok (.ifCond .ne 7, 3) := by decide +kernel
theorem dX6_least_9 : decode cX6_least 9 = .ok (.iconst 1, 1) := by decide +kernel
theorem dX6_least_10 : decode cX6_least 10 = .ok (.goto 28, 3) := by decide +kernel
theorem dX6_least_13 : decode cX6_least 13 = .ok (.iconst 0, 1) := by decide +kernel
theorem dX6_least_14 : decode cX6_least 14 = .ok (.goto 24, 3) := by decide +kernel
theorem dX6_least_17 : decode cX6_least 17 = .ok (.aload_n 0, 1) := by decide +kernel
theorem dX6_least_18 : decode cX6_least 18 = .ok (.iload_n 1, 1) := by decide +kernel
theorem dX6_least_19 : decode cX6_least 19 = .ok (.invokevirtual 102, 3) := by decide +kernel
theorem dX6_least_22 : decode cX6_least 22 = .ok (.ifCond .eq 15, 3) := by decide +kernel
theorem dX6_least_25 : decode cX6_least 25 = .ok (.aload_n 0, 1) := by decide +kernel
theorem dX6_least_26 : decode cX6_least 26 = .ok (.iload_n 2, 1) := by decide +kernel
theorem dX6_least_27 : decode cX6_least 27 = .ok (.invokevirtual 97, 3) := by decide +kernel
theorem dX6_least_30 : decode cX6_least 30 = .ok (.ifCond .eq 7, 3) := by decide +kernel
theorem dX6_least_33 : decode cX6_least 33 = .ok (.iconst 1, 1) := by decide +kernel
theorem dX6_least_34 : decode cX6_least 34 = .ok (.goto 4, 3) := by decide +kernel
theorem dX6_least_37 : decode cX6_least 37 = .ok (.iconst 0, 1) := by decide +kernel
theorem dX6_least_38 : decode cX6_least 38 = .ok (.istore_n 3, 1) := by decide +kernel
theorem dX6_least_39 : decode cX6_least 39 = .ok (.iload_n 3, 1) := by decide +kernel
theorem dX6_least_40 : decode cX6_least 40 = .ok (.ifCond .ne 10, 3) := by decide +kernel
theorem dX6_least_43 : decode cX6_least 43 = .ok (.aload_n 0, 1) := by decide +kernel
theorem dX6_least_44 : decode cX6_least 44 = .ok (.bipush (-2), 2) := by decide +kernel
theorem dX6_least_46 : decode cX6_least 46 = .ok (.invokevirtual 88, 3) := by decide +kernel
theorem dX6_least_49 : decode cX6_least 49 = .ok (.ireturn, 1) := by decide +kernel
theorem dX6_least_50 : decode cX6_least 50 = .ok (.aload_n 0, 1) := by decide +kernel
theorem dX6_least_51 : decode cX6_least 51 = .ok (.invokevirtual 119, 3) := by decide +kernel
theorem dX6_least_54 : decode cX6_least 54 = .ok (.aload_n 0, 1) := by decide +kernel
theorem dX6_least_55 : decode cX6_least 55 = .ok (.aload_n 0, 1) := by decide +kernel
theorem dX6_least_56 : decode cX6_least 56 = .ok (.invokevirtual 81, 3) := by decide +kernel
theorem dX6_least_59 : decode cX6_least 59 = .ok (.invokevirtual 167, 3) := by decide +kernel
theorem dX6_least_62 : decode cX6_least 62 = .ok (.aload_n 0, 1) := by decide +kernel
theorem dX6_least_63 : decode cX6_least 63 = .ok (.invokevirtual 159, 3) := by decide +kernel
theorem dX6_least_66 : decode cX6_least 66 = .ok (.ldc2_w 171, 3) := by decide +kernel
theorem dX6_least_69 : decode cX6_least 69 = .ok (.lcmp, 1) := by decide +kernel
theorem dX6_least_70 : decode cX6_least 70 = .ok (.ifCond .le 8, 3) := by decide +kernel
theorem dX6_least_73 : decode cX6_least 73 = .ok (.aload_n 0, 1) := by decide +kernel
theorem dX6_least_74 : decode cX6_least 74 = .ok (.invokevirtual 105, 3) := by decide +kernel
theorem dX6_least_77 : decode cX6_least 77 = .ok (.ireturn, 1) := by decide +kernel
theorem dX6_least_78 : decode cX6_least 78 = .ok (.aload_n 0, 1) := by decide +kernel
theorem dX6_least_79 : decode cX6_least 79 = .ok (.aload_n 0, 1) := by decide +kernel
theorem dX6_least_80 : decode cX6_least 80 = .ok (.invokevirtual 81, 3) := by decide +kernel
theorem dX6_least_83 : decode cX6_least 83 = .ok (.invokevirtual 173, 3) := by decide +kernel
theorem dX6_least_86 : decode cX6_least 86 = .ok (.istore 4, 2) := by decide +kernel
theorem dX6_least_88 : decode cX6_least 88 = .ok (.iload_n 1, 1) := by decide +kernel
theorem dX6_least_89 : decode cX6_least 89 = .ok (.iconst (-1), 1) := by decide +kernel
theorem dX6_least_90 : decode cX6_least 90 = .ok (.if_icmp .ne 7, 3) := by decide +kernel
theorem dX6_least_93 : decode cX6_least 93 = .ok (.iconst (-1), 1) := by decide +kernel
theorem dX6_least_94 : decode cX6_least 94 = .ok (.goto 13, 3) := by decide +kernel
theorem dX6_least_97 : decode cX6_least 97 = .ok (.aload_n 0, 1) := by decide +kernel
theorem dX6_least_98 : decode cX6_least 98 = .ok (.getfield 48, 3) := by decide +kernel
theorem dX6_least_101 : decode cX6_least 101 = .ok (.iconst 5, 1) := by decide +kernel
theorem dX6_least_102 : decode cX6_least 102 = .ok (.iload_n 1, 1) := by decide +kernel
theorem dX6_least_103 : decode cX6_least 103 = .ok (.imul, 1) := by decide +kernel
theorem dX6_least_104 : decode cX6_least 104 = .ok (.iload_n 2, 1) := by decide +kernel
theorem dX6_least_105 : decode cX6_least 105 = .ok (.iadd, 1) := by decide +kernel
theorem dX6_least_106 : decode cX6_least 106 = .ok (.iaload, 1) := by decide +kernel
theorem dX6_least_107 : decode cX6_least 107 = .ok (.istore 5, 2) := by decide +kernel
theorem dX6_least_109 : decode cX6_least 109 = .ok (.iload_n 1, 1) := by decide +kernel
theorem dX6_least_110 : decode cX6_least 110 = .ok (.iconst (-1), 1) := by decide +kernel
theorem dX6_least_111 : decode cX6_least 111 = .ok (.if_icmp .ne 8, 3) := by decide +kernel
theorem dX6_least_114 : decode cX6_least 114 = .ok (.iload 4, 2) := by decide +kernel
theorem dX6_least_116 : decode cX6_least 116 = .ok (.goto 16, 3) := by decide +kernel
theorem dX6_least_119 : decode cX6_least 119 = .ok (.iload 5, 2) := by decide +kernel
theorem dX6_least_121 : decode cX6_least 121 = .ok (.iconst (-1), 1) := by decide +kernel
theorem dX6_least_122 : decode cX6_least 122 = .ok (.if_icmp .ne 8, 3) := by decide +kernel
theorem dX6_least_125 : decode cX6_least 125 = .ok (.bipush 9, 2) := by decide +kernel
theorem dX6_least_127 : decode cX6_least 127 = .ok (.goto 5, 3) := by decide +kernel
theorem dX6_least_130 : decode cX6_least 130 = .ok (.iload 5, 2) := by decide +kernel
theorem dX6_least_132 : decode cX6_least 132 = .ok (.ireturn, 1) := by decide +kernel
theorem dX6_fewest_0 : decode cX6_fewest 0 = .ok (.aload_n 0, 1) := by decide +kernel
theorem dX6_fewest_1 : decode cX6_fewest 1 = .ok (.invokevirtual 119, 3) := by decide +kernel
theorem dX6_fewest_4 : decode cX6_fewest 4 = .ok (.iconst 1, 1) := by decide +kernel
theorem dX6_fewest_5 : decode cX6_fewest 5 = .ok (.istore_n 1, 1) := by decide +kernel
theorem dX6_fewest_6 : decode cX6_fewest 6 = .ok (.iload_n 1, 1) := by decide +kernel
theorem dX6_fewest_7 : decode cX6_fewest 7 = .ok (.iconst 5, 1) := by decide +kernel
theorem dX6_fewest_8 : decode cX6_fewest 8 = .ok (.if_icmp .gt 40, 3) := by decide +kernel
theorem dX6_fewest_11 : decode cX6_fewest 11 = .ok (.aload_n 0, 1) := by decide +kernel
theorem dX6_fewest_12 : decode cX6_fewest 12 = .ok (.iload_n 1, 1) := by decide +kernel
theorem dX6_fewest_13 : decode cX6_fewest 13 = .ok (.invokevirtual 167, 3) := by decide +kernel
theorem dX6_fewest_16 : decode cX6_fewest 16 = .ok (.aload_n 0, 1) := by decide +kernel
theorem dX6_fewest_17 : decode cX6_fewest 17 = .ok (.invokevirtual 159, 3) := by decide +kernel
theorem dX6_fewest_20 : decode cX6_fewest 20 = .ok (.ldc2_w 171, 3) := by decide +kernel
theorem dX6_fewest_23 : decode cX6_fewest 23 = .ok (.lcmp, 1) := by decide +kernel
theorem dX6_fewest_24 : decode cX6_fewest 24 = .ok (.ifCond .le 8, 3) := by decide +kernel
theorem dX6_fewest_27 : decode cX6_fewest 27 = .ok (.aload_n 0, 1) := by decide +kernel
theorem dX6_fewest_28 : decode cX6_fewest 28 = .ok (.invokevirtual 105, 3) := by decide +kernel
theorem dX6_fewest_31 : decode cX6_fewest 31 = .ok (.ireturn, 1) := by decide +kernel
theorem dX6_fewest_32 : decode cX6_fewest 32 = .ok (.aload_n 0, 1) := by decide +kernel
theorem dX6_fewest_33 : decode cX6_fewest 33 = .ok (.iload_n 1, 1) := by decide +kernel
theorem dX6_fewest_34 : decode cX6_fewest 34 = .ok (.invokevirtual 173, 3) := by decide +kernel
theorem dX6_fewest_37 : decode cX6_fewest 37 = .ok (.ifCond .ne 5, 3) := by decide +kernel
theorem dX6_fewest_40 : decode cX6_fewest 40 = .ok (.iload_n 1, 1) := by decide +kernel
theorem dX6_fewest_41 : decode cX6_fewest 41 = .ok (.ireturn, 1) := by decide +kernel
theorem dX6_fewest_42 : decode cX6_fewest 42 = .ok (.iinc 1 1, 3) := by decide +kernel
theorem dX6_fewest_45 : decode cX6_fewest 45 = .ok (.goto (-39), 3) := by decide +kernel
theorem dX6_fewest_48 : decode cX6_fewest 48 = .ok (.iconst (-1), 1) := by decide +kernel
theorem dX6_fewest_49 : decode cX6_fewest 49 = .ok (.ireturn, 1) := by decide +kernel
theorem dX6_takeBest_0 : decode cX6_takeBest 0 = .ok (.iconst 0, 1) := by decide +kernel
theorem dX6_takeBest_1 : decode cX6_takeBest 1 = .ok (.istore_n 2, 1) := by decide +kernel
theorem dX6_takeBest_2 : decode cX6_takeBest 2 = .ok (.ldc 158, 2) := by decide +kernel
theorem dX6_takeBest_4 : decode cX6_takeBest 4 = .ok (.istore_n 3, 1) := by decide +kernel
theorem dX6_takeBest_5 : decode cX6_takeBest 5 = .ok (.iconst 0, 1) := by decide +kernel
theorem dX6_takeBest_6 : decode cX6_takeBest 6 = .ok (.istore 4, 2) := by decide +kernel
theorem dX6_takeBest_8 : decode cX6_takeBest 8 = .ok (.iload 4, 2) := by decide +kernel
theorem dX6_takeBest_10 : decode cX6_takeBest 10 = .ok (.aload_n 0, 1) := by decide +kernel
theorem dX6_takeBest_11 : decode cX6_takeBest 11 = .ok (.getfield 39, 3) := by decide +kernel
theorem dX6_takeBest_14 : decode cX6_takeBest 14 = .ok (.iload_n 1, 1) := by decide +kernel
theorem dX6_takeBest_15 : decode cX6_takeBest 15 = .ok (.iaload, 1) := by decide +kernel
theorem dX6_takeBest_16 : decode cX6_takeBest 16 = .ok (.if_icmp .ge 57, 3) := by decide +kernel
theorem dX6_takeBest_19 : decode cX6_takeBest 19 = .ok (.aload_n 0, 1) := by decide +kernel
theorem dX6_takeBest_20 : decode cX6_takeBest 20 = .ok (.iload_n 1, 1) := by decide +kernel
theorem dX6_takeBest_21 : decode cX6_takeBest 21 = .ok (.iload 4, 2) := by decide +kernel
theorem dX6_takeBest_23 : decode cX6_takeBest 23 = .ok (.aload_n 0, 1) := by decide +kernel
theorem dX6_takeBest_24 : decode cX6_takeBest 24 = .ok (.invokevirtual 81, 3) := by decide +kernel
theorem dX6_takeBest_27 : decode cX6_takeBest 27 = .ok (.invokevirtual 163, 3) := by decide +kernel
theorem dX6_takeBest_30 : decode cX6_takeBest 30 = .ok (.aload_n 0, 1) := by decide +kernel
theorem dX6_takeBest_31 : decode cX6_takeBest 31 = .ok (.iload_n 1, 1) := by decide +kernel
theorem dX6_takeBest_32 : decode cX6_takeBest 32 = .ok (.aload_n 0, 1) := by decide +kernel
theorem dX6_takeBest_33 : decode cX6_takeBest 33 = .ok (.invokevirtual 81, 3) := by decide +kernel
theorem dX6_takeBest_36 : decode cX6_takeBest 36 = .ok (.invokevirtual 137, 3) := by decide +kernel
theorem dX6_takeBest_39 : decode cX6_takeBest 39 = .ok (.istore 5, 2) := by decide +kernel
theorem dX6_takeBest_41 : decode cX6_takeBest 41 = .ok (.iload 5, 2) := by decide +kernel
theorem dX6_takeBest_43 : decode cX6_takeBest 43 = .ok (.iload_n 3, 1) := by decide +kernel
theorem dX6_takeBest_44 : decode cX6_takeBest 44 = .ok (.if_icmp .ge 8, 3) := by decide +kernel
theorem dX6_takeBest_47 : decode cX6_takeBest 47 = .ok (.iload 4, 2) := by decide +kernel
theorem dX6_takeBest_49 : decode cX6_takeBest 49 = .ok (.goto 4, 3) := by decide +kernel
theorem dX6_takeBest_52 : decode cX6_takeBest 52 = .ok (.iload_n 2, 1) := by decide +kernel
theorem dX6_takeBest_53 : decode cX6_takeBest 53 = .ok (.istore_n 2, 1) := by decide +kernel
theorem dX6_takeBest_54 : decode cX6_takeBest 54 = .ok (.iload 5, 2) := by decide +kernel
theorem dX6_takeBest_56 : decode cX6_takeBest 56 = .ok (.iload_n 3, 1) := by decide +kernel
theorem dX6_takeBest_57 : decode cX6_takeBest 57 = .ok (.if_icmp .ge 8, 3) := by decide +kernel
theorem dX6_takeBest_60 : decode cX6_takeBest 60 = .ok (.iload 5, 2) := by decide +kernel
theorem dX6_takeBest_62 : decode cX6_takeBest 62 = .ok (.goto 4, 3) := by decide +kernel
theorem dX6_takeBest_65 : decode cX6_takeBest 65 = .ok (.iload_n 3, 1) := by decide +kernel
theorem dX6_takeBest_66 : decode cX6_takeBest 66 = .ok (.istore_n 3, 1) := by decide +kernel
theorem dX6_takeBest_67 : decode cX6_takeBest 67 = .ok (.iinc 4 1, 3) := by decide +kernel
theorem dX6_takeBest_70 : decode cX6_takeBest 70 = .ok (.goto (-62), 3) := by decide +kernel
theorem dX6_takeBest_73 : decode cX6_takeBest 73 = .ok (.aload_n 0, 1) := by decide +kernel
theorem dX6_takeBest_74 : decode cX6_takeBest 74 = .ok (.iload_n 1, 1) := by decide +kernel
theorem dX6_takeBest_75 : decode cX6_takeBest 75 = .ok (.iload_n 2, 1) := by decide +kernel
theorem dX6_takeBest_76 : decode cX6_takeBest 76 = .ok (.aload_n 0, 1) := by decide +kernel
theorem dX6_takeBest_77 : decode cX6_takeBest 77 = .ok (.invokevirtual 81, 3) := by decide +kernel
theorem dX6_takeBest_80 : decode cX6_takeBest 80 = .ok (.invokevirtual 163, 3) := by decide +kernel
theorem dX6_takeBest_83 : decode cX6_takeBest 83 = .ok (.iload_n 3, 1) := by decide +kernel
theorem dX6_takeBest_84 : decode cX6_takeBest 84 = .ok (.ireturn, 1) := by decide +kernel
theorem dX6_layOrder_0 : decode cX6_layOrder 0 = .ok (.iload_n 1, 1) := by decide +kernel
theorem dX6_layOrder_1 : decode cX6_layOrder 1 = .ok (.istore_n 2, 1) := by decide +kernel
theorem dX6_layOrder_2 : decode cX6_layOrder 2 = .ok (.iconst 1, 1) := by decide +kernel
theorem dX6_layOrder_3 : decode cX6_layOrder 3 = .ok (.istore_n 3, 1) := by decide +kernel
theorem dX6_layOrder_4 : decode cX6_layOrder 4 = .ok (.aload_n 0, 1) := by decide +kernel
theorem dX6_layOrder_5 : decode cX6_layOrder 5 = .ok (.invokevirtual 78, 3) := by decide +kernel
theorem dX6_layOrder_8 : decode cX6_layOrder 8 = .ok (.iconst 1, 1) := by decide +kernel
theorem dX6_layOrder_9 : decode cX6_layOrder 9 = .ok (.isub, 1) := by decide +kernel
theorem dX6_layOrder_10 : decode cX6_layOrder 10 = .ok (.istore 4, 2) := by decide +kernel
theorem dX6_layOrder_12 : decode cX6_layOrder 12 = .ok (.iload 4, 2) := by decide +kernel
theorem dX6_layOrder_14 : decode cX6_layOrder 14 = .ok (.ifCond .lt 77, 3) := by decide +kernel
theorem dX6_layOrder_17 : decode cX6_layOrder 17 = .ok (.aload_n 0, 1) := by decide +kernel
theorem dX6_layOrder_18 : decode cX6_layOrder 18 = .ok (.getfield 51, 3) := by decide +kernel
theorem dX6_layOrder_21 : decode cX6_layOrder 21 = .ok (.iload 4, 2) := by decide +kernel
theorem dX6_layOrder_23 : decode cX6_layOrder 23 = .ok (.iload_n 2, 1) := by decide +kernel
theorem dX6_layOrder_24 : decode cX6_layOrder 24 = .ok (.aload_n 0, 1) := by decide +kernel
theorem dX6_layOrder_25 : decode cX6_layOrder 25 = .ok (.invokevirtual 78, 3) := by decide +kernel
theorem dX6_layOrder_28 : decode cX6_layOrder 28 = .ok (.irem, 1) := by decide +kernel
theorem dX6_layOrder_29 : decode cX6_layOrder 29 = .ok (.iastore, 1) := by decide +kernel
theorem dX6_layOrder_30 : decode cX6_layOrder 30 = .ok (.iload_n 2, 1) := by decide +kernel
theorem dX6_layOrder_31 : decode cX6_layOrder 31 = .ok (.aload_n 0, 1) := by decide +kernel
theorem dX6_layOrder_32 : decode cX6_layOrder 32 = .ok (.invokevirtual 78, 3) := by decide +kernel
theorem dX6_layOrder_35 : decode cX6_layOrder 35 = .ok (.idiv, 1) := by decide +kernel
theorem dX6_layOrder_36 : decode cX6_layOrder 36 = .ok (.istore_n 2, 1) := by decide +kernel
theorem dX6_layOrder_37 : decode cX6_layOrder 37 = .ok (.iload 4, 2) := by decide +kernel
theorem dX6_layOrder_39 : decode cX6_layOrder 39 = .ok (.iconst 1, 1) := by decide +kernel
theorem dX6_layOrder_40 : decode cX6_layOrder 40 = .ok (.iadd, 1) := by decide +kernel
theorem dX6_layOrder_41 : decode cX6_layOrder 41 = .ok (.istore 5, 2) := by decide +kernel
theorem dX6_layOrder_43 : decode cX6_layOrder 43 = .ok (.iload 5, 2) := by decide +kernel
theorem dX6_layOrder_45 : decode cX6_layOrder 45 = .ok (.aload_n 0, 1) := by decide +kernel
theorem dX6_layOrder_46 : decode cX6_layOrder 46 = .ok (.invokevirtual 78, 3) := by decide +kernel
theorem dX6_layOrder_49 : decode cX6_layOrder 49 = .ok (.if_icmp .ge 36, 3) := by decide +kernel
theorem dX6_layOrder_52 : decode cX6_layOrder 52 = .ok (.iload_n 3, 1) := by decide +kernel
theorem dX6_layOrder_53 : decode cX6_layOrder 53 = .ok (.ifCond .eq 24, 3) := by decide +kernel
theorem dX6_layOrder_56 : decode cX6_layOrder 56 = .ok (.aload_n 0, 1) := by decide +kernel
theorem dX6_layOrder_57 : decode cX6_layOrder 57 = .ok (.getfield 51, 3) := by decide +kernel
theorem dX6_layOrder_60 : decode cX6_layOrder 60 = .ok (.iload 5, 2) := by decide +kernel
theorem dX6_layOrder_62 : decode cX6_layOrder 62 = .ok (.iaload, 1) := by decide +kernel
theorem dX6_layOrder_63 : decode cX6_layOrder 63 = .ok (.aload_n 0, 1) := by decide +kernel
theorem dX6_layOrder_64 : decode cX6_layOrder 64 = .ok (.getfield 51, 3) := by decide +kernel
theorem dX6_layOrder_67 : decode cX6_layOrder 67 = .ok (.iload 4, 2) := by decide +kernel
theorem dX6_layOrder_69 : decode cX6_layOrder 69 = .ok (.iaload, 1) := by decide +kernel
theorem dX6_layOrder_70 : decode cX6_layOrder 70 = .ok (.if_icmp .eq 7, 3) := by decide +kernel
theorem dX6_layOrder_73 : decode cX6_layOrder 73 = .ok (.iconst 1, 1) := by decide +kernel
theorem dX6_layOrder_74 : decode cX6_layOrder 74 = .ok (.goto 4, 3) := by decide +kernel
theorem dX6_layOrder_77 : decode cX6_layOrder 77 = .ok (.iconst 0, 1) := by decide +kernel
theorem dX6_layOrder_78 : decode cX6_layOrder 78 = .ok (.istore_n 3, 1) := by decide +kernel
theorem dX6_layOrder_79 : decode cX6_layOrder 79 = .ok (.iinc 5 1, 3) := by decide +kernel
theorem dX6_layOrder_82 : decode cX6_layOrder 82 = .ok (.goto (-39), 3) := by decide +kernel
theorem dX6_layOrder_85 : decode cX6_layOrder 85 = .ok (.iinc 4 (-1), 3) := by decide +kernel
theorem dX6_layOrder_88 : decode cX6_layOrder 88 = .ok (.goto (-76), 3) := by decide +kernel
theorem dX6_layOrder_91 : decode cX6_layOrder 91 = .ok (.iload_n 3, 1) := by decide +kernel
theorem dX6_layOrder_92 : decode cX6_layOrder 92 = .ok (.ireturn, 1) := by decide +kernel
theorem dX6_listed_0 : decode cX6_listed 0 = .ok (.aload_n 0, 1) := by decide +kernel
theorem dX6_listed_1 : decode cX6_listed 1 = .ok (.invokevirtual 155, 3) := by decide +kernel
theorem dX6_listed_4 : decode cX6_listed 4 = .ok (.iconst 0, 1) := by decide +kernel
theorem dX6_listed_5 : decode cX6_listed 5 = .ok (.istore_n 1, 1) := by decide +kernel
theorem dX6_listed_6 : decode cX6_listed 6 = .ok (.iload_n 1, 1) := by decide +kernel
theorem dX6_listed_7 : decode cX6_listed 7 = .ok (.aload_n 0, 1) := by decide +kernel
theorem dX6_listed_8 : decode cX6_listed 8 = .ok (.invokevirtual 78, 3) := by decide +kernel
theorem dX6_listed_11 : decode cX6_listed 11 = .ok (.if_icmp .ge 20, 3) := by decide +kernel
theorem dX6_listed_14 : decode cX6_listed 14 = .ok (.aload_n 0, 1) := by decide +kernel
theorem dX6_listed_15 : decode cX6_listed 15 = .ok (.aload_n 0, 1) := by decide +kernel
theorem dX6_listed_16 : decode cX6_listed 16 = .ok (.getfield 51, 3) := by decide +kernel
theorem dX6_listed_19 : decode cX6_listed 19 = .ok (.iload_n 1, 1) := by decide +kernel
theorem dX6_listed_20 : decode cX6_listed 20 = .ok (.iaload, 1) := by decide +kernel
theorem dX6_listed_21 : decode cX6_listed 21 = .ok (.invokevirtual 176, 3) := by decide +kernel
theorem dX6_listed_24 : decode cX6_listed 24 = .ok (.istore_n 2, 1) := by decide +kernel
theorem dX6_listed_25 : decode cX6_listed 25 = .ok (.iinc 1 1, 3) := by decide +kernel
theorem dX6_listed_28 : decode cX6_listed 28 = .ok (.goto (-22), 3) := by decide +kernel
theorem dX6_listed_31 : decode cX6_listed 31 = .ok (.aload_n 0, 1) := by decide +kernel
theorem dX6_listed_32 : decode cX6_listed 32 = .ok (.aload_n 0, 1) := by decide +kernel
theorem dX6_listed_33 : decode cX6_listed 33 = .ok (.invokevirtual 81, 3) := by decide +kernel
theorem dX6_listed_36 : decode cX6_listed 36 = .ok (.invokevirtual 143, 3) := by decide +kernel
theorem dX6_listed_39 : decode cX6_listed 39 = .ok (.ireturn, 1) := by decide +kernel
theorem dX6_list_0 : decode cX6_list 0 = .ok (.iload_n 1, 1) := by decide +kernel
theorem dX6_list_1 : decode cX6_list 1 = .ok (.i2l, 1) := by decide +kernel
theorem dX6_list_2 : decode cX6_list 2 = .ok (.lconst 0, 1) := by decide +kernel
theorem dX6_list_3 : decode cX6_list 3 = .ok (.lconst 1, 1) := by decide +kernel
theorem dX6_list_4 : decode cX6_list 4 = .ok (.invokestatic 74, 3) := by decide +kernel
theorem dX6_list_7 : decode cX6_list 7 = .ok (.ifCond .ne 10, 3) := by decide +kernel
theorem dX6_list_10 : decode cX6_list 10 = .ok (.aload_n 0, 1) := by decide +kernel
theorem dX6_list_11 : decode cX6_list 11 = .ok (.bipush (-2), 2) := by decide +kernel
theorem dX6_list_13 : decode cX6_list 13 = .ok (.invokevirtual 88, 3) := by decide +kernel
theorem dX6_list_16 : decode cX6_list 16 = .ok (.ireturn, 1) := by decide +kernel
theorem dX6_list_17 : decode cX6_list 17 = .ok (.aload_n 0, 1) := by decide +kernel
theorem dX6_list_18 : decode cX6_list 18 = .ok (.invokevirtual 119, 3) := by decide +kernel
theorem dX6_list_21 : decode cX6_list 21 = .ok (.aload_n 0, 1) := by decide +kernel
theorem dX6_list_22 : decode cX6_list 22 = .ok (.aload_n 0, 1) := by decide +kernel
theorem dX6_list_23 : decode cX6_list 23 = .ok (.invokevirtual 81, 3) := by decide +kernel
theorem dX6_list_26 : decode cX6_list 26 = .ok (.invokevirtual 167, 3) := by decide +kernel
theorem dX6_list_29 : decode cX6_list 29 = .ok (.iconst 1, 1) := by decide +kernel
theorem dX6_list_30 : decode cX6_list 30 = .ok (.istore_n 2, 1) := by decide +kernel
theorem dX6_list_31 : decode cX6_list 31 = .ok (.iconst 0, 1) := by decide +kernel
theorem dX6_list_32 : decode cX6_list 32 = .ok (.istore_n 3, 1) := by decide +kernel
theorem dX6_list_33 : decode cX6_list 33 = .ok (.iload_n 3, 1) := by decide +kernel
theorem dX6_list_34 : decode cX6_list 34 = .ok (.aload_n 0, 1) := by decide +kernel
theorem dX6_list_35 : decode cX6_list 35 = .ok (.invokevirtual 78, 3) := by decide +kernel
theorem dX6_list_38 : decode cX6_list 38 = .ok (.if_icmp .ge 16, 3) := by decide +kernel
theorem dX6_list_41 : decode cX6_list 41 = .ok (.iload_n 2, 1) := by decide +kernel
theorem dX6_list_42 : decode cX6_list 42 = .ok (.aload_n 0, 1) := by decide +kernel
theorem dX6_list_43 : decode cX6_list 43 = .ok (.invokevirtual 78, 3) := by decide +kernel
theorem dX6_list_46 : decode cX6_list 46 = .ok (.imul, 1) := by decide +kernel
theorem dX6_list_47 : decode cX6_list 47 = .ok (.istore_n 2, 1) := by decide +kernel
theorem dX6_list_48 : decode cX6_list 48 = .ok (.iinc 3 1, 3) := by decide +kernel
theorem dX6_list_51 : decode cX6_list 51 = .ok (.goto (-18), 3) := by decide +kernel
theorem dX6_list_54 : decode cX6_list 54 = .ok (.iconst (-1), 1) := by decide +kernel
theorem dX6_list_55 : decode cX6_list 55 = .ok (.istore_n 3, 1) := by decide +kernel
theorem dX6_list_56 : decode cX6_list 56 = .ok (.iconst (-1), 1) := by decide +kernel
theorem dX6_list_57 : decode cX6_list 57 = .ok (.istore 4, 2) := by decide +kernel
theorem dX6_list_59 : decode cX6_list 59 = .ok (.iconst 0, 1) := by decide +kernel
theorem dX6_list_60 : decode cX6_list 60 = .ok (.istore 5, 2) := by decide +kernel
theorem dX6_list_62 : decode cX6_list 62 = .ok (.iload 5, 2) := by decide +kernel
theorem dX6_list_64 : decode cX6_list 64 = .ok (.iload_n 2, 1) := by decide +kernel
theorem dX6_list_65 : decode cX6_list 65 = .ok (.if_icmp .ge 62, 3) := by decide +kernel
theorem dX6_list_68 : decode cX6_list 68 = .ok (.aload_n 0, 1) := by decide +kernel
theorem dX6_list_69 : decode cX6_list 69 = .ok (.iload 5, 2) := by decide +kernel
theorem dX6_list_71 : decode cX6_list 71 = .ok (.invokevirtual 179, 3) := by decide +kernel
theorem dX6_list_74 : decode cX6_list 74 = .ok (.ifCond .eq 47, 3) := by decide +kernel
theorem dX6_list_77 : decode cX6_list 77 = .ok (.iload_n 3, 1) := by decide +kernel
theorem dX6_list_78 : decode cX6_list 78 = .ok (.iconst (-1), 1) := by decide +kernel
theorem dX6_list_79 : decode cX6_list 79 = .ok (.if_icmp .eq 8, 3) := by decide +kernel
theorem dX6_list_82 : decode cX6_list 82 = .ok (.iload_n 1, 1) := by decide +kernel
theorem dX6_list_83 : decode cX6_list 83 = .ok (.iconst 1, 1) := by decide +kernel
theorem dX6_list_84 : decode cX6_list 84 = .ok (.if_icmp .ne 37, 3) := by decide +kernel
theorem dX6_list_87 : decode cX6_list 87 = .ok (.aload_n 0, 1) := by decide +kernel
theorem dX6_list_88 : decode cX6_list 88 = .ok (.invokevirtual 182, 3) := by decide +kernel
theorem dX6_list_91 : decode cX6_list 91 = .ok (.istore 6, 2) := by decide +kernel
theorem dX6_list_93 : decode cX6_list 93 = .ok (.iload_n 3, 1) := by decide +kernel
theorem dX6_list_94 : decode cX6_list 94 = .ok (.iconst (-1), 1) := by decide +kernel
theorem dX6_list_95 : decode cX6_list 95 = .ok (.if_icmp .ne 8, 3) := by decide +kernel
theorem dX6_list_98 : decode cX6_list 98 = .ok (.iload 6, 2) := by decide +kernel
theorem dX6_list_100 : decode cX6_list 100 = .ok (.goto 4, 3) := by decide +kernel
theorem dX6_list_103 : decode cX6_list 103 = .ok (.iload_n 3, 1) := by decide +kernel
theorem dX6_list_104 : decode cX6_list 104 = .ok (.istore_n 3, 1) := by decide +kernel
theorem dX6_list_105 : decode cX6_list 105 = .ok (.iload 6, 2) := by decide +kernel
theorem dX6_list_107 : decode cX6_list 107 = .ok (.iload 4, 2) := by decide +kernel
theorem dX6_list_109 : decode cX6_list 109 = .ok (.if_icmp .le 8, 3) := by decide +kernel
theorem dX6_list_112 : decode cX6_list 112 = .ok (.iload 6, 2) := by decide +kernel
theorem dX6_list_114 : decode cX6_list 114 = .ok (.goto 5, 3) := by decide +kernel
theorem dX6_list_117 : decode cX6_list 117 = .ok (.iload 4, 2) := by decide +kernel
theorem dX6_list_119 : decode cX6_list 119 = .ok (.istore 4, 2) := by decide +kernel
theorem dX6_list_121 : decode cX6_list 121 = .ok (.iinc 5 1, 3) := by decide +kernel
theorem dX6_list_124 : decode cX6_list 124 = .ok (.goto (-62), 3) := by decide +kernel
theorem dX6_list_127 : decode cX6_list 127 = .ok (.iload_n 1, 1) := by decide +kernel
theorem dX6_list_128 : decode cX6_list 128 = .ok (.ifCond .ne 7, 3) := by decide +kernel
theorem dX6_list_131 : decode cX6_list 131 = .ok (.iload_n 3, 1) := by decide +kernel
theorem dX6_list_132 : decode cX6_list 132 = .ok (.goto 5, 3) := by decide +kernel
theorem dX6_list_135 : decode cX6_list 135 = .ok (.iload 4, 2) := by decide +kernel
theorem dX6_list_137 : decode cX6_list 137 = .ok (.ireturn, 1) := by decide +kernel
theorem dX6_changes_0 : decode cX6_changes 0 = .ok (.aload_n 0, 1) := by decide +kernel
theorem dX6_changes_1 : decode cX6_changes 1 = .ok (.iload_n 1, 1) := by decide +kernel
theorem dX6_changes_2 : decode cX6_changes 2 = .ok (.aload_n 0, 1) := by decide +kernel
theorem dX6_changes_3 : decode cX6_changes 3 = .ok (.invokevirtual 81, 3) := by decide +kernel
theorem dX6_changes_6 : decode cX6_changes 6 = .ok (.invokevirtual 137, 3) := by decide +kernel
theorem dX6_changes_9 : decode cX6_changes 9 = .ok (.istore_n 2, 1) := by decide +kernel
theorem dX6_changes_10 : decode cX6_changes 10 = .ok (.iconst 0, 1) := by decide +kernel
theorem dX6_changes_11 : decode cX6_changes 11 = .ok (.istore_n 3, 1) := by decide +kernel
theorem dX6_changes_12 : decode cX6_changes 12 = .ok (.iload_n 3, 1) := by decide +kernel
theorem dX6_changes_13 : decode cX6_changes 13 = .ok (.iconst 5, 1) := by decide +kernel
theorem dX6_changes_14 : decode cX6_changes 14 = .ok (.if_icmp .ge 25, 3) := by decide +kernel
theorem dX6_changes_17 : decode cX6_changes 17 = .ok (.aload_n 0, 1) := by decide +kernel
theorem dX6_changes_18 : decode cX6_changes 18 = .ok (.getfield 54, 3) := by decide +kernel
theorem dX6_changes_21 : decode cX6_changes 21 = .ok (.iload_n 3, 1) := by decide +kernel
theorem dX6_changes_22 : decode cX6_changes 22 = .ok (.aload_n 0, 1) := by decide +kernel
theorem dX6_changes_23 : decode cX6_changes 23 = .ok (.getfield 33, 3) := by decide +kernel
theorem dX6_changes_26 : decode cX6_changes 26 = .ok (.iconst 5, 1) := by decide +kernel
theorem dX6_changes_27 : decode cX6_changes 27 = .ok (.iload_n 1, 1) := by decide +kernel
theorem dX6_changes_28 : decode cX6_changes 28 = .ok (.imul, 1) := by decide +kernel
theorem dX6_changes_29 : decode cX6_changes 29 = .ok (.iload_n 3, 1) := by decide +kernel
theorem dX6_changes_30 : decode cX6_changes 30 = .ok (.iadd, 1) := by decide +kernel
theorem dX6_changes_31 : decode cX6_changes 31 = .ok (.iaload, 1) := by decide +kernel
theorem dX6_changes_32 : decode cX6_changes 32 = .ok (.iastore, 1) := by decide +kernel
theorem dX6_changes_33 : decode cX6_changes 33 = .ok (.iinc 3 1, 3) := by decide +kernel
theorem dX6_changes_36 : decode cX6_changes 36 = .ok (.goto (-24), 3) := by decide +kernel
theorem dX6_changes_39 : decode cX6_changes 39 = .ok (.aload_n 0, 1) := by decide +kernel
theorem dX6_changes_40 : decode cX6_changes 40 = .ok (.iload_n 1, 1) := by decide +kernel
theorem dX6_changes_41 : decode cX6_changes 41 = .ok (.invokevirtual 176, 3) := by decide +kernel
theorem dX6_changes_44 : decode cX6_changes 44 = .ok (.iload_n 2, 1) := by decide +kernel
theorem dX6_changes_45 : decode cX6_changes 45 = .ok (.if_icmp .ge 5, 3) := by decide +kernel
theorem dX6_changes_48 : decode cX6_changes 48 = .ok (.iconst 1, 1) := by decide +kernel
theorem dX6_changes_49 : decode cX6_changes 49 = .ok (.ireturn, 1) := by decide +kernel
theorem dX6_changes_50 : decode cX6_changes 50 = .ok (.iconst 0, 1) := by decide +kernel
theorem dX6_changes_51 : decode cX6_changes 51 = .ok (.istore_n 3, 1) := by decide +kernel
theorem dX6_changes_52 : decode cX6_changes 52 = .ok (.iload_n 3, 1) := by decide +kernel
theorem dX6_changes_53 : decode cX6_changes 53 = .ok (.iconst 5, 1) := by decide +kernel
theorem dX6_changes_54 : decode cX6_changes 54 = .ok (.if_icmp .ge 25, 3) := by decide +kernel
theorem dX6_changes_57 : decode cX6_changes 57 = .ok (.aload_n 0, 1) := by decide +kernel
theorem dX6_changes_58 : decode cX6_changes 58 = .ok (.getfield 33, 3) := by decide +kernel
theorem dX6_changes_61 : decode cX6_changes 61 = .ok (.iconst 5, 1) := by decide +kernel
theorem dX6_changes_62 : decode cX6_changes 62 = .ok (.iload_n 1, 1) := by decide +kernel
theorem dX6_changes_63 : decode cX6_changes 63 = .ok (.imul, 1) := by decide +kernel
theorem dX6_changes_64 : decode cX6_changes 64 = .ok (.iload_n 3, 1) := by decide +kernel
theorem dX6_changes_65 : decode cX6_changes 65 = .ok (.iadd, 1) := by decide +kernel
theorem dX6_changes_66 : decode cX6_changes 66 = .ok (.aload_n 0, 1) := by decide +kernel
theorem dX6_changes_67 : decode cX6_changes 67 = .ok (.getfield 54, 3) := by decide +kernel
theorem dX6_changes_70 : decode cX6_changes 70 = .ok (.iload_n 3, 1) := by decide +kernel
theorem dX6_changes_71 : decode cX6_changes 71 = .ok (.iaload, 1) := by decide +kernel
theorem dX6_changes_72 : decode cX6_changes 72 = .ok (.iastore, 1) := by decide +kernel
theorem dX6_changes_73 : decode cX6_changes 73 = .ok (.iinc 3 1, 3) := by decide +kernel
theorem dX6_changes_76 : decode cX6_changes 76 = .ok (.goto (-24), 3) := by decide +kernel
theorem dX6_changes_79 : decode cX6_changes 79 = .ok (.iconst 0, 1) := by decide +kernel
theorem dX6_changes_80 : decode cX6_changes 80 = .ok (.ireturn, 1) := by decide +kernel
theorem dX6_rests_0 : decode cX6_rests 0 = .ok (.iload_n 1, 1) := by decide +kernel
theorem dX6_rests_1 : decode cX6_rests 1 = .ok (.i2l, 1) := by decide +kernel
theorem dX6_rests_2 : decode cX6_rests 2 = .ok (.lconst 0, 1) := by decide +kernel
theorem dX6_rests_3 : decode cX6_rests 3 = .ok (.lconst 1, 1) := by decide +kernel
theorem dX6_rests_4 : decode cX6_rests 4 = .ok (.invokestatic 74, 3) := by decide +kernel
theorem dX6_rests_7 : decode cX6_rests 7 = .ok (.ifCond .ne 10, 3) := by decide +kernel
theorem dX6_rests_10 : decode cX6_rests 10 = .ok (.aload_n 0, 1) := by decide +kernel
theorem dX6_rests_11 : decode cX6_rests 11 = .ok (.bipush (-10), 2) := by decide +kernel
theorem dX6_rests_13 : decode cX6_rests 13 = .ok (.invokevirtual 88, 3) := by decide +kernel
theorem dX6_rests_16 : decode cX6_rests 16 = .ok (.ireturn, 1) := by decide +kernel
theorem dX6_rests_17 : decode cX6_rests 17 = .ok (.aload_n 0, 1) := by decide +kernel
theorem dX6_rests_18 : decode cX6_rests 18 = .ok (.invokevirtual 119, 3) := by decide +kernel
theorem dX6_rests_21 : decode cX6_rests 21 = .ok (.aload_n 0, 1) := by decide +kernel
theorem dX6_rests_22 : decode cX6_rests 22 = .ok (.aload_n 0, 1) := by decide +kernel
theorem dX6_rests_23 : decode cX6_rests 23 = .ok (.invokevirtual 81, 3) := by decide +kernel
theorem dX6_rests_26 : decode cX6_rests 26 = .ok (.invokevirtual 167, 3) := by decide +kernel
theorem dX6_rests_29 : decode cX6_rests 29 = .ok (.aload_n 0, 1) := by decide +kernel
theorem dX6_rests_30 : decode cX6_rests 30 = .ok (.invokevirtual 140, 3) := by decide +kernel
theorem dX6_rests_33 : decode cX6_rests 33 = .ok (.iconst 0, 1) := by decide +kernel
theorem dX6_rests_34 : decode cX6_rests 34 = .ok (.istore_n 2, 1) := by decide +kernel
theorem dX6_rests_35 : decode cX6_rests 35 = .ok (.iload_n 2, 1) := by decide +kernel
theorem dX6_rests_36 : decode cX6_rests 36 = .ok (.bipush 20, 2) := by decide +kernel
theorem dX6_rests_38 : decode cX6_rests 38 = .ok (.if_icmp .gt 73, 3) := by decide +kernel
theorem dX6_rests_41 : decode cX6_rests 41 = .ok (.iconst 0, 1) := by decide +kernel
theorem dX6_rests_42 : decode cX6_rests 42 = .ok (.istore_n 3, 1) := by decide +kernel
theorem dX6_rests_43 : decode cX6_rests 43 = .ok (.iconst 0, 1) := by decide +kernel
theorem dX6_rests_44 : decode cX6_rests 44 = .ok (.istore 4, 2) := by decide +kernel
theorem dX6_rests_46 : decode cX6_rests 46 = .ok (.iload 4, 2) := by decide +kernel
theorem dX6_rests_48 : decode cX6_rests 48 = .ok (.aload_n 0, 1) := by decide +kernel
theorem dX6_rests_49 : decode cX6_rests 49 = .ok (.invokevirtual 78, 3) := by decide +kernel
theorem dX6_rests_52 : decode cX6_rests 52 = .ok (.if_icmp .ge 32, 3) := by decide +kernel
theorem dX6_rests_55 : decode cX6_rests 55 = .ok (.aload_n 0, 1) := by decide +kernel
theorem dX6_rests_56 : decode cX6_rests 56 = .ok (.iload 4, 2) := by decide +kernel
theorem dX6_rests_58 : decode cX6_rests 58 = .ok (.invokevirtual 185, 3) := by decide +kernel
theorem dX6_rests_61 : decode cX6_rests 61 = .ok (.istore 5, 2) := by decide +kernel
theorem dX6_rests_63 : decode cX6_rests 63 = .ok (.iload_n 3, 1) := by decide +kernel
theorem dX6_rests_64 : decode cX6_rests 64 = .ok (.ifCond .ne 8, 3) := by decide +kernel
theorem dX6_rests_67 : decode cX6_rests 67 = .ok (.iload 5, 2) := by decide +kernel
theorem dX6_rests_69 : decode cX6_rests 69 = .ok (.ifCond .eq 7, 3) := by decide +kernel
theorem dX6_rests_72 : decode cX6_rests 72 = .ok (.iconst 1, 1) := by decide +kernel
theorem dX6_rests_73 : decode cX6_rests 73 = .ok (.goto 4, 3) := by decide +kernel
theorem dX6_rests_76 : decode cX6_rests 76 = .ok (.iconst 0, 1) := by decide +kernel
theorem dX6_rests_77 : decode cX6_rests 77 = .ok (.istore_n 3, 1) := by decide +kernel
theorem dX6_rests_78 : decode cX6_rests 78 = .ok (.iinc 4 1, 3) := by decide +kernel
theorem dX6_rests_81 : decode cX6_rests 81 = .ok (.goto (-35), 3) := by decide +kernel
theorem dX6_rests_84 : decode cX6_rests 84 = .ok (.iload_n 3, 1) := by decide +kernel
theorem dX6_rests_85 : decode cX6_rests 85 = .ok (.ifCond .ne 20, 3) := by decide +kernel
theorem dX6_rests_88 : decode cX6_rests 88 = .ok (.iload_n 1, 1) := by decide +kernel
theorem dX6_rests_89 : decode cX6_rests 89 = .ok (.ifCond .ne 7, 3) := by decide +kernel
theorem dX6_rests_92 : decode cX6_rests 92 = .ok (.iload_n 2, 1) := by decide +kernel
theorem dX6_rests_93 : decode cX6_rests 93 = .ok (.goto 11, 3) := by decide +kernel
theorem dX6_rests_96 : decode cX6_rests 96 = .ok (.aload_n 0, 1) := by decide +kernel
theorem dX6_rests_97 : decode cX6_rests 97 = .ok (.aload_n 0, 1) := by decide +kernel
theorem dX6_rests_98 : decode cX6_rests 98 = .ok (.invokevirtual 81, 3) := by decide +kernel
theorem dX6_rests_101 : decode cX6_rests 101 = .ok (.invokevirtual 143, 3) := by decide +kernel
theorem dX6_rests_104 : decode cX6_rests 104 = .ok (.ireturn, 1) := by decide +kernel
theorem dX6_rests_105 : decode cX6_rests 105 = .ok (.iinc 2 1, 3) := by decide +kernel
theorem dX6_rests_108 : decode cX6_rests 108 = .ok (.goto (-73), 3) := by decide +kernel
theorem dX6_rests_111 : decode cX6_rests 111 = .ok (.iload_n 1, 1) := by decide +kernel
theorem dX6_rests_112 : decode cX6_rests 112 = .ok (.ifCond .ne 7, 3) := by decide +kernel
theorem dX6_rests_115 : decode cX6_rests 115 = .ok (.iconst (-1), 1) := by decide +kernel
theorem dX6_rests_116 : decode cX6_rests 116 = .ok (.goto 5, 3) := by decide +kernel
theorem dX6_rests_119 : decode cX6_rests 119 = .ok (.bipush (-5), 2) := by decide +kernel
theorem dX6_rests_121 : decode cX6_rests 121 = .ok (.ireturn, 1) := by decide +kernel
theorem dX6_better_0 : decode cX6_better 0 = .ok (.aload_n 0, 1) := by decide +kernel
theorem dX6_better_1 : decode cX6_better 1 = .ok (.iload_n 1, 1) := by decide +kernel
theorem dX6_better_2 : decode cX6_better 2 = .ok (.invokevirtual 102, 3) := by decide +kernel
theorem dX6_better_5 : decode cX6_better 5 = .ok (.ifCond .eq 11, 3) := by decide +kernel
theorem dX6_better_8 : decode cX6_better 8 = .ok (.aload_n 0, 1) := by decide +kernel
theorem dX6_better_9 : decode cX6_better 9 = .ok (.iload_n 2, 1) := by decide +kernel
theorem dX6_better_10 : decode cX6_better 10 = .ok (.invokevirtual 97, 3) := by decide +kernel
theorem dX6_better_13 : decode cX6_better 13 = .ok (.ifCond .ne 10, 3) := by decide +kernel
theorem dX6_better_16 : decode cX6_better 16 = .ok (.aload_n 0, 1) := by decide +kernel
theorem dX6_better_17 : decode cX6_better 17 = .ok (.bipush (-2), 2) := by decide +kernel
theorem dX6_better_19 : decode cX6_better 19 = .ok (.invokevirtual 88, 3) := by decide +kernel
theorem dX6_better_22 : decode cX6_better 22 = .ok (.ireturn, 1) := by decide +kernel
theorem dX6_better_23 : decode cX6_better 23 = .ok (.aload_n 0, 1) := by decide +kernel
theorem dX6_better_24 : decode cX6_better 24 = .ok (.invokevirtual 119, 3) := by decide +kernel
theorem dX6_better_27 : decode cX6_better 27 = .ok (.aload_n 0, 1) := by decide +kernel
theorem dX6_better_28 : decode cX6_better 28 = .ok (.invokevirtual 140, 3) := by decide +kernel
theorem dX6_better_31 : decode cX6_better 31 = .ok (.iconst (-1), 1) := by decide +kernel
theorem dX6_better_32 : decode cX6_better 32 = .ok (.istore_n 3, 1) := by decide +kernel
theorem dX6_better_33 : decode cX6_better 33 = .ok (.ldc 158, 2) := by decide +kernel
theorem dX6_better_35 : decode cX6_better 35 = .ok (.istore 4, 2) := by decide +kernel
theorem dX6_better_37 : decode cX6_better 37 = .ok (.iconst 0, 1) := by decide +kernel
theorem dX6_better_38 : decode cX6_better 38 = .ok (.istore 5, 2) := by decide +kernel
theorem dX6_better_40 : decode cX6_better 40 = .ok (.iload 5, 2) := by decide +kernel
theorem dX6_better_42 : decode cX6_better 42 = .ok (.aload_n 0, 1) := by decide +kernel
theorem dX6_better_43 : decode cX6_better 43 = .ok (.invokevirtual 70, 3) := by decide +kernel
theorem dX6_better_46 : decode cX6_better 46 = .ok (.if_icmp .ge 59, 3) := by decide +kernel
theorem dX6_better_49 : decode cX6_better 49 = .ok (.aload_n 0, 1) := by decide +kernel
theorem dX6_better_50 : decode cX6_better 50 = .ok (.getfield 33, 3) := by decide +kernel
theorem dX6_better_53 : decode cX6_better 53 = .ok (.iconst 5, 1) := by decide +kernel
theorem dX6_better_54 : decode cX6_better 54 = .ok (.iload_n 1, 1) := by decide +kernel
theorem dX6_better_55 : decode cX6_better 55 = .ok (.imul, 1) := by decide +kernel
theorem dX6_better_56 : decode cX6_better 56 = .ok (.iload_n 2, 1) := by decide +kernel
theorem dX6_better_57 : decode cX6_better 57 = .ok (.iadd, 1) := by decide +kernel
theorem dX6_better_58 : decode cX6_better 58 = .ok (.iload 5, 2) := by decide +kernel
theorem dX6_better_60 : decode cX6_better 60 = .ok (.iastore, 1) := by decide +kernel
theorem dX6_better_61 : decode cX6_better 61 = .ok (.aload_n 0, 1) := by decide +kernel
theorem dX6_better_62 : decode cX6_better 62 = .ok (.iload_n 1, 1) := by decide +kernel
theorem dX6_better_63 : decode cX6_better 63 = .ok (.iload_n 2, 1) := by decide +kernel
theorem dX6_better_64 : decode cX6_better 64 = .ok (.invokevirtual 134, 3) := by decide +kernel
theorem dX6_better_67 : decode cX6_better 67 = .ok (.istore 6, 2) := by decide +kernel
theorem dX6_better_69 : decode cX6_better 69 = .ok (.iload 6, 2) := by decide +kernel
theorem dX6_better_71 : decode cX6_better 71 = .ok (.iload 4, 2) := by decide +kernel
theorem dX6_better_73 : decode cX6_better 73 = .ok (.if_icmp .ge 8, 3) := by decide +kernel
theorem dX6_better_76 : decode cX6_better 76 = .ok (.iload 5, 2) := by decide +kernel
theorem dX6_better_78 : decode cX6_better 78 = .ok (.goto 4, 3) := by decide +kernel
theorem dX6_better_81 : decode cX6_better 81 = .ok (.iload_n 3, 1) := by decide +kernel
theorem dX6_better_82 : decode cX6_better 82 = .ok (.istore_n 3, 1) := by decide +kernel
theorem dX6_better_83 : decode cX6_better 83 = .ok (.iload 6, 2) := by decide +kernel
theorem dX6_better_85 : decode cX6_better 85 = .ok (.iload 4, 2) := by decide +kernel
theorem dX6_better_87 : decode cX6_better 87 = .ok (.if_icmp .ge 8, 3) := by decide +kernel
theorem dX6_better_90 : decode cX6_better 90 = .ok (.iload 6, 2) := by decide +kernel
theorem dX6_better_92 : decode cX6_better 92 = .ok (.goto 5, 3) := by decide +kernel
theorem dX6_better_95 : decode cX6_better 95 = .ok (.iload 4, 2) := by decide +kernel
theorem dX6_better_97 : decode cX6_better 97 = .ok (.istore 4, 2) := by decide +kernel
theorem dX6_better_99 : decode cX6_better 99 = .ok (.iinc 5 1, 3) := by decide +kernel
theorem dX6_better_102 : decode cX6_better 102 = .ok (.goto (-62), 3) := by decide +kernel
theorem dX6_better_105 : decode cX6_better 105 = .ok (.iload_n 3, 1) := by decide +kernel
theorem dX6_better_106 : decode cX6_better 106 = .ok (.ireturn, 1) := by decide +kernel
theorem dX6_name_0 : decode cX6_name 0 = .ok (.aload_n 0, 1) := by decide +kernel
theorem dX6_name_1 : decode cX6_name 1 = .ok (.iload_n 1, 1) := by decide +kernel
theorem dX6_name_2 : decode cX6_name 2 = .ok (.invokevirtual 84, 3) := by decide +kernel
theorem dX6_name_5 : decode cX6_name 5 = .ok (.ifCond .ne 11, 3) := by decide +kernel
theorem dX6_name_8 : decode cX6_name 8 = .ok (.aload_n 0, 1) := by decide +kernel
theorem dX6_name_9 : decode cX6_name 9 = .ok (.sipush (-1000), 3) := by decide +kernel
theorem dX6_name_12 : decode cX6_name 12 = .ok (.invokevirtual 88, 3) := by decide +kernel
theorem dX6_name_15 : decode cX6_name 15 = .ok (.ireturn, 1) := by decide +kernel
theorem dX6_name_16 : decode cX6_name 16 = .ok (.aload_n 0, 1) := by decide +kernel
theorem dX6_name_17 : decode cX6_name 17 = .ok (.invokevirtual 140, 3) := by decide +kernel
theorem dX6_name_20 : decode cX6_name 20 = .ok (.aload_n 0, 1) := by decide +kernel
theorem dX6_name_21 : decode cX6_name 21 = .ok (.invokevirtual 119, 3) := by decide +kernel
theorem dX6_name_24 : decode cX6_name 24 = .ok (.aload_n 0, 1) := by decide +kernel
theorem dX6_name_25 : decode cX6_name 25 = .ok (.aload_n 0, 1) := by decide +kernel
theorem dX6_name_26 : decode cX6_name 26 = .ok (.invokevirtual 81, 3) := by decide +kernel
theorem dX6_name_29 : decode cX6_name 29 = .ok (.invokevirtual 143, 3) := by decide +kernel
theorem dX6_name_32 : decode cX6_name 32 = .ok (.istore_n 2, 1) := by decide +kernel
theorem dX6_name_33 : decode cX6_name 33 = .ok (.aload_n 0, 1) := by decide +kernel
theorem dX6_name_34 : decode cX6_name 34 = .ok (.aload_n 0, 1) := by decide +kernel
theorem dX6_name_35 : decode cX6_name 35 = .ok (.getfield 7, 3) := by decide +kernel
theorem dX6_name_38 : decode cX6_name 38 = .ok (.bipush 12, 2) := by decide +kernel
theorem dX6_name_40 : decode cX6_name 40 = .ok (.iaload, 1) := by decide +kernel
theorem dX6_name_41 : decode cX6_name 41 = .ok (.iload_n 1, 1) := by decide +kernel
theorem dX6_name_42 : decode cX6_name 42 = .ok (.invokevirtual 115, 3) := by decide +kernel
theorem dX6_name_45 : decode cX6_name 45 = .ok (.iload_n 2, 1) := by decide +kernel
theorem dX6_name_46 : decode cX6_name 46 = .ok (.aload_n 0, 1) := by decide +kernel
theorem dX6_name_47 : decode cX6_name 47 = .ok (.aload_n 0, 1) := by decide +kernel
theorem dX6_name_48 : decode cX6_name 48 = .ok (.invokevirtual 81, 3) := by decide +kernel
theorem dX6_name_51 : decode cX6_name 51 = .ok (.invokevirtual 143, 3) := by decide +kernel
theorem dX6_name_54 : decode cX6_name 54 = .ok (.isub, 1) := by decide +kernel
theorem dX6_name_55 : decode cX6_name 55 = .ok (.ireturn, 1) := by decide +kernel
theorem dX6_line_0 : decode cX6_line 0 = .ok (.aload_n 0, 1) := by decide +kernel
theorem dX6_line_1 : decode cX6_line 1 = .ok (.iload_n 1, 1) := by decide +kernel
theorem dX6_line_2 : decode cX6_line 2 = .ok (.invokevirtual 102, 3) := by decide +kernel
theorem dX6_line_5 : decode cX6_line 5 = .ok (.ifCond .ne 10, 3) := by decide +kernel
theorem dX6_line_8 : decode cX6_line 8 = .ok (.aload_n 0, 1) := by decide +kernel
theorem dX6_line_9 : decode cX6_line 9 = .ok (.bipush (-2), 2) := by decide +kernel
theorem dX6_line_11 : decode cX6_line 11 = .ok (.invokevirtual 88, 3) := by decide +kernel
theorem dX6_line_14 : decode cX6_line 14 = .ok (.ireturn, 1) := by decide +kernel
theorem dX6_line_15 : decode cX6_line 15 = .ok (.aload_n 0, 1) := by decide +kernel
theorem dX6_line_16 : decode cX6_line 16 = .ok (.invokevirtual 140, 3) := by decide +kernel
theorem dX6_line_19 : decode cX6_line 19 = .ok (.iconst 0, 1) := by decide +kernel
theorem dX6_line_20 : decode cX6_line 20 = .ok (.istore_n 2, 1) := by decide +kernel
theorem dX6_line_21 : decode cX6_line 21 = .ok (.ldc 158, 2) := by decide +kernel
theorem dX6_line_23 : decode cX6_line 23 = .ok (.istore_n 3, 1) := by decide +kernel
theorem dX6_line_24 : decode cX6_line 24 = .ok (.iconst 0, 1) := by decide +kernel
theorem dX6_line_25 : decode cX6_line 25 = .ok (.istore 4, 2) := by decide +kernel
theorem dX6_line_27 : decode cX6_line 27 = .ok (.iload 4, 2) := by decide +kernel
theorem dX6_line_29 : decode cX6_line 29 = .ok (.iconst 5, 1) := by decide +kernel
theorem dX6_line_30 : decode cX6_line 30 = .ok (.if_icmp .ge 53, 3) := by decide +kernel
theorem dX6_line_33 : decode cX6_line 33 = .ok (.aload_n 0, 1) := by decide +kernel
theorem dX6_line_34 : decode cX6_line 34 = .ok (.iload 4, 2) := by decide +kernel
theorem dX6_line_36 : decode cX6_line 36 = .ok (.iconst (-1), 1) := by decide +kernel
theorem dX6_line_37 : decode cX6_line 37 = .ok (.invokevirtual 115, 3) := by decide +kernel
theorem dX6_line_40 : decode cX6_line 40 = .ok (.aload_n 0, 1) := by decide +kernel
theorem dX6_line_41 : decode cX6_line 41 = .ok (.iload_n 1, 1) := by decide +kernel
theorem dX6_line_42 : decode cX6_line 42 = .ok (.aload_n 0, 1) := by decide +kernel
theorem dX6_line_43 : decode cX6_line 43 = .ok (.invokevirtual 81, 3) := by decide +kernel
theorem dX6_line_46 : decode cX6_line 46 = .ok (.invokevirtual 137, 3) := by decide +kernel
theorem dX6_line_49 : decode cX6_line 49 = .ok (.istore 5, 2) := by decide +kernel
theorem dX6_line_51 : decode cX6_line 51 = .ok (.iload 5, 2) := by decide +kernel
theorem dX6_line_53 : decode cX6_line 53 = .ok (.iload_n 3, 1) := by decide +kernel
theorem dX6_line_54 : decode cX6_line 54 = .ok (.if_icmp .ge 8, 3) := by decide +kernel
theorem dX6_line_57 : decode cX6_line 57 = .ok (.iload 4, 2) := by decide +kernel
theorem dX6_line_59 : decode cX6_line 59 = .ok (.goto 4, 3) := by decide +kernel
theorem dX6_line_62 : decode cX6_line 62 = .ok (.iload_n 2, 1) := by decide +kernel
theorem dX6_line_63 : decode cX6_line 63 = .ok (.istore_n 2, 1) := by decide +kernel
theorem dX6_line_64 : decode cX6_line 64 = .ok (.iload 5, 2) := by decide +kernel
theorem dX6_line_66 : decode cX6_line 66 = .ok (.iload_n 3, 1) := by decide +kernel
theorem dX6_line_67 : decode cX6_line 67 = .ok (.if_icmp .ge 8, 3) := by decide +kernel
theorem dX6_line_70 : decode cX6_line 70 = .ok (.iload 5, 2) := by decide +kernel
theorem dX6_line_72 : decode cX6_line 72 = .ok (.goto 4, 3) := by decide +kernel
theorem dX6_line_75 : decode cX6_line 75 = .ok (.iload_n 3, 1) := by decide +kernel
theorem dX6_line_76 : decode cX6_line 76 = .ok (.istore_n 3, 1) := by decide +kernel
theorem dX6_line_77 : decode cX6_line 77 = .ok (.iinc 4 1, 3) := by decide +kernel
theorem dX6_line_80 : decode cX6_line 80 = .ok (.goto (-53), 3) := by decide +kernel
theorem dX6_line_83 : decode cX6_line 83 = .ok (.iload_n 2, 1) := by decide +kernel
theorem dX6_line_84 : decode cX6_line 84 = .ok (.ireturn, 1) := by decide +kernel
theorem dX6_choir_0 : decode cX6_choir 0 = .ok (.aload_n 0, 1) := by decide +kernel
theorem dX6_choir_1 : decode cX6_choir 1 = .ok (.iload_n 1, 1) := by decide +kernel
theorem dX6_choir_2 : decode cX6_choir 2 = .ok (.invokevirtual 84, 3) := by decide +kernel
theorem dX6_choir_5 : decode cX6_choir 5 = .ok (.ifCond .eq 17, 3) := by decide +kernel
theorem dX6_choir_8 : decode cX6_choir 8 = .ok (.iload_n 2, 1) := by decide +kernel
theorem dX6_choir_9 : decode cX6_choir 9 = .ok (.i2l, 1) := by decide +kernel
theorem dX6_choir_10 : decode cX6_choir 10 = .ok (.lconst 1, 1) := by decide +kernel
theorem dX6_choir_11 : decode cX6_choir 11 = .ok (.aload_n 0, 1) := by decide +kernel
theorem dX6_choir_12 : decode cX6_choir 12 = .ok (.invokevirtual 78, 3) := by decide +kernel
theorem dX6_choir_15 : decode cX6_choir 15 = .ok (.i2l, 1) := by decide +kernel
theorem dX6_choir_16 : decode cX6_choir 16 = .ok (.invokestatic 74, 3) := by decide +kernel
theorem dX6_choir_19 : decode cX6_choir 19 = .ok (.ifCond .ne 10, 3) := by decide +kernel
theorem dX6_choir_22 : decode cX6_choir 22 = .ok (.aload_n 0, 1) := by decide +kernel
theorem dX6_choir_23 : decode cX6_choir 23 = .ok (.bipush (-2), 2) := by decide +kernel
theorem dX6_choir_25 : decode cX6_choir 25 = .ok (.invokevirtual 88, 3) := by decide +kernel
theorem dX6_choir_28 : decode cX6_choir 28 = .ok (.ireturn, 1) := by decide +kernel
theorem dX6_choir_29 : decode cX6_choir 29 = .ok (.aload_n 0, 1) := by decide +kernel
theorem dX6_choir_30 : decode cX6_choir 30 = .ok (.invokevirtual 119, 3) := by decide +kernel
theorem dX6_choir_33 : decode cX6_choir 33 = .ok (.ldc 158, 2) := by decide +kernel
theorem dX6_choir_35 : decode cX6_choir 35 = .ok (.istore_n 3, 1) := by decide +kernel
theorem dX6_choir_36 : decode cX6_choir 36 = .ok (.iconst 0, 1) := by decide +kernel
theorem dX6_choir_37 : decode cX6_choir 37 = .ok (.istore 4, 2) := by decide +kernel
theorem dX6_choir_39 : decode cX6_choir 39 = .ok (.iload 4, 2) := by decide +kernel
theorem dX6_choir_41 : decode cX6_choir 41 = .ok (.aload_n 0, 1) := by decide +kernel
theorem dX6_choir_42 : decode cX6_choir 42 = .ok (.invokevirtual 81, 3) := by decide +kernel
theorem dX6_choir_45 : decode cX6_choir 45 = .ok (.if_icmp .ge 85, 3) := by decide +kernel
theorem dX6_choir_48 : decode cX6_choir 48 = .ok (.aload_n 0, 1) := by decide +kernel
theorem dX6_choir_49 : decode cX6_choir 49 = .ok (.invokevirtual 155, 3) := by decide +kernel
theorem dX6_choir_52 : decode cX6_choir 52 = .ok (.iconst 0, 1) := by decide +kernel
theorem dX6_choir_53 : decode cX6_choir 53 = .ok (.istore 5, 2) := by decide +kernel
theorem dX6_choir_55 : decode cX6_choir 55 = .ok (.iload 5, 2) := by decide +kernel
theorem dX6_choir_57 : decode cX6_choir 57 = .ok (.iload_n 2, 1) := by decide +kernel
theorem dX6_choir_58 : decode cX6_choir 58 = .ok (.if_icmp .ge 22, 3) := by decide +kernel
theorem dX6_choir_61 : decode cX6_choir 61 = .ok (.aload_n 0, 1) := by decide +kernel
theorem dX6_choir_62 : decode cX6_choir 62 = .ok (.getfield 33, 3) := by decide +kernel
theorem dX6_choir_65 : decode cX6_choir 65 = .ok (.iconst 5, 1) := by decide +kernel
theorem dX6_choir_66 : decode cX6_choir 66 = .ok (.iload 5, 2) := by decide +kernel
theorem dX6_choir_68 : decode cX6_choir 68 = .ok (.imul, 1) := by decide +kernel
theorem dX6_choir_69 : decode cX6_choir 69 = .ok (.iload 4, 2) := by decide +kernel
theorem dX6_choir_71 : decode cX6_choir 71 = .ok (.iadd, 1) := by decide +kernel
theorem dX6_choir_72 : decode cX6_choir 72 = .ok (.iload_n 1, 1) := by decide +kernel
theorem dX6_choir_73 : decode cX6_choir 73 = .ok (.iastore, 1) := by decide +kernel
theorem dX6_choir_74 : decode cX6_choir 74 = .ok (.iinc 5 1, 3) := by decide +kernel
theorem dX6_choir_77 : decode cX6_choir 77 = .ok (.goto (-22), 3) := by decide +kernel
theorem dX6_choir_80 : decode cX6_choir 80 = .ok (.iconst 0, 1) := by decide +kernel
theorem dX6_choir_81 : decode cX6_choir 81 = .ok (.istore 5, 2) := by decide +kernel
theorem dX6_choir_83 : decode cX6_choir 83 = .ok (.iconst 0, 1) := by decide +kernel
theorem dX6_choir_84 : decode cX6_choir 84 = .ok (.istore 6, 2) := by decide +kernel
theorem dX6_choir_86 : decode cX6_choir 86 = .ok (.iload 6, 2) := by decide +kernel
theorem dX6_choir_88 : decode cX6_choir 88 = .ok (.iload_n 2, 1) := by decide +kernel
theorem dX6_choir_89 : decode cX6_choir 89 = .ok (.if_icmp .ge 22, 3) := by decide +kernel
theorem dX6_choir_92 : decode cX6_choir 92 = .ok (.iload 5, 2) := by decide +kernel
theorem dX6_choir_94 : decode cX6_choir 94 = .ok (.aload_n 0, 1) := by decide +kernel
theorem dX6_choir_95 : decode cX6_choir 95 = .ok (.iload 6, 2) := by decide +kernel
theorem dX6_choir_97 : decode cX6_choir 97 = .ok (.iload 4, 2) := by decide +kernel
theorem dX6_choir_99 : decode cX6_choir 99 = .ok (.invokevirtual 134, 3) := by decide +kernel
theorem dX6_choir_102 : decode cX6_choir 102 = .ok (.iadd, 1) := by decide +kernel
theorem dX6_choir_103 : decode cX6_choir 103 = .ok (.istore 5, 2) := by decide +kernel
theorem dX6_choir_105 : decode cX6_choir 105 = .ok (.iinc 6 1, 3) := by decide +kernel
theorem dX6_choir_108 : decode cX6_choir 108 = .ok (.goto (-22), 3) := by decide +kernel
theorem dX6_choir_111 : decode cX6_choir 111 = .ok (.iload 5, 2) := by decide +kernel
theorem dX6_choir_113 : decode cX6_choir 113 = .ok (.iload_n 3, 1) := by decide +kernel
theorem dX6_choir_114 : decode cX6_choir 114 = .ok (.if_icmp .ge 8, 3) := by decide +kernel
theorem dX6_choir_117 : decode cX6_choir 117 = .ok (.iload 5, 2) := by decide +kernel
theorem dX6_choir_119 : decode cX6_choir 119 = .ok (.goto 4, 3) := by decide +kernel
theorem dX6_choir_122 : decode cX6_choir 122 = .ok (.iload_n 3, 1) := by decide +kernel
theorem dX6_choir_123 : decode cX6_choir 123 = .ok (.istore_n 3, 1) := by decide +kernel
theorem dX6_choir_124 : decode cX6_choir 124 = .ok (.iinc 4 1, 3) := by decide +kernel
theorem dX6_choir_127 : decode cX6_choir 127 = .ok (.goto (-88), 3) := by decide +kernel
theorem dX6_choir_130 : decode cX6_choir 130 = .ok (.iload_n 3, 1) := by decide +kernel
theorem dX6_choir_131 : decode cX6_choir 131 = .ok (.ireturn, 1) := by decide +kernel
theorem dX6_told_0 : decode cX6_told 0 = .ok (.aload_n 0, 1) := by decide +kernel
theorem dX6_told_1 : decode cX6_told 1 = .ok (.iload_n 1, 1) := by decide +kernel
theorem dX6_told_2 : decode cX6_told 2 = .ok (.invokevirtual 102, 3) := by decide +kernel
theorem dX6_told_5 : decode cX6_told 5 = .ok (.ifCond .eq 15, 3) := by decide +kernel
theorem dX6_told_8 : decode cX6_told 8 = .ok (.iload_n 2, 1) := by decide +kernel
theorem dX6_told_9 : decode cX6_told 9 = .ok (.i2l, 1) := by decide +kernel
theorem dX6_told_10 : decode cX6_told 10 = .ok (.lconst 0, 1) := by decide +kernel
theorem dX6_told_11 : decode cX6_told 11 = .ok (.ldc2_w 188, 3) := by decide +kernel
theorem dX6_told_14 : decode cX6_told 14 = .ok (.invokestatic 74, 3) := by decide +kernel
theorem dX6_told_17 : decode cX6_told 17 = .ok (.ifCond .ne 10, 3) := by decide +kernel
theorem dX6_told_20 : decode cX6_told 20 = .ok (.aload_n 0, 1) := by decide +kernel
theorem dX6_told_21 : decode cX6_told 21 = .ok (.bipush (-2), 2) := by decide +kernel
theorem dX6_told_23 : decode cX6_told 23 = .ok (.invokevirtual 88, 3) := by decide +kernel
theorem dX6_told_26 : decode cX6_told 26 = .ok (.ireturn, 1) := by decide +kernel
theorem dX6_told_27 : decode cX6_told 27 = .ok (.aload_n 0, 1) := by decide +kernel
theorem dX6_told_28 : decode cX6_told 28 = .ok (.getfield 7, 3) := by decide +kernel
theorem dX6_told_31 : decode cX6_told 31 = .ok (.bipush 89, 2) := by decide +kernel
theorem dX6_told_33 : decode cX6_told 33 = .ok (.iload_n 1, 1) := by decide +kernel
theorem dX6_told_34 : decode cX6_told 34 = .ok (.iadd, 1) := by decide +kernel
theorem dX6_told_35 : decode cX6_told 35 = .ok (.iaload, 1) := by decide +kernel
theorem dX6_told_36 : decode cX6_told 36 = .ok (.istore_n 3, 1) := by decide +kernel
theorem dX6_told_37 : decode cX6_told 37 = .ok (.aload_n 0, 1) := by decide +kernel
theorem dX6_told_38 : decode cX6_told 38 = .ok (.getfield 7, 3) := by decide +kernel
theorem dX6_told_41 : decode cX6_told 41 = .ok (.bipush 89, 2) := by decide +kernel
theorem dX6_told_43 : decode cX6_told 43 = .ok (.iload_n 1, 1) := by decide +kernel
theorem dX6_told_44 : decode cX6_told 44 = .ok (.iadd, 1) := by decide +kernel
theorem dX6_told_45 : decode cX6_told 45 = .ok (.iload_n 2, 1) := by decide +kernel
theorem dX6_told_46 : decode cX6_told 46 = .ok (.iastore, 1) := by decide +kernel
theorem dX6_told_47 : decode cX6_told 47 = .ok (.iload_n 3, 1) := by decide +kernel
theorem dX6_told_48 : decode cX6_told 48 = .ok (.ireturn, 1) := by decide +kernel
theorem dX6_pay_0 : decode cX6_pay 0 = .ok (.iconst 1, 1) := by decide +kernel
theorem dX6_pay_1 : decode cX6_pay 1 = .ok (.istore_n 2, 1) := by decide +kernel
theorem dX6_pay_2 : decode cX6_pay 2 = .ok (.iconst 0, 1) := by decide +kernel
theorem dX6_pay_3 : decode cX6_pay 3 = .ok (.istore_n 3, 1) := by decide +kernel
theorem dX6_pay_4 : decode cX6_pay 4 = .ok (.iload_n 3, 1) := by decide +kernel
theorem dX6_pay_5 : decode cX6_pay 5 = .ok (.aload_n 0, 1) := by decide +kernel
theorem dX6_pay_6 : decode cX6_pay 6 = .ok (.invokevirtual 78, 3) := by decide +kernel
theorem dX6_pay_9 : decode cX6_pay 9 = .ok (.if_icmp .ge 37, 3) := by decide +kernel
theorem dX6_pay_12 : decode cX6_pay 12 = .ok (.iload_n 2, 1) := by decide +kernel
theorem dX6_pay_13 : decode cX6_pay 13 = .ok (.ifCond .eq 33, 3) := by decide +kernel
theorem dX6_pay_16 : decode cX6_pay 16 = .ok (.aload_n 0, 1) := by decide +kernel
theorem dX6_pay_17 : decode cX6_pay 17 = .ok (.iload_n 3, 1) := by decide +kernel
theorem dX6_pay_18 : decode cX6_pay 18 = .ok (.iload_n 1, 1) := by decide +kernel
theorem dX6_pay_19 : decode cX6_pay 19 = .ok (.invokevirtual 134, 3) := by decide +kernel
theorem dX6_pay_22 : decode cX6_pay 22 = .ok (.aload_n 0, 1) := by decide +kernel
theorem dX6_pay_23 : decode cX6_pay 23 = .ok (.getfield 7, 3) := by decide +kernel
theorem dX6_pay_26 : decode cX6_pay 26 = .ok (.bipush 89, 2) := by decide +kernel
theorem dX6_pay_28 : decode cX6_pay 28 = .ok (.iload_n 3, 1) := by decide +kernel
theorem dX6_pay_29 : decode cX6_pay 29 = .ok (.iadd, 1) := by decide +kernel
theorem dX6_pay_30 : decode cX6_pay 30 = .ok (.iaload, 1) := by decide +kernel
theorem dX6_pay_31 : decode cX6_pay 31 = .ok (.if_icmp .ne 7, 3) := by decide +kernel
theorem dX6_pay_34 : decode cX6_pay 34 = .ok (.iconst 1, 1) := by decide +kernel
theorem dX6_pay_35 : decode cX6_pay 35 = .ok (.goto 4, 3) := by decide +kernel
theorem dX6_pay_38 : decode cX6_pay 38 = .ok (.iconst 0, 1) := by decide +kernel
theorem dX6_pay_39 : decode cX6_pay 39 = .ok (.istore_n 2, 1) := by decide +kernel
theorem dX6_pay_40 : decode cX6_pay 40 = .ok (.iinc 3 1, 3) := by decide +kernel
theorem dX6_pay_43 : decode cX6_pay 43 = .ok (.goto (-39), 3) := by decide +kernel
theorem dX6_pay_46 : decode cX6_pay 46 = .ok (.iload_n 2, 1) := by decide +kernel
theorem dX6_pay_47 : decode cX6_pay 47 = .ok (.ireturn, 1) := by decide +kernel
theorem dX6_did_0 : decode cX6_did 0 = .ok (.aload_n 0, 1) := by decide +kernel
theorem dX6_did_1 : decode cX6_did 1 = .ok (.iload_n 1, 1) := by decide +kernel
theorem dX6_did_2 : decode cX6_did 2 = .ok (.invokevirtual 97, 3) := by decide +kernel
theorem dX6_did_5 : decode cX6_did 5 = .ok (.ifCond .eq 16, 3) := by decide +kernel
theorem dX6_did_8 : decode cX6_did 8 = .ok (.iload_n 2, 1) := by decide +kernel
theorem dX6_did_9 : decode cX6_did 9 = .ok (.iconst (-1), 1) := by decide +kernel
theorem dX6_did_10 : decode cX6_did 10 = .ok (.if_icmp .eq 18, 3) := by decide +kernel
theorem dX6_did_13 : decode cX6_did 13 = .ok (.aload_n 0, 1) := by decide +kernel
theorem dX6_did_14 : decode cX6_did 14 = .ok (.iload_n 2, 1) := by decide +kernel
theorem dX6_did_15 : decode cX6_did 15 = .ok (.invokevirtual 102, 3) := by decide +kernel
theorem dX6_did_18 : decode cX6_did 18 = .ok (.ifCond .ne 10, 3) := by decide +kernel
theorem dX6_did_21 : decode cX6_did 21 = .ok (.aload_n 0, 1) := by decide +kernel
theorem dX6_did_22 : decode cX6_did 22 = .ok (.bipush (-10), 2) := by decide +kernel
theorem dX6_did_24 : decode cX6_did 24 = .ok (.invokevirtual 88, 3) := by decide +kernel
theorem dX6_did_27 : decode cX6_did 27 = .ok (.ireturn, 1) := by decide +kernel
theorem dX6_did_28 : decode cX6_did 28 = .ok (.aload_n 0, 1) := by decide +kernel
theorem dX6_did_29 : decode cX6_did 29 = .ok (.invokevirtual 119, 3) := by decide +kernel
theorem dX6_did_32 : decode cX6_did 32 = .ok (.aload_n 0, 1) := by decide +kernel
theorem dX6_did_33 : decode cX6_did 33 = .ok (.invokevirtual 140, 3) := by decide +kernel
theorem dX6_did_36 : decode cX6_did 36 = .ok (.iconst 1, 1) := by decide +kernel
theorem dX6_did_37 : decode cX6_did 37 = .ok (.istore_n 3, 1) := by decide +kernel
theorem dX6_did_38 : decode cX6_did 38 = .ok (.iconst 0, 1) := by decide +kernel
theorem dX6_did_39 : decode cX6_did 39 = .ok (.istore 4, 2) := by decide +kernel
theorem dX6_did_41 : decode cX6_did 41 = .ok (.iload 4, 2) := by decide +kernel
theorem dX6_did_43 : decode cX6_did 43 = .ok (.aload_n 0, 1) := by decide +kernel
theorem dX6_did_44 : decode cX6_did 44 = .ok (.invokevirtual 78, 3) := by decide +kernel
theorem dX6_did_47 : decode cX6_did 47 = .ok (.if_icmp .ge 18, 3) := by decide +kernel
theorem dX6_did_50 : decode cX6_did 50 = .ok (.iload_n 3, 1) := by decide +kernel
theorem dX6_did_51 : decode cX6_did 51 = .ok (.aload_n 0, 1) := by decide +kernel
theorem dX6_did_52 : decode cX6_did 52 = .ok (.invokevirtual 70, 3) := by decide +kernel
theorem dX6_did_55 : decode cX6_did 55 = .ok (.iconst 1, 1) := by decide +kernel
theorem dX6_did_56 : decode cX6_did 56 = .ok (.iadd, 1) := by decide +kernel
theorem dX6_did_57 : decode cX6_did 57 = .ok (.imul, 1) := by decide +kernel
theorem dX6_did_58 : decode cX6_did 58 = .ok (.istore_n 3, 1) := by decide +kernel
theorem dX6_did_59 : decode cX6_did 59 = .ok (.iinc 4 1, 3) := by decide +kernel
theorem dX6_did_62 : decode cX6_did 62 = .ok (.goto (-21), 3) := by decide +kernel
theorem dX6_did_65 : decode cX6_did 65 = .ok (.iconst 0, 1) := by decide +kernel
theorem dX6_did_66 : decode cX6_did 66 = .ok (.istore 4, 2) := by decide +kernel
theorem dX6_did_68 : decode cX6_did 68 = .ok (.bipush (-5), 2) := by decide +kernel
theorem dX6_did_70 : decode cX6_did 70 = .ok (.istore 5, 2) := by decide +kernel
theorem dX6_did_72 : decode cX6_did 72 = .ok (.iconst 0, 1) := by decide +kernel
theorem dX6_did_73 : decode cX6_did 73 = .ok (.istore 6, 2) := by decide +kernel
theorem dX6_did_75 : decode cX6_did 75 = .ok (.iload 6, 2) := by decide +kernel
theorem dX6_did_77 : decode cX6_did 77 = .ok (.iload_n 3, 1) := by decide +kernel
theorem dX6_did_78 : decode cX6_did 78 = .ok (.if_icmp .ge 137, 3) := by decide +kernel
theorem dX6_did_81 : decode cX6_did 81 = .ok (.iload 6, 2) := by decide +kernel
theorem dX6_did_83 : decode cX6_did 83 = .ok (.istore 7, 2) := by decide +kernel
theorem dX6_did_85 : decode cX6_did 85 = .ok (.aload_n 0, 1) := by decide +kernel
theorem dX6_did_86 : decode cX6_did 86 = .ok (.invokevirtual 78, 3) := by decide +kernel
theorem dX6_did_89 : decode cX6_did 89 = .ok (.iconst 1, 1) := by decide +kernel
theorem dX6_did_90 : decode cX6_did 90 = .ok (.isub, 1) := by decide +kernel
theorem dX6_did_91 : decode cX6_did 91 = .ok (.istore 8, 2) := by decide +kernel
theorem dX6_did_93 : decode cX6_did 93 = .ok (.iload 8, 2) := by decide +kernel
theorem dX6_did_95 : decode cX6_did 95 = .ok (.ifCond .lt 57, 3) := by decide +kernel
theorem dX6_did_98 : decode cX6_did 98 = .ok (.iload 7, 2) := by decide +kernel
theorem dX6_did_100 : decode cX6_did 100 = .ok (.aload_n 0, 1) := by decide +kernel
theorem dX6_did_101 : decode cX6_did 101 = .ok (.invokevirtual 70, 3) := by decide +kernel
theorem dX6_did_104 : decode cX6_did 104 = .ok (.iconst 1, 1) := by decide +kernel
theorem dX6_did_105 : decode cX6_did 105 = .ok (.iadd, 1) := by decide +kernel
theorem dX6_did_106 : decode cX6_did 106 = .ok (.irem, 1) := by decide +kernel
theorem dX6_did_107 : decode cX6_did 107 = .ok (.istore 9, 2) := by decide +kernel
theorem dX6_did_109 : decode cX6_did 109 = .ok (.aload_n 0, 1) := by decide +kernel
theorem dX6_did_110 : decode cX6_did 110 = .ok (.getfield 33, 3) := by decide +kernel
theorem dX6_did_113 : decode cX6_did 113 = .ok (.iconst 5, 1) := by decide +kernel
theorem dX6_did_114 : decode cX6_did 114 = .ok (.iload 8, 2) := by decide +kernel
theorem dX6_did_116 : decode cX6_did 116 = .ok (.imul, 1) := by decide +kernel
theorem dX6_did_117 : decode cX6_did 117 = .ok (.iload_n 1, 1) := by decide +kernel
theorem dX6_did_118 : decode cX6_did 118 = .ok (.iadd, 1) := by decide +kernel
theorem dX6_did_119 : decode cX6_did 119 = .ok (.iload 9, 2) := by decide +kernel
theorem dX6_did_121 : decode cX6_did 121 = .ok (.aload_n 0, 1) := by decide +kernel
theorem dX6_did_122 : decode cX6_did 122 = .ok (.invokevirtual 70, 3) := by decide +kernel
theorem dX6_did_125 : decode cX6_did 125 = .ok (.if_icmp .ne 7, 3) := by decide +kernel
theorem dX6_did_128 : decode cX6_did 128 = .ok (.iconst (-1), 1) := by decide +kernel
theorem dX6_did_129 : decode cX6_did 129 = .ok (.goto 5, 3) := by decide +kernel
theorem dX6_did_132 : decode cX6_did 132 = .ok (.iload 9, 2) := by decide +kernel
theorem dX6_did_134 : decode cX6_did 134 = .ok (.iastore, 1) := by decide +kernel
theorem dX6_did_135 : decode cX6_did 135 = .ok (.iload 7, 2) := by decide +kernel
theorem dX6_did_137 : decode cX6_did 137 = .ok (.aload_n 0, 1) := by decide +kernel
theorem dX6_did_138 : decode cX6_did 138 = .ok (.invokevirtual 70, 3) := by decide +kernel
theorem dX6_did_141 : decode cX6_did 141 = .ok (.iconst 1, 1) := by decide +kernel
theorem dX6_did_142 : decode cX6_did 142 = .ok (.iadd, 1) := by decide +kernel
theorem dX6_did_143 : decode cX6_did 143 = .ok (.idiv, 1) := by decide +kernel
theorem dX6_did_144 : decode cX6_did 144 = .ok (.istore 7, 2) := by decide +kernel
theorem dX6_did_146 : decode cX6_did 146 = .ok (.iinc 8 (-1), 3) := by decide +kernel
theorem dX6_did_149 : decode cX6_did 149 = .ok (.goto (-56), 3) := by decide +kernel
theorem dX6_did_152 : decode cX6_did 152 = .ok (.aload_n 0, 1) := by decide +kernel
theorem dX6_did_153 : decode cX6_did 153 = .ok (.iload_n 1, 1) := by decide +kernel
theorem dX6_did_154 : decode cX6_did 154 = .ok (.invokevirtual 190, 3) := by decide +kernel
theorem dX6_did_157 : decode cX6_did 157 = .ok (.ifCond .eq 52, 3) := by decide +kernel
theorem dX6_did_160 : decode cX6_did 160 = .ok (.iload_n 2, 1) := by decide +kernel
theorem dX6_did_161 : decode cX6_did 161 = .ok (.iconst (-1), 1) := by decide +kernel
theorem dX6_did_162 : decode cX6_did 162 = .ok (.if_icmp .ne 7, 3) := by decide +kernel
theorem dX6_did_165 : decode cX6_did 165 = .ok (.iconst (-1), 1) := by decide +kernel
theorem dX6_did_166 : decode cX6_did 166 = .ok (.goto 13, 3) := by decide +kernel
theorem dX6_did_169 : decode cX6_did 169 = .ok (.aload_n 0, 1) := by decide +kernel
theorem dX6_did_170 : decode cX6_did 170 = .ok (.getfield 33, 3) := by decide +kernel
theorem dX6_did_173 : decode cX6_did 173 = .ok (.iconst 5, 1) := by decide +kernel
theorem dX6_did_174 : decode cX6_did 174 = .ok (.iload_n 2, 1) := by decide +kernel
theorem dX6_did_175 : decode cX6_did 175 = .ok (.imul, 1) := by decide +kernel
theorem dX6_did_176 : decode cX6_did 176 = .ok (.iload_n 1, 1) := by decide +kernel
theorem dX6_did_177 : decode cX6_did 177 = .ok (.iadd, 1) := by decide +kernel
theorem dX6_did_178 : decode cX6_did 178 = .ok (.iaload, 1) := by decide +kernel
theorem dX6_did_179 : decode cX6_did 179 = .ok (.istore 8, 2) := by decide +kernel
theorem dX6_did_181 : decode cX6_did 181 = .ok (.iload 4, 2) := by decide +kernel
theorem dX6_did_183 : decode cX6_did 183 = .ok (.ifCond .le 8, 3) := by decide +kernel
theorem dX6_did_186 : decode cX6_did 186 = .ok (.iload 5, 2) := by decide +kernel
theorem dX6_did_188 : decode cX6_did 188 = .ok (.goto 16, 3) := by decide +kernel
theorem dX6_did_191 : decode cX6_did 191 = .ok (.iload 8, 2) := by decide +kernel
theorem dX6_did_193 : decode cX6_did 193 = .ok (.iconst (-1), 1) := by decide +kernel
theorem dX6_did_194 : decode cX6_did 194 = .ok (.if_icmp .ne 8, 3) := by decide +kernel
theorem dX6_did_197 : decode cX6_did 197 = .ok (.bipush 9, 2) := by decide +kernel
theorem dX6_did_199 : decode cX6_did 199 = .ok (.goto 5, 3) := by decide +kernel
theorem dX6_did_202 : decode cX6_did 202 = .ok (.iload 8, 2) := by decide +kernel
theorem dX6_did_204 : decode cX6_did 204 = .ok (.istore 5, 2) := by decide +kernel
theorem dX6_did_206 : decode cX6_did 206 = .ok (.iinc 4 1, 3) := by decide +kernel
theorem dX6_did_209 : decode cX6_did 209 = .ok (.iinc 6 1, 3) := by decide +kernel
theorem dX6_did_212 : decode cX6_did 212 = .ok (.goto (-137), 3) := by decide +kernel
theorem dX6_did_215 : decode cX6_did 215 = .ok (.iload_n 2, 1) := by decide +kernel
theorem dX6_did_216 : decode cX6_did 216 = .ok (.iconst (-1), 1) := by decide +kernel
theorem dX6_did_217 : decode cX6_did 217 = .ok (.if_icmp .ne 8, 3) := by decide +kernel
theorem dX6_did_220 : decode cX6_did 220 = .ok (.iload 4, 2) := by decide +kernel
theorem dX6_did_222 : decode cX6_did 222 = .ok (.goto 5, 3) := by decide +kernel
theorem dX6_did_225 : decode cX6_did 225 = .ok (.iload 5, 2) := by decide +kernel
theorem dX6_did_227 : decode cX6_did 227 = .ok (.ireturn, 1) := by decide +kernel
theorem dX6_copied_0 : decode cX6_copied 0 = .ok (.aload_n 0, 1) := by decide +kernel
theorem dX6_copied_1 : decode cX6_copied 1 = .ok (.iload_n 1, 1) := by decide +kernel
theorem dX6_copied_2 : decode cX6_copied 2 = .ok (.invokevirtual 102, 3) := by decide +kernel
theorem dX6_copied_5 : decode cX6_copied 5 = .ok (.ifCond .ne 10, 3) := by decide +kernel
theorem dX6_copied_8 : decode cX6_copied 8 = .ok (.aload_n 0, 1) := by decide +kernel
theorem dX6_copied_9 : decode cX6_copied 9 = .ok (.bipush (-2), 2) := by decide +kernel
theorem dX6_copied_11 : decode cX6_copied 11 = .ok (.invokevirtual 88, 3) := by decide +kernel
theorem dX6_copied_14 : decode cX6_copied 14 = .ok (.ireturn, 1) := by decide +kernel
theorem dX6_copied_15 : decode cX6_copied 15 = .ok (.iconst (-1), 1) := by decide +kernel
theorem dX6_copied_16 : decode cX6_copied 16 = .ok (.istore_n 2, 1) := by decide +kernel
theorem dX6_copied_17 : decode cX6_copied 17 = .ok (.iconst 0, 1) := by decide +kernel
theorem dX6_copied_18 : decode cX6_copied 18 = .ok (.istore_n 3, 1) := by decide +kernel
theorem dX6_copied_19 : decode cX6_copied 19 = .ok (.iconst 0, 1) := by decide +kernel
theorem dX6_copied_20 : decode cX6_copied 20 = .ok (.istore 4, 2) := by decide +kernel
theorem dX6_copied_22 : decode cX6_copied 22 = .ok (.iload 4, 2) := by decide +kernel
theorem dX6_copied_24 : decode cX6_copied 24 = .ok (.aload_n 0, 1) := by decide +kernel
theorem dX6_copied_25 : decode cX6_copied 25 = .ok (.invokevirtual 78, 3) := by decide +kernel
theorem dX6_copied_28 : decode cX6_copied 28 = .ok (.if_icmp .ge 118, 3) := by decide +kernel
theorem dX6_copied_31 : decode cX6_copied 31 = .ok (.iconst 0, 1) := by decide +kernel
theorem dX6_copied_32 : decode cX6_copied 32 = .ok (.istore 5, 2) := by decide +kernel
theorem dX6_copied_34 : decode cX6_copied 34 = .ok (.iconst 0, 1) := by decide +kernel
theorem dX6_copied_35 : decode cX6_copied 35 = .ok (.istore 6, 2) := by decide +kernel
theorem dX6_copied_37 : decode cX6_copied 37 = .ok (.iload 6, 2) := by decide +kernel
theorem dX6_copied_39 : decode cX6_copied 39 = .ok (.aload_n 0, 1) := by decide +kernel
theorem dX6_copied_40 : decode cX6_copied 40 = .ok (.invokevirtual 81, 3) := by decide +kernel
theorem dX6_copied_43 : decode cX6_copied 43 = .ok (.iconst 1, 1) := by decide +kernel
theorem dX6_copied_44 : decode cX6_copied 44 = .ok (.isub, 1) := by decide +kernel
theorem dX6_copied_45 : decode cX6_copied 45 = .ok (.if_icmp .ge 69, 3) := by decide +kernel
theorem dX6_copied_48 : decode cX6_copied 48 = .ok (.iload 4, 2) := by decide +kernel
theorem dX6_copied_50 : decode cX6_copied 50 = .ok (.iload_n 1, 1) := by decide +kernel
theorem dX6_copied_51 : decode cX6_copied 51 = .ok (.if_icmp .eq 63, 3) := by decide +kernel
theorem dX6_copied_54 : decode cX6_copied 54 = .ok (.aload_n 0, 1) := by decide +kernel
theorem dX6_copied_55 : decode cX6_copied 55 = .ok (.getfield 7, 3) := by decide +kernel
theorem dX6_copied_58 : decode cX6_copied 58 = .ok (.bipush 19, 2) := by decide +kernel
theorem dX6_copied_60 : decode cX6_copied 60 = .ok (.iconst 5, 1) := by decide +kernel
theorem dX6_copied_61 : decode cX6_copied 61 = .ok (.iload 4, 2) := by decide +kernel
theorem dX6_copied_63 : decode cX6_copied 63 = .ok (.imul, 1) := by decide +kernel
theorem dX6_copied_64 : decode cX6_copied 64 = .ok (.iadd, 1) := by decide +kernel
theorem dX6_copied_65 : decode cX6_copied 65 = .ok (.iload 6, 2) := by decide +kernel
theorem dX6_copied_67 : decode cX6_copied 67 = .ok (.iadd, 1) := by decide +kernel
theorem dX6_copied_68 : decode cX6_copied 68 = .ok (.iaload, 1) := by decide +kernel
theorem dX6_copied_69 : decode cX6_copied 69 = .ok (.istore 7, 2) := by decide +kernel
theorem dX6_copied_71 : decode cX6_copied 71 = .ok (.iload 5, 2) := by decide +kernel
theorem dX6_copied_73 : decode cX6_copied 73 = .ok (.iload 7, 2) := by decide +kernel
theorem dX6_copied_75 : decode cX6_copied 75 = .ok (.iconst (-1), 1) := by decide +kernel
theorem dX6_copied_76 : decode cX6_copied 76 = .ok (.if_icmp .eq 28, 3) := by decide +kernel
theorem dX6_copied_79 : decode cX6_copied 79 = .ok (.aload_n 0, 1) := by decide +kernel
theorem dX6_copied_80 : decode cX6_copied 80 = .ok (.getfield 7, 3) := by decide +kernel
theorem dX6_copied_83 : decode cX6_copied 83 = .ok (.bipush 19, 2) := by decide +kernel
theorem dX6_copied_85 : decode cX6_copied 85 = .ok (.iconst 5, 1) := by decide +kernel
theorem dX6_copied_86 : decode cX6_copied 86 = .ok (.iload_n 1, 1) := by decide +kernel
theorem dX6_copied_87 : decode cX6_copied 87 = .ok (.imul, 1) := by decide +kernel
theorem dX6_copied_88 : decode cX6_copied 88 = .ok (.iadd, 1) := by decide +kernel
theorem dX6_copied_89 : decode cX6_copied 89 = .ok (.iload 6, 2) := by decide +kernel
theorem dX6_copied_91 : decode cX6_copied 91 = .ok (.iadd, 1) := by decide +kernel
theorem dX6_copied_92 : decode cX6_copied 92 = .ok (.iconst 1, 1) := by decide +kernel
theorem dX6_copied_93 : decode cX6_copied 93 = .ok (.iadd, 1) := by decide +kernel
theorem dX6_copied_94 : decode cX6_copied 94 = .ok (.iaload, 1) := by decide +kernel
theorem dX6_copied_95 : decode cX6_copied 95 = .ok (.iload 7, 2) := by decide +kernel
theorem dX6_copied_97 : decode cX6_copied 97 = .ok (.if_icmp .ne 7, 3) := by decide +kernel
theorem dX6_copied_100 : decode cX6_copied 100 = .ok (.iconst 1, 1) := by decide +kernel
theorem dX6_copied_101 : decode cX6_copied 101 = .ok (.goto 4, 3) := by decide +kernel
theorem dX6_copied_104 : decode cX6_copied 104 = .ok (.iconst 0, 1) := by decide +kernel
theorem dX6_copied_105 : decode cX6_copied 105 = .ok (.iadd, 1) := by decide +kernel
theorem dX6_copied_106 : decode cX6_copied 106 = .ok (.istore 5, 2) := by decide +kernel
theorem dX6_copied_108 : decode cX6_copied 108 = .ok (.iinc 6 1, 3) := by decide +kernel
theorem dX6_copied_111 : decode cX6_copied 111 = .ok (.goto (-74), 3) := by decide +kernel
theorem dX6_copied_114 : decode cX6_copied 114 = .ok (.iload 5, 2) := by decide +kernel
theorem dX6_copied_116 : decode cX6_copied 116 = .ok (.iload_n 3, 1) := by decide +kernel
theorem dX6_copied_117 : decode cX6_copied 117 = .ok (.if_icmp .le 8, 3) := by decide +kernel
theorem dX6_copied_120 : decode cX6_copied 120 = .ok (.iload 4, 2) := by decide +kernel
theorem dX6_copied_122 : decode cX6_copied 122 = .ok (.goto 4, 3) := by decide +kernel
theorem dX6_copied_125 : decode cX6_copied 125 = .ok (.iload_n 2, 1) := by decide +kernel
theorem dX6_copied_126 : decode cX6_copied 126 = .ok (.istore_n 2, 1) := by decide +kernel
theorem dX6_copied_127 : decode cX6_copied 127 = .ok (.iload 5, 2) := by decide +kernel
theorem dX6_copied_129 : decode cX6_copied 129 = .ok (.iload_n 3, 1) := by decide +kernel
theorem dX6_copied_130 : decode cX6_copied 130 = .ok (.if_icmp .le 8, 3) := by decide +kernel
theorem dX6_copied_133 : decode cX6_copied 133 = .ok (.iload 5, 2) := by decide +kernel
theorem dX6_copied_135 : decode cX6_copied 135 = .ok (.goto 4, 3) := by decide +kernel
theorem dX6_copied_138 : decode cX6_copied 138 = .ok (.iload_n 3, 1) := by decide +kernel
theorem dX6_copied_139 : decode cX6_copied 139 = .ok (.istore_n 3, 1) := by decide +kernel
theorem dX6_copied_140 : decode cX6_copied 140 = .ok (.iinc 4 1, 3) := by decide +kernel
theorem dX6_copied_143 : decode cX6_copied 143 = .ok (.goto (-121), 3) := by decide +kernel
theorem dX6_copied_146 : decode cX6_copied 146 = .ok (.iload_n 2, 1) := by decide +kernel
theorem dX6_copied_147 : decode cX6_copied 147 = .ok (.ireturn, 1) := by decide +kernel
theorem dX6_crowd_0 : decode cX6_crowd 0 = .ok (.iload_n 1, 1) := by decide +kernel
theorem dX6_crowd_1 : decode cX6_crowd 1 = .ok (.i2l, 1) := by decide +kernel
theorem dX6_crowd_2 : decode cX6_crowd 2 = .ok (.lconst 1, 1) := by decide +kernel
theorem dX6_crowd_3 : decode cX6_crowd 3 = .ok (.ldc2_w 193, 3) := by decide +kernel
theorem dX6_crowd_6 : decode cX6_crowd 6 = .ok (.invokestatic 74, 3) := by decide +kernel
theorem dX6_crowd_9 : decode cX6_crowd 9 = .ok (.ifCond .eq 26, 3) := by decide +kernel
theorem dX6_crowd_12 : decode cX6_crowd 12 = .ok (.iload_n 2, 1) := by decide +kernel
theorem dX6_crowd_13 : decode cX6_crowd 13 = .ok (.i2l, 1) := by decide +kernel
theorem dX6_crowd_14 : decode cX6_crowd 14 = .ok (.lconst 1, 1) := by decide +kernel
theorem dX6_crowd_15 : decode cX6_crowd 15 = .ok (.ldc2_w 195, 3) := by decide +kernel
theorem dX6_crowd_18 : decode cX6_crowd 18 = .ok (.invokestatic 74, 3) := by decide +kernel
theorem dX6_crowd_21 : decode cX6_crowd 21 = .ok (.ifCond .eq 14, 3) := by decide +kernel
theorem dX6_crowd_24 : decode cX6_crowd 24 = .ok (.iload_n 3, 1) := by decide +kernel
theorem dX6_crowd_25 : decode cX6_crowd 25 = .ok (.i2l, 1) := by decide +kernel
theorem dX6_crowd_26 : decode cX6_crowd 26 = .ok (.lconst 0, 1) := by decide +kernel
theorem dX6_crowd_27 : decode cX6_crowd 27 = .ok (.iload_n 1, 1) := by decide +kernel
theorem dX6_crowd_28 : decode cX6_crowd 28 = .ok (.i2l, 1) := by decide +kernel
theorem dX6_crowd_29 : decode cX6_crowd 29 = .ok (.invokestatic 74, 3) := by decide +kernel
theorem dX6_crowd_32 : decode cX6_crowd 32 = .ok (.ifCond .ne 10, 3) := by decide +kernel
theorem dX6_crowd_35 : decode cX6_crowd 35 = .ok (.aload_n 0, 1) := by decide +kernel
theorem dX6_crowd_36 : decode cX6_crowd 36 = .ok (.bipush (-2), 2) := by decide +kernel
theorem dX6_crowd_38 : decode cX6_crowd 38 = .ok (.invokevirtual 88, 3) := by decide +kernel
theorem dX6_crowd_41 : decode cX6_crowd 41 = .ok (.ireturn, 1) := by decide +kernel
theorem dX6_crowd_42 : decode cX6_crowd 42 = .ok (.lconst 0, 1) := by decide +kernel
theorem dX6_crowd_43 : decode cX6_crowd 43 = .ok (.lstore 4, 2) := by decide +kernel
theorem dX6_crowd_45 : decode cX6_crowd 45 = .ok (.lconst 1, 1) := by decide +kernel
theorem dX6_crowd_46 : decode cX6_crowd 46 = .ok (.lstore 6, 2) := by decide +kernel
theorem dX6_crowd_48 : decode cX6_crowd 48 = .ok (.lconst 1, 1) := by decide +kernel
theorem dX6_crowd_49 : decode cX6_crowd 49 = .ok (.lstore 8, 2) := by decide +kernel
theorem dX6_crowd_51 : decode cX6_crowd 51 = .ok (.iconst 0, 1) := by decide +kernel
theorem dX6_crowd_52 : decode cX6_crowd 52 = .ok (.istore 10, 2) := by decide +kernel
theorem dX6_crowd_54 : decode cX6_crowd 54 = .ok (.iload 10, 2) := by decide +kernel
theorem dX6_crowd_56 : decode cX6_crowd 56 = .ok (.iload_n 1, 1) := by decide +kernel
theorem dX6_crowd_57 : decode cX6_crowd 57 = .ok (.if_icmp .gt 88, 3) := by decide +kernel
theorem dX6_crowd_60 : decode cX6_crowd 60 = .ok (.iload 10, 2) := by decide +kernel
theorem dX6_crowd_62 : decode cX6_crowd 62 = .ok (.iload_n 3, 1) := by decide +kernel
theorem dX6_crowd_63 : decode cX6_crowd 63 = .ok (.if_icmp .ge 7, 3) := by decide +kernel
theorem dX6_crowd_66 : decode cX6_crowd 66 = .ok (.lconst 0, 1) := by decide +kernel
theorem dX6_crowd_67 : decode cX6_crowd 67 = .ok (.goto 5, 3) := by decide +kernel
theorem dX6_crowd_70 : decode cX6_crowd 70 = .ok (.lload 8, 2) := by decide +kernel
theorem dX6_crowd_72 : decode cX6_crowd 72 = .ok (.lstore 11, 2) := by decide +kernel
theorem dX6_crowd_74 : decode cX6_crowd 74 = .ok (.iload 10, 2) := by decide +kernel
theorem dX6_crowd_76 : decode cX6_crowd 76 = .ok (.istore 13, 2) := by decide +kernel
theorem dX6_crowd_78 : decode cX6_crowd 78 = .ok (.iload 13, 2) := by decide +kernel
theorem dX6_crowd_80 : decode cX6_crowd 80 = .ok (.iload_n 1, 1) := by decide +kernel
theorem dX6_crowd_81 : decode cX6_crowd 81 = .ok (.if_icmp .ge 18, 3) := by decide +kernel
theorem dX6_crowd_84 : decode cX6_crowd 84 = .ok (.lload 11, 2) := by decide +kernel
theorem dX6_crowd_86 : decode cX6_crowd 86 = .ok (.iload_n 2, 1) := by decide +kernel
theorem dX6_crowd_87 : decode cX6_crowd 87 = .ok (.iconst 1, 1) := by decide +kernel
theorem dX6_crowd_88 : decode cX6_crowd 88 = .ok (.isub, 1) := by decide +kernel
theorem dX6_crowd_89 : decode cX6_crowd 89 = .ok (.i2l, 1) := by decide +kernel
theorem dX6_crowd_90 : decode cX6_crowd 90 = .ok (.lmul, 1) := by decide +kernel
theorem dX6_crowd_91 : decode cX6_crowd 91 = .ok (.lstore 11, 2) := by decide +kernel
theorem dX6_crowd_93 : decode cX6_crowd 93 = .ok (.iinc 13 1, 3) := by decide +kernel
theorem dX6_crowd_96 : decode cX6_crowd 96 = .ok (.goto (-18), 3) := by decide +kernel
theorem dX6_crowd_99 : decode cX6_crowd 99 = .ok (.lload 4, 2) := by decide +kernel
theorem dX6_crowd_101 : decode cX6_crowd 101 = .ok (.lload 11, 2) := by decide +kernel
theorem dX6_crowd_103 : decode cX6_crowd 103 = .ok (.ladd, 1) := by decide +kernel
theorem dX6_crowd_104 : decode cX6_crowd 104 = .ok (.lstore 4, 2) := by decide +kernel
theorem dX6_crowd_106 : decode cX6_crowd 106 = .ok (.lload 8, 2) := by decide +kernel
theorem dX6_crowd_108 : decode cX6_crowd 108 = .ok (.iload_n 1, 1) := by decide +kernel
theorem dX6_crowd_109 : decode cX6_crowd 109 = .ok (.iload 10, 2) := by decide +kernel
theorem dX6_crowd_111 : decode cX6_crowd 111 = .ok (.isub, 1) := by decide +kernel
theorem dX6_crowd_112 : decode cX6_crowd 112 = .ok (.i2l, 1) := by decide +kernel
theorem dX6_crowd_113 : decode cX6_crowd 113 = .ok (.lmul, 1) := by decide +kernel
theorem dX6_crowd_114 : decode cX6_crowd 114 = .ok (.iload 10, 2) := by decide +kernel
theorem dX6_crowd_116 : decode cX6_crowd 116 = .ok (.iconst 1, 1) := by decide +kernel
theorem dX6_crowd_117 : decode cX6_crowd 117 = .ok (.iadd, 1) := by decide +kernel
theorem dX6_crowd_118 : decode cX6_crowd 118 = .ok (.i2l, 1) := by decide +kernel
theorem dX6_crowd_119 : decode cX6_crowd 119 = .ok (.ldiv, 1) := by decide +kernel
theorem dX6_crowd_120 : decode cX6_crowd 120 = .ok (.lstore 8, 2) := by decide +kernel
theorem dX6_crowd_122 : decode cX6_crowd 122 = .ok (.lload 6, 2) := by decide +kernel
theorem dX6_crowd_124 : decode cX6_crowd 124 = .ok (.iload 10, 2) := by decide +kernel
theorem dX6_crowd_126 : decode cX6_crowd 126 = .ok (.iload_n 1, 1) := by decide +kernel
theorem dX6_crowd_127 : decode cX6_crowd 127 = .ok (.if_icmp .ge 8, 3) := by decide +kernel
theorem dX6_crowd_130 : decode cX6_crowd 130 = .ok (.iload_n 2, 1) := by decide +kernel
theorem dX6_crowd_131 : decode cX6_crowd 131 = .ok (.i2l, 1) := by decide +kernel
theorem dX6_crowd_132 : decode cX6_crowd 132 = .ok (.goto 4, 3) := by decide +kernel
theorem dX6_crowd_135 : decode cX6_crowd 135 = .ok (.lconst 1, 1) := by decide +kernel
theorem dX6_crowd_136 : decode cX6_crowd 136 = .ok (.lmul, 1) := by decide +kernel
theorem dX6_crowd_137 : decode cX6_crowd 137 = .ok (.lstore 6, 2) := by decide +kernel
theorem dX6_crowd_139 : decode cX6_crowd 139 = .ok (.iinc 10 1, 3) := by decide +kernel
theorem dX6_crowd_142 : decode cX6_crowd 142 = .ok (.goto (-88), 3) := by decide +kernel
theorem dX6_crowd_145 : decode cX6_crowd 145 = .ok (.lload 4, 2) := by decide +kernel
theorem dX6_crowd_147 : decode cX6_crowd 147 = .ok (.lstore 10, 2) := by decide +kernel
theorem dX6_crowd_149 : decode cX6_crowd 149 = .ok (.lload 6, 2) := by decide +kernel
theorem dX6_crowd_151 : decode cX6_crowd 151 = .ok (.lstore 12, 2) := by decide +kernel
theorem dX6_crowd_153 : decode cX6_crowd 153 = .ok (.lload 12, 2) := by decide +kernel
theorem dX6_crowd_155 : decode cX6_crowd 155 = .ok (.lconst 0, 1) := by decide +kernel
theorem dX6_crowd_156 : decode cX6_crowd 156 = .ok (.lcmp, 1) := by decide +kernel
theorem dX6_crowd_157 : decode cX6_crowd 157 = .ok (.ifCond .eq 21, 3) := by decide +kernel
theorem dX6_crowd_160 : decode cX6_crowd 160 = .ok (.lload 10, 2) := by decide +kernel
theorem dX6_crowd_162 : decode cX6_crowd 162 = .ok (.lload 12, 2) := by decide +kernel
theorem dX6_crowd_164 : decode cX6_crowd 164 = .ok (.lrem, 1) := by decide +kernel
theorem dX6_crowd_165 : decode cX6_crowd 165 = .ok (.lstore 14, 2) := by decide +kernel
theorem dX6_crowd_167 : decode cX6_crowd 167 = .ok (.lload 12, 2) := by decide +kernel
theorem dX6_crowd_169 : decode cX6_crowd 169 = .ok (.lstore 10, 2) := by decide +kernel
theorem dX6_crowd_171 : decode cX6_crowd 171 = .ok (.lload 14, 2) := by decide +kernel
theorem dX6_crowd_173 : decode cX6_crowd 173 = .ok (.lstore 12, 2) := by decide +kernel
theorem dX6_crowd_175 : decode cX6_crowd 175 = .ok (.goto (-22), 3) := by decide +kernel
theorem dX6_crowd_178 : decode cX6_crowd 178 = .ok (.aload_n 0, 1) := by decide +kernel
theorem dX6_crowd_179 : decode cX6_crowd 179 = .ok (.lload 4, 2) := by decide +kernel
theorem dX6_crowd_181 : decode cX6_crowd 181 = .ok (.lload 10, 2) := by decide +kernel
theorem dX6_crowd_183 : decode cX6_crowd 183 = .ok (.ldiv, 1) := by decide +kernel
theorem dX6_crowd_184 : decode cX6_crowd 184 = .ok (.putfield 197, 3) := by decide +kernel
theorem dX6_crowd_187 : decode cX6_crowd 187 = .ok (.aload_n 0, 1) := by decide +kernel
theorem dX6_crowd_188 : decode cX6_crowd 188 = .ok (.lload 6, 2) := by decide +kernel
theorem dX6_crowd_190 : decode cX6_crowd 190 = .ok (.lload 10, 2) := by decide +kernel
theorem dX6_crowd_192 : decode cX6_crowd 192 = .ok (.ldiv, 1) := by decide +kernel
theorem dX6_crowd_193 : decode cX6_crowd 193 = .ok (.putfield 23, 3) := by decide +kernel
theorem dX6_crowd_196 : decode cX6_crowd 196 = .ok (.iconst 1, 1) := by decide +kernel
theorem dX6_crowd_197 : decode cX6_crowd 197 = .ok (.ireturn, 1) := by decide +kernel
theorem dX6_type_0 : decode cX6_type 0 = .ok (.iload_n 3, 1) := by decide +kernel
theorem dX6_type_1 : decode cX6_type 1 = .ok (.i2l, 1) := by decide +kernel
theorem dX6_type_2 : decode cX6_type 2 = .ok (.lconst 1, 1) := by decide +kernel
theorem dX6_type_3 : decode cX6_type 3 = .ok (.ldc2_w 200, 3) := by decide +kernel
theorem dX6_type_6 : decode cX6_type 6 = .ok (.invokestatic 74, 3) := by decide +kernel
theorem dX6_type_9 : decode cX6_type 9 = .ok (.ifCond .ne 10, 3) := by decide +kernel
theorem dX6_type_12 : decode cX6_type 12 = .ok (.aload_n 0, 1) := by decide +kernel
theorem dX6_type_13 : decode cX6_type 13 = .ok (.bipush (-2), 2) := by decide +kernel
theorem dX6_type_15 : decode cX6_type 15 = .ok (.invokevirtual 88, 3) := by decide +kernel
theorem dX6_type_18 : decode cX6_type 18 = .ok (.ireturn, 1) := by decide +kernel
theorem dX6_type_19 : decode cX6_type 19 = .ok (.aload_n 0, 1) := by decide +kernel
theorem dX6_type_20 : decode cX6_type 20 = .ok (.getfield 202, 3) := by decide +kernel
theorem dX6_type_23 : decode cX6_type 23 = .ok (.iload_n 3, 1) := by decide +kernel
theorem dX6_type_24 : decode cX6_type 24 = .ok (.iadd, 1) := by decide +kernel
theorem dX6_type_25 : decode cX6_type 25 = .ok (.sipush 250, 3) := by decide +kernel
theorem dX6_type_28 : decode cX6_type 28 = .ok (.if_icmp .le 8, 3) := by decide +kernel
theorem dX6_type_31 : decode cX6_type 31 = .ok (.aload_n 0, 1) := by decide +kernel
theorem dX6_type_32 : decode cX6_type 32 = .ok (.invokevirtual 92, 3) := by decide +kernel
theorem dX6_type_35 : decode cX6_type 35 = .ok (.ireturn, 1) := by decide +kernel
theorem dX6_type_36 : decode cX6_type 36 = .ok (.iload_n 3, 1) := by decide +kernel
theorem dX6_type_37 : decode cX6_type 37 = .ok (.iconst 1, 1) := by decide +kernel
theorem dX6_type_38 : decode cX6_type 38 = .ok (.isub, 1) := by decide +kernel
theorem dX6_type_39 : decode cX6_type 39 = .ok (.istore 4, 2) := by decide +kernel
theorem dX6_type_41 : decode cX6_type 41 = .ok (.iload 4, 2) := by decide +kernel
theorem dX6_type_43 : decode cX6_type 43 = .ok (.ifCond .lt 40, 3) := by decide +kernel
theorem dX6_type_46 : decode cX6_type 46 = .ok (.aload_n 0, 1) := by decide +kernel
theorem dX6_type_47 : decode cX6_type 47 = .ok (.getfield 57, 3) := by decide +kernel
theorem dX6_type_50 : decode cX6_type 50 = .ok (.aload_n 0, 1) := by decide +kernel
theorem dX6_type_51 : decode cX6_type 51 = .ok (.getfield 202, 3) := by decide +kernel
theorem dX6_type_54 : decode cX6_type 54 = .ok (.lload_n 1, 1) := by decide +kernel
theorem dX6_type_55 : decode cX6_type 55 = .ok (.bipush 8, 2) := by decide +kernel
theorem dX6_type_57 : decode cX6_type 57 = .ok (.iload 4, 2) := by decide +kernel
theorem dX6_type_59 : decode cX6_type 59 = .ok (.imul, 1) := by decide +kernel
theorem dX6_type_60 : decode cX6_type 60 = .ok (.lushr, 1) := by decide +kernel
theorem dX6_type_61 : decode cX6_type 61 = .ok (.ldc2_w 206, 3) := by decide +kernel
theorem dX6_type_64 : decode cX6_type 64 = .ok (.land, 1) := by decide +kernel
theorem dX6_type_65 : decode cX6_type 65 = .ok (.l2i, 1) := by decide +kernel
theorem dX6_type_66 : decode cX6_type 66 = .ok (.iastore, 1) := by decide +kernel
theorem dX6_type_67 : decode cX6_type 67 = .ok (.aload_n 0, 1) := by decide +kernel
theorem dX6_type_68 : decode cX6_type 68 = .ok (.dup, 1) := by decide +kernel
theorem dX6_type_69 : decode cX6_type 69 = .ok (.getfield 202, 3) := by decide +kernel
theorem dX6_type_72 : decode cX6_type 72 = .ok (.iconst 1, 1) := by decide +kernel
theorem dX6_type_73 : decode cX6_type 73 = .ok (.iadd, 1) := by decide +kernel
theorem dX6_type_74 : decode cX6_type 74 = .ok (.putfield 202, 3) := by decide +kernel
theorem dX6_type_77 : decode cX6_type 77 = .ok (.iinc 4 (-1), 3) := by decide +kernel
theorem dX6_type_80 : decode cX6_type 80 = .ok (.goto (-39), 3) := by decide +kernel
theorem dX6_type_83 : decode cX6_type 83 = .ok (.aload_n 0, 1) := by decide +kernel
theorem dX6_type_84 : decode cX6_type 84 = .ok (.getfield 202, 3) := by decide +kernel
theorem dX6_type_87 : decode cX6_type 87 = .ok (.ireturn, 1) := by decide +kernel
theorem dX6_clear_0 : decode cX6_clear 0 = .ok (.aload_n 0, 1) := by decide +kernel
theorem dX6_clear_1 : decode cX6_clear 1 = .ok (.getfield 202, 3) := by decide +kernel
theorem dX6_clear_4 : decode cX6_clear 4 = .ok (.istore_n 1, 1) := by decide +kernel
theorem dX6_clear_5 : decode cX6_clear 5 = .ok (.aload_n 0, 1) := by decide +kernel
theorem dX6_clear_6 : decode cX6_clear 6 = .ok (.iconst 0, 1) := by decide +kernel
theorem dX6_clear_7 : decode cX6_clear 7 = .ok (.putfield 202, 3) := by decide +kernel
theorem dX6_clear_10 : decode cX6_clear 10 = .ok (.iload_n 1, 1) := by decide +kernel
theorem dX6_clear_11 : decode cX6_clear 11 = .ok (.ireturn, 1) := by decide +kernel
theorem dX6_isSmall_0 : decode cX6_isSmall 0 = .ok (.iload_n 0, 1) := by decide +kernel
theorem dX6_isSmall_1 : decode cX6_isSmall 1 = .ok (.i2l, 1) := by decide +kernel
theorem dX6_isSmall_2 : decode cX6_isSmall 2 = .ok (.ldc2_w 208, 3) := by decide +kernel
theorem dX6_isSmall_5 : decode cX6_isSmall 5 = .ok (.ldc2_w 210, 3) := by decide +kernel
theorem dX6_isSmall_8 : decode cX6_isSmall 8 = .ok (.invokestatic 74, 3) := by decide +kernel
theorem dX6_isSmall_11 : decode cX6_isSmall 11 = .ok (.ireturn, 1) := by decide +kernel
theorem dX6_isFigure_0 : decode cX6_isFigure 0 = .ok (.iload_n 0, 1) := by decide +kernel
theorem dX6_isFigure_1 : decode cX6_isFigure 1 = .ok (.i2l, 1) := by decide +kernel
theorem dX6_isFigure_2 : decode cX6_isFigure 2 = .ok (.ldc2_w 212, 3) := by decide +kernel
theorem dX6_isFigure_5 : decode cX6_isFigure 5 = .ok (.ldc2_w 214, 3) := by decide +kernel
theorem dX6_isFigure_8 : decode cX6_isFigure 8 = .ok (.invokestatic 74, 3) := by decide +kernel
theorem dX6_isFigure_11 : decode cX6_isFigure 11 = .ok (.ireturn, 1) := by decide +kernel
theorem dX6_look_0 : decode cX6_look 0 = .ok (.aload_n 0, 1) := by decide +kernel
theorem dX6_look_1 : decode cX6_look 1 = .ok (.iload_n 1, 1) := by decide +kernel
theorem dX6_look_2 : decode cX6_look 2 = .ok (.putfield 216, 3) := by decide +kernel
theorem dX6_look_5 : decode cX6_look 5 = .ok (.aload_n 0, 1) := by decide +kernel
theorem dX6_look_6 : decode cX6_look 6 = .ok (.getfield 216, 3) := by decide +kernel
theorem dX6_look_9 : decode cX6_look 9 = .ok (.aload_n 0, 1) := by decide +kernel
theorem dX6_look_10 : decode cX6_look 10 = .ok (.getfield 202, 3) := by decide +kernel
theorem dX6_look_13 : decode cX6_look 13 = .ok (.if_icmp .ge 30, 3) := by decide +kernel
theorem dX6_look_16 : decode cX6_look 16 = .ok (.aload_n 0, 1) := by decide +kernel
theorem dX6_look_17 : decode cX6_look 17 = .ok (.getfield 57, 3) := by decide +kernel
theorem dX6_look_20 : decode cX6_look 20 = .ok (.aload_n 0, 1) := by decide +kernel
theorem dX6_look_21 : decode cX6_look 21 = .ok (.getfield 216, 3) := by decide +kernel
theorem dX6_look_24 : decode cX6_look 24 = .ok (.iaload, 1) := by decide +kernel
theorem dX6_look_25 : decode cX6_look 25 = .ok (.bipush 32, 2) := by decide +kernel
theorem dX6_look_27 : decode cX6_look 27 = .ok (.if_icmp .ne 16, 3) := by decide +kernel
theorem dX6_look_30 : decode cX6_look 30 = .ok (.aload_n 0, 1) := by decide +kernel
theorem dX6_look_31 : decode cX6_look 31 = .ok (.dup, 1) := by decide +kernel
theorem dX6_look_32 : decode cX6_look 32 = .ok (.getfield 216, 3) := by decide +kernel
theorem dX6_look_35 : decode cX6_look 35 = .ok (.iconst 1, 1) := by decide +kernel
theorem dX6_look_36 : decode cX6_look 36 = .ok (.iadd, 1) := by decide +kernel
theorem dX6_look_37 : decode cX6_look 37 = .ok (.putfield 216, 3) := by decide +kernel
theorem dX6_look_40 : decode cX6_look 40 = .ok (.goto (-35), 3) := by decide +kernel
theorem dX6_look_43 : decode cX6_look 43 = .ok (.aload_n 0, 1) := by decide +kernel
theorem dX6_look_44 : decode cX6_look 44 = .ok (.iconst 0, 1) := by decide +kernel
theorem dX6_look_45 : decode cX6_look 45 = .ok (.putfield 219, 3) := by decide +kernel
theorem dX6_look_48 : decode cX6_look 48 = .ok (.aload_n 0, 1) := by decide +kernel
theorem dX6_look_49 : decode cX6_look 49 = .ok (.iconst 0, 1) := by decide +kernel
theorem dX6_look_50 : decode cX6_look 50 = .ok (.putfield 222, 3) := by decide +kernel
theorem dX6_look_53 : decode cX6_look 53 = .ok (.aload_n 0, 1) := by decide +kernel
theorem dX6_look_54 : decode cX6_look 54 = .ok (.iconst 0, 1) := by decide +kernel
theorem dX6_look_55 : decode cX6_look 55 = .ok (.putfield 225, 3) := by decide +kernel
theorem dX6_look_58 : decode cX6_look 58 = .ok (.aload_n 0, 1) := by decide +kernel
theorem dX6_look_59 : decode cX6_look 59 = .ok (.getfield 216, 3) := by decide +kernel
theorem dX6_look_62 : decode cX6_look 62 = .ok (.aload_n 0, 1) := by decide +kernel
theorem dX6_look_63 : decode cX6_look 63 = .ok (.getfield 202, 3) := by decide +kernel
theorem dX6_look_66 : decode cX6_look 66 = .ok (.if_icmp .ne 4, 3) := by decide +kernel
theorem dX6_look_69 : decode cX6_look 69 = .ok (.return_, 1) := by decide +kernel
theorem dX6_look_70 : decode cX6_look 70 = .ok (.aload_n 0, 1) := by decide +kernel
theorem dX6_look_71 : decode cX6_look 71 = .ok (.getfield 57, 3) := by decide +kernel
theorem dX6_look_74 : decode cX6_look 74 = .ok (.aload_n 0, 1) := by decide +kernel
theorem dX6_look_75 : decode cX6_look 75 = .ok (.getfield 216, 3) := by decide +kernel
theorem dX6_look_78 : decode cX6_look 78 = .ok (.iaload, 1) := by decide +kernel
theorem dX6_look_79 : decode cX6_look 79 = .ok (.istore_n 2, 1) := by decide +kernel
theorem dX6_look_80 : decode cX6_look 80 = .ok (.aload_n 0, 1) := by decide +kernel
theorem dX6_look_81 : decode cX6_look 81 = .ok (.iload_n 2, 1) := by decide +kernel
theorem dX6_look_82 : decode cX6_look 82 = .ok (.invokestatic 228, 3) := by decide +kernel
theorem dX6_look_85 : decode cX6_look 85 = .ok (.ifCond .eq 7, 3) := by decide +kernel
theorem dX6_look_88 : decode cX6_look 88 = .ok (.iconst 1, 1) := by decide +kernel
theorem dX6_look_89 : decode cX6_look 89 = .ok (.goto 25, 3) := by decide +kernel
theorem dX6_look_92 : decode cX6_look 92 = .ok (.iload_n 2, 1) := by decide +kernel
theorem dX6_look_93 : decode cX6_look 93 = .ok (.invokestatic 231, 3) := by decide +kernel
theorem dX6_look_96 : decode cX6_look 96 = .ok (.ifCond .eq 7, 3) := by decide +kernel
theorem dX6_look_99 : decode cX6_look 99 = .ok (.iconst 2, 1) := by decide +kernel
theorem dX6_look_100 : decode cX6_look 100 = .ok (.goto 14, 3) := by decide +kernel
theorem dX6_look_103 : decode cX6_look 103 = .ok (.iload_n 2, 1) := by decide +kernel
theorem dX6_look_104 : decode cX6_look 104 = .ok (.bipush 59, 2) := by decide +kernel
theorem dX6_look_106 : decode cX6_look 106 = .ok (.if_icmp .ne 7, 3) := by decide +kernel
theorem dX6_look_109 : decode cX6_look 109 = .ok (.iconst 3, 1) := by decide +kernel
theorem dX6_look_110 : decode cX6_look 110 = .ok (.goto 4, 3) := by decide +kernel
theorem dX6_look_113 : decode cX6_look 113 = .ok (.iconst 4, 1) := by decide +kernel
theorem dX6_look_114 : decode cX6_look 114 = .ok (.putfield 222, 3) := by decide +kernel
theorem dX6_look_117 : decode cX6_look 117 = .ok (.aload_n 0, 1) := by decide +kernel
theorem dX6_look_118 : decode cX6_look 118 = .ok (.iconst 1, 1) := by decide +kernel
theorem dX6_look_119 : decode cX6_look 119 = .ok (.putfield 219, 3) := by decide +kernel
theorem dX6_look_122 : decode cX6_look 122 = .ok (.aload_n 0, 1) := by decide +kernel
theorem dX6_look_123 : decode cX6_look 123 = .ok (.getfield 222, 3) := by decide +kernel
theorem dX6_look_126 : decode cX6_look 126 = .ok (.iconst 3, 1) := by decide +kernel
theorem dX6_look_127 : decode cX6_look 127 = .ok (.if_icmp .ge 7, 3) := by decide +kernel
theorem dX6_look_130 : decode cX6_look 130 = .ok (.iconst 1, 1) := by decide +kernel
theorem dX6_look_131 : decode cX6_look 131 = .ok (.goto 4, 3) := by decide +kernel
theorem dX6_look_134 : decode cX6_look 134 = .ok (.iconst 0, 1) := by decide +kernel
theorem dX6_look_135 : decode cX6_look 135 = .ok (.istore_n 3, 1) := by decide +kernel
theorem dX6_look_136 : decode cX6_look 136 = .ok (.iload_n 3, 1) := by decide +kernel
theorem dX6_look_137 : decode cX6_look 137 = .ok (.ifCond .eq 78, 3) := by decide +kernel
theorem dX6_look_140 : decode cX6_look 140 = .ok (.aload_n 0, 1) := by decide +kernel
theorem dX6_look_141 : decode cX6_look 141 = .ok (.getfield 216, 3) := by decide +kernel
theorem dX6_look_144 : decode cX6_look 144 = .ok (.aload_n 0, 1) := by decide +kernel
theorem dX6_look_145 : decode cX6_look 145 = .ok (.getfield 219, 3) := by decide +kernel
theorem dX6_look_148 : decode cX6_look 148 = .ok (.iadd, 1) := by decide +kernel
theorem dX6_look_149 : decode cX6_look 149 = .ok (.aload_n 0, 1) := by decide +kernel
theorem dX6_look_150 : decode cX6_look 150 = .ok (.getfield 202, 3) := by decide +kernel
theorem dX6_look_153 : decode cX6_look 153 = .ok (.if_icmp .ge 62, 3) := by decide +kernel
theorem dX6_look_156 : decode cX6_look 156 = .ok (.aload_n 0, 1) := by decide +kernel
theorem dX6_look_157 : decode cX6_look 157 = .ok (.getfield 57, 3) := by decide +kernel
theorem dX6_look_160 : decode cX6_look 160 = .ok (.aload_n 0, 1) := by decide +kernel
theorem dX6_look_161 : decode cX6_look 161 = .ok (.getfield 216, 3) := by decide +kernel
theorem dX6_look_164 : decode cX6_look 164 = .ok (.aload_n 0, 1) := by decide +kernel
theorem dX6_look_165 : decode cX6_look 165 = .ok (.getfield 219, 3) := by decide +kernel
theorem dX6_look_168 : decode cX6_look 168 = .ok (.iadd, 1) := by decide +kernel
theorem dX6_look_169 : decode cX6_look 169 = .ok (.iaload, 1) := by decide +kernel
theorem dX6_look_170 : decode cX6_look 170 = .ok (.istore 4, 2) := by decide +kernel
theorem dX6_look_172 : decode cX6_look 172 = .ok (.aload_n 0, 1) := by decide +kernel
theorem dX6_look_173 : decode cX6_look 173 = .ok (.getfield 222, 3) := by decide +kernel
theorem dX6_look_176 : decode cX6_look 176 = .ok (.iconst 1, 1) := by decide +kernel
theorem dX6_look_177 : decode cX6_look 177 = .ok (.if_icmp .ne 11, 3) := by decide +kernel
theorem dX6_look_180 : decode cX6_look 180 = .ok (.iload 4, 2) := by decide +kernel
theorem dX6_look_182 : decode cX6_look 182 = .ok (.invokestatic 228, 3) := by decide +kernel
theorem dX6_look_185 : decode cX6_look 185 = .ok (.goto 8, 3) := by decide +kernel
theorem dX6_look_188 : decode cX6_look 188 = .ok (.iload 4, 2) := by decide +kernel
theorem dX6_look_190 : decode cX6_look 190 = .ok (.invokestatic 231, 3) := by decide +kernel
theorem dX6_look_193 : decode cX6_look 193 = .ok (.istore_n 3, 1) := by decide +kernel
theorem dX6_look_194 : decode cX6_look 194 = .ok (.aload_n 0, 1) := by decide +kernel
theorem dX6_look_195 : decode cX6_look 195 = .ok (.dup, 1) := by decide +kernel
theorem dX6_look_196 : decode cX6_look 196 = .ok (.getfield 219, 3) := by decide +kernel
theorem dX6_look_199 : decode cX6_look 199 = .ok (.iload_n 3, 1) := by decide +kernel
theorem dX6_look_200 : decode cX6_look 200 = .ok (.ifCond .eq 7, 3) := by decide +kernel
theorem dX6_look_203 : decode cX6_look 203 = .ok (.iconst 1, 1) := by decide +kernel
theorem dX6_look_204 : decode cX6_look 204 = .ok (.goto 4, 3) := by decide +kernel
theorem dX6_look_207 : decode cX6_look 207 = .ok (.iconst 0, 1) := by decide +kernel
theorem dX6_look_208 : decode cX6_look 208 = .ok (.iadd, 1) := by decide +kernel
theorem dX6_look_209 : decode cX6_look 209 = .ok (.putfield 219, 3) := by decide +kernel
theorem dX6_look_212 : decode cX6_look 212 = .ok (.goto (-76), 3) := by decide +kernel
theorem dX6_look_215 : decode cX6_look 215 = .ok (.aload_n 0, 1) := by decide +kernel
theorem dX6_look_216 : decode cX6_look 216 = .ok (.iload_n 2, 1) := by decide +kernel
theorem dX6_look_217 : decode cX6_look 217 = .ok (.bipush 48, 2) := by decide +kernel
theorem dX6_look_219 : decode cX6_look 219 = .ok (.isub, 1) := by decide +kernel
theorem dX6_look_220 : decode cX6_look 220 = .ok (.putfield 225, 3) := by decide +kernel
theorem dX6_look_223 : decode cX6_look 223 = .ok (.aload_n 0, 1) := by decide +kernel
theorem dX6_look_224 : decode cX6_look 224 = .ok (.aload_n 0, 1) := by decide +kernel
theorem dX6_look_225 : decode cX6_look 225 = .ok (.getfield 222, 3) := by decide +kernel
theorem dX6_look_228 : decode cX6_look 228 = .ok (.iconst 2, 1) := by decide +kernel
theorem dX6_look_229 : decode cX6_look 229 = .ok (.if_icmp .ne 15, 3) := by decide +kernel
theorem dX6_look_232 : decode cX6_look 232 = .ok (.aload_n 0, 1) := by decide +kernel
theorem dX6_look_233 : decode cX6_look 233 = .ok (.getfield 219, 3) := by decide +kernel
theorem dX6_look_236 : decode cX6_look 236 = .ok (.iconst 1, 1) := by decide +kernel
theorem dX6_look_237 : decode cX6_look 237 = .ok (.if_icmp .le 7, 3) := by decide +kernel
theorem dX6_look_240 : decode cX6_look 240 = .ok (.iconst 4, 1) := by decide +kernel
theorem dX6_look_241 : decode cX6_look 241 = .ok (.goto 7, 3) := by decide +kernel
theorem dX6_look_244 : decode cX6_look 244 = .ok (.aload_n 0, 1) := by decide +kernel
theorem dX6_look_245 : decode cX6_look 245 = .ok (.getfield 222, 3) := by decide +kernel
theorem dX6_look_248 : decode cX6_look 248 = .ok (.putfield 222, 3) := by decide +kernel
