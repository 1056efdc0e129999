theorem dX6_look_251 : decode cX6_look 251 = .ok (.return_, 1) := by decide +kernel
theorem dX6_goOn_0 : decode cX6_goOn 0 = .ok (.aload_n 0, 1) := by decide +kernel
theorem dX6_goOn_1 : decode cX6_goOn 1 = .ok (.aload_n 0, 1) := by decide +kernel
theorem dX6_goOn_2 : decode cX6_goOn 2 = .ok (.getfield 216, 3) := by decide +kernel
theorem dX6_goOn_5 : decode cX6_goOn 5 = .ok (.aload_n 0, 1) := by decide +kernel
theorem dX6_goOn_6 : decode cX6_goOn 6 = .ok (.getfield 219, 3) := by decide +kernel
theorem dX6_goOn_9 : decode cX6_goOn 9 = .ok (.iadd, 1) := by decide +kernel
theorem dX6_goOn_10 : decode cX6_goOn 10 = .ok (.invokevirtual 234, 3) := by decide +kernel
theorem dX6_goOn_13 : decode cX6_goOn 13 = .ok (.return_, 1) := by decide +kernel
theorem dX6_isWord_0 : decode cX6_isWord 0 = .ok (.iload 5, 2) := by decide +kernel
theorem dX6_isWord_2 : decode cX6_isWord 2 = .ok (.ifCond .ne 7, 3) := by decide +kernel
theorem dX6_isWord_5 : decode cX6_isWord 5 = .ok (.iconst 4, 1) := by decide +kernel
theorem dX6_isWord_6 : decode cX6_isWord 6 = .ok (.goto 14, 3) := by decide +kernel
theorem dX6_isWord_9 : decode cX6_isWord 9 = .ok (.iload 6, 2) := by decide +kernel
theorem dX6_isWord_11 : decode cX6_isWord 11 = .ok (.ifCond .ne 7, 3) := by decide +kernel
theorem dX6_isWord_14 : decode cX6_isWord 14 = .ok (.iconst 5, 1) := by decide +kernel
theorem dX6_isWord_15 : decode cX6_isWord 15 = .ok (.goto 5, 3) := by decide +kernel
theorem dX6_isWord_18 : decode cX6_isWord 18 = .ok (.bipush 6, 2) := by decide +kernel
theorem dX6_isWord_20 : decode cX6_isWord 20 = .ok (.istore 7, 2) := by decide +kernel
theorem dX6_isWord_22 : decode cX6_isWord 22 = .ok (.aload_n 0, 1) := by decide +kernel
theorem dX6_isWord_23 : decode cX6_isWord 23 = .ok (.getfield 222, 3) := by decide +kernel
theorem dX6_isWord_26 : decode cX6_isWord 26 = .ok (.iconst 1, 1) := by decide +kernel
theorem dX6_isWord_27 : decode cX6_isWord 27 = .ok (.if_icmp .ne 16, 3) := by decide +kernel
theorem dX6_isWord_30 : decode cX6_isWord 30 = .ok (.aload_n 0, 1) := by decide +kernel
theorem dX6_isWord_31 : decode cX6_isWord 31 = .ok (.getfield 219, 3) := by decide +kernel
theorem dX6_isWord_34 : decode cX6_isWord 34 = .ok (.iload 7, 2) := by decide +kernel
theorem dX6_isWord_36 : decode cX6_isWord 36 = .ok (.if_icmp .ne 7, 3) := by decide +kernel
theorem dX6_isWord_39 : decode cX6_isWord 39 = .ok (.iconst 1, 1) := by decide +kernel
theorem dX6_isWord_40 : decode cX6_isWord 40 = .ok (.goto 4, 3) := by decide +kernel
theorem dX6_isWord_43 : decode cX6_isWord 43 = .ok (.iconst 0, 1) := by decide +kernel
theorem dX6_isWord_44 : decode cX6_isWord 44 = .ok (.istore 8, 2) := by decide +kernel
theorem dX6_isWord_46 : decode cX6_isWord 46 = .ok (.iconst 0, 1) := by decide +kernel
theorem dX6_isWord_47 : decode cX6_isWord 47 = .ok (.istore 9, 2) := by decide +kernel
theorem dX6_isWord_49 : decode cX6_isWord 49 = .ok (.iload 9, 2) := by decide +kernel
theorem dX6_isWord_51 : decode cX6_isWord 51 = .ok (.iload 7, 2) := by decide +kernel
theorem dX6_isWord_53 : decode cX6_isWord 53 = .ok (.if_icmp .ge 89, 3) := by decide +kernel
theorem dX6_isWord_56 : decode cX6_isWord 56 = .ok (.iload 8, 2) := by decide +kernel
theorem dX6_isWord_58 : decode cX6_isWord 58 = .ok (.ifCond .eq 84, 3) := by decide +kernel
theorem dX6_isWord_61 : decode cX6_isWord 61 = .ok (.aload_n 0, 1) := by decide +kernel
theorem dX6_isWord_62 : decode cX6_isWord 62 = .ok (.getfield 57, 3) := by decide +kernel
theorem dX6_isWord_65 : decode cX6_isWord 65 = .ok (.aload_n 0, 1) := by decide +kernel
theorem dX6_isWord_66 : decode cX6_isWord 66 = .ok (.getfield 216, 3) := by decide +kernel
theorem dX6_isWord_69 : decode cX6_isWord 69 = .ok (.iload 9, 2) := by decide +kernel
theorem dX6_isWord_71 : decode cX6_isWord 71 = .ok (.iadd, 1) := by decide +kernel
theorem dX6_isWord_72 : decode cX6_isWord 72 = .ok (.iaload, 1) := by decide +kernel
theorem dX6_isWord_73 : decode cX6_isWord 73 = .ok (.iload 9, 2) := by decide +kernel
theorem dX6_isWord_75 : decode cX6_isWord 75 = .ok (.ifCond .ne 7, 3) := by decide +kernel
theorem dX6_isWord_78 : decode cX6_isWord 78 = .ok (.iload_n 1, 1) := by decide +kernel
theorem dX6_isWord_79 : decode cX6_isWord 79 = .ok (.goto 47, 3) := by decide +kernel
theorem dX6_isWord_82 : decode cX6_isWord 82 = .ok (.iload 9, 2) := by decide +kernel
theorem dX6_isWord_84 : decode cX6_isWord 84 = .ok (.iconst 1, 1) := by decide +kernel
theorem dX6_isWord_85 : decode cX6_isWord 85 = .ok (.if_icmp .ne 7, 3) := by decide +kernel
theorem dX6_isWord_88 : decode cX6_isWord 88 = .ok (.iload_n 2, 1) := by decide +kernel
theorem dX6_isWord_89 : decode cX6_isWord 89 = .ok (.goto 37, 3) := by decide +kernel
theorem dX6_isWord_92 : decode cX6_isWord 92 = .ok (.iload 9, 2) := by decide +kernel
theorem dX6_isWord_94 : decode cX6_isWord 94 = .ok (.iconst 2, 1) := by decide +kernel
theorem dX6_isWord_95 : decode cX6_isWord 95 = .ok (.if_icmp .ne 7, 3) := by decide +kernel
theorem dX6_isWord_98 : decode cX6_isWord 98 = .ok (.iload_n 3, 1) := by decide +kernel
theorem dX6_isWord_99 : decode cX6_isWord 99 = .ok (.goto 27, 3) := by decide +kernel
theorem dX6_isWord_102 : decode cX6_isWord 102 = .ok (.iload 9, 2) := by decide +kernel
theorem dX6_isWord_104 : decode cX6_isWord 104 = .ok (.iconst 3, 1) := by decide +kernel
theorem dX6_isWord_105 : decode cX6_isWord 105 = .ok (.if_icmp .ne 8, 3) := by decide +kernel
theorem dX6_isWord_108 : decode cX6_isWord 108 = .ok (.iload 4, 2) := by decide +kernel
theorem dX6_isWord_110 : decode cX6_isWord 110 = .ok (.goto 16, 3) := by decide +kernel
theorem dX6_isWord_113 : decode cX6_isWord 113 = .ok (.iload 9, 2) := by decide +kernel
theorem dX6_isWord_115 : decode cX6_isWord 115 = .ok (.iconst 4, 1) := by decide +kernel
theorem dX6_isWord_116 : decode cX6_isWord 116 = .ok (.if_icmp .ne 8, 3) := by decide +kernel
theorem dX6_isWord_119 : decode cX6_isWord 119 = .ok (.iload 5, 2) := by decide +kernel
theorem dX6_isWord_121 : decode cX6_isWord 121 = .ok (.goto 5, 3) := by decide +kernel
theorem dX6_isWord_124 : decode cX6_isWord 124 = .ok (.iload 6, 2) := by decide +kernel
theorem dX6_isWord_126 : decode cX6_isWord 126 = .ok (.if_icmp .ne 7, 3) := by decide +kernel
theorem dX6_isWord_129 : decode cX6_isWord 129 = .ok (.iconst 1, 1) := by decide +kernel
theorem dX6_isWord_130 : decode cX6_isWord 130 = .ok (.goto 4, 3) := by decide +kernel
theorem dX6_isWord_133 : decode cX6_isWord 133 = .ok (.iconst 0, 1) := by decide +kernel
theorem dX6_isWord_134 : decode cX6_isWord 134 = .ok (.istore 8, 2) := by decide +kernel
theorem dX6_isWord_136 : decode cX6_isWord 136 = .ok (.iinc 9 1, 3) := by decide +kernel
theorem dX6_isWord_139 : decode cX6_isWord 139 = .ok (.goto (-90), 3) := by decide +kernel
theorem dX6_isWord_142 : decode cX6_isWord 142 = .ok (.iload 8, 2) := by decide +kernel
theorem dX6_isWord_144 : decode cX6_isWord 144 = .ok (.ireturn, 1) := by decide +kernel
theorem dX6_takes_0 : decode cX6_takes 0 = .ok (.aload_n 0, 1) := by decide +kernel
theorem dX6_takes_1 : decode cX6_takes 1 = .ok (.getfield 222, 3) := by decide +kernel
theorem dX6_takes_4 : decode cX6_takes 4 = .ok (.iconst 2, 1) := by decide +kernel
theorem dX6_takes_5 : decode cX6_takes 5 = .ok (.if_icmp .ne 18, 3) := by decide +kernel
theorem dX6_takes_8 : decode cX6_takes 8 = .ok (.aload_n 0, 1) := by decide +kernel
theorem dX6_takes_9 : decode cX6_takes 9 = .ok (.getfield 225, 3) := by decide +kernel
theorem dX6_takes_12 : decode cX6_takes 12 = .ok (.i2l, 1) := by decide +kernel
theorem dX6_takes_13 : decode cX6_takes 13 = .ok (.iload_n 2, 1) := by decide +kernel
theorem dX6_takes_14 : decode cX6_takes 14 = .ok (.i2l, 1) := by decide +kernel
theorem dX6_takes_15 : decode cX6_takes 15 = .ok (.iload_n 3, 1) := by decide +kernel
theorem dX6_takes_16 : decode cX6_takes 16 = .ok (.i2l, 1) := by decide +kernel
theorem dX6_takes_17 : decode cX6_takes 17 = .ok (.invokestatic 74, 3) := by decide +kernel
theorem dX6_takes_20 : decode cX6_takes 20 = .ok (.ifCond .ne 5, 3) := by decide +kernel
theorem dX6_takes_23 : decode cX6_takes 23 = .ok (.iconst 0, 1) := by decide +kernel
theorem dX6_takes_24 : decode cX6_takes 24 = .ok (.ireturn, 1) := by decide +kernel
theorem dX6_takes_25 : decode cX6_takes 25 = .ok (.aload_n 0, 1) := by decide +kernel
theorem dX6_takes_26 : decode cX6_takes 26 = .ok (.getfield 63, 3) := by decide +kernel
theorem dX6_takes_29 : decode cX6_takes 29 = .ok (.iload_n 1, 1) := by decide +kernel
theorem dX6_takes_30 : decode cX6_takes 30 = .ok (.aload_n 0, 1) := by decide +kernel
theorem dX6_takes_31 : decode cX6_takes 31 = .ok (.getfield 225, 3) := by decide +kernel
theorem dX6_takes_34 : decode cX6_takes 34 = .ok (.iastore, 1) := by decide +kernel
theorem dX6_takes_35 : decode cX6_takes 35 = .ok (.aload_n 0, 1) := by decide +kernel
theorem dX6_takes_36 : decode cX6_takes 36 = .ok (.invokevirtual 237, 3) := by decide +kernel
theorem dX6_takes_39 : decode cX6_takes 39 = .ok (.iconst 1, 1) := by decide +kernel
theorem dX6_takes_40 : decode cX6_takes 40 = .ok (.ireturn, 1) := by decide +kernel
theorem dX6_readsThing_0 : decode cX6_readsThing 0 = .ok (.aload_n 0, 1) := by decide +kernel
theorem dX6_readsThing_1 : decode cX6_readsThing 1 = .ok (.getfield 60, 3) := by decide +kernel
theorem dX6_readsThing_4 : decode cX6_readsThing 4 = .ok (.iconst 0, 1) := by decide +kernel
theorem dX6_readsThing_5 : decode cX6_readsThing 5 = .ok (.iaload, 1) := by decide +kernel
theorem dX6_readsThing_6 : decode cX6_readsThing 6 = .ok (.istore_n 1, 1) := by decide +kernel
theorem dX6_readsThing_7 : decode cX6_readsThing 7 = .ok (.iload_n 1, 1) := by decide +kernel
theorem dX6_readsThing_8 : decode cX6_readsThing 8 = .ok (.bipush 9, 2) := by decide +kernel
theorem dX6_readsThing_10 : decode cX6_readsThing 10 = .ok (.if_icmp .ne 5, 3) := by decide +kernel
theorem dX6_readsThing_13 : decode cX6_readsThing 13 = .ok (.iconst 0, 1) := by decide +kernel
theorem dX6_readsThing_14 : decode cX6_readsThing 14 = .ok (.ireturn, 1) := by decide +kernel
theorem dX6_readsThing_15 : decode cX6_readsThing 15 = .ok (.aload_n 0, 1) := by decide +kernel
theorem dX6_readsThing_16 : decode cX6_readsThing 16 = .ok (.invokevirtual 237, 3) := by decide +kernel
theorem dX6_readsThing_19 : decode cX6_readsThing 19 = .ok (.aload_n 0, 1) := by decide +kernel
theorem dX6_readsThing_20 : decode cX6_readsThing 20 = .ok (.getfield 63, 3) := by decide +kernel
theorem dX6_readsThing_23 : decode cX6_readsThing 23 = .ok (.iconst 0, 1) := by decide +kernel
theorem dX6_readsThing_24 : decode cX6_readsThing 24 = .ok (.iconst (-1), 1) := by decide +kernel
theorem dX6_readsThing_25 : decode cX6_readsThing 25 = .ok (.iastore, 1) := by decide +kernel
theorem dX6_readsThing_26 : decode cX6_readsThing 26 = .ok (.aload_n 0, 1) := by decide +kernel
theorem dX6_readsThing_27 : decode cX6_readsThing 27 = .ok (.getfield 222, 3) := by decide +kernel
theorem dX6_readsThing_30 : decode cX6_readsThing 30 = .ok (.iconst 2, 1) := by decide +kernel
theorem dX6_readsThing_31 : decode cX6_readsThing 31 = .ok (.if_icmp .ne 17, 3) := by decide +kernel
theorem dX6_readsThing_34 : decode cX6_readsThing 34 = .ok (.aload_n 0, 1) := by decide +kernel
theorem dX6_readsThing_35 : decode cX6_readsThing 35 = .ok (.iconst 0, 1) := by decide +kernel
theorem dX6_readsThing_36 : decode cX6_readsThing 36 = .ok (.iconst 0, 1) := by decide +kernel
theorem dX6_readsThing_37 : decode cX6_readsThing 37 = .ok (.iload_n 1, 1) := by decide +kernel
theorem dX6_readsThing_38 : decode cX6_readsThing 38 = .ok (.iconst 1, 1) := by decide +kernel
theorem dX6_readsThing_39 : decode cX6_readsThing 39 = .ok (.isub, 1) := by decide +kernel
theorem dX6_readsThing_40 : decode cX6_readsThing 40 = .ok (.invokevirtual 240, 3) := by decide +kernel
theorem dX6_readsThing_43 : decode cX6_readsThing 43 = .ok (.ifCond .ne 5, 3) := by decide +kernel
theorem dX6_readsThing_46 : decode cX6_readsThing 46 = .ok (.iconst 0, 1) := by decide +kernel
theorem dX6_readsThing_47 : decode cX6_readsThing 47 = .ok (.ireturn, 1) := by decide +kernel
theorem dX6_readsThing_48 : decode cX6_readsThing 48 = .ok (.aload_n 0, 1) := by decide +kernel
theorem dX6_readsThing_49 : decode cX6_readsThing 49 = .ok (.getfield 60, 3) := by decide +kernel
theorem dX6_readsThing_52 : decode cX6_readsThing 52 = .ok (.iconst 1, 1) := by decide +kernel
theorem dX6_readsThing_53 : decode cX6_readsThing 53 = .ok (.iload_n 1, 1) := by decide +kernel
theorem dX6_readsThing_54 : decode cX6_readsThing 54 = .ok (.iadd, 1) := by decide +kernel
theorem dX6_readsThing_55 : decode cX6_readsThing 55 = .ok (.aload_n 0, 1) := by decide +kernel
theorem dX6_readsThing_56 : decode cX6_readsThing 56 = .ok (.getfield 63, 3) := by decide +kernel
theorem dX6_readsThing_59 : decode cX6_readsThing 59 = .ok (.iconst 0, 1) := by decide +kernel
theorem dX6_readsThing_60 : decode cX6_readsThing 60 = .ok (.iaload, 1) := by decide +kernel
theorem dX6_readsThing_61 : decode cX6_readsThing 61 = .ok (.iastore, 1) := by decide +kernel
theorem dX6_readsThing_62 : decode cX6_readsThing 62 = .ok (.aload_n 0, 1) := by decide +kernel
theorem dX6_readsThing_63 : decode cX6_readsThing 63 = .ok (.getfield 60, 3) := by decide +kernel
theorem dX6_readsThing_66 : decode cX6_readsThing 66 = .ok (.iconst 0, 1) := by decide +kernel
theorem dX6_readsThing_67 : decode cX6_readsThing 67 = .ok (.dup2, 1) := by decide +kernel
theorem dX6_readsThing_68 : decode cX6_readsThing 68 = .ok (.iaload, 1) := by decide +kernel
theorem dX6_readsThing_69 : decode cX6_readsThing 69 = .ok (.iconst 1, 1) := by decide +kernel
theorem dX6_readsThing_70 : decode cX6_readsThing 70 = .ok (.iadd, 1) := by decide +kernel
theorem dX6_readsThing_71 : decode cX6_readsThing 71 = .ok (.iastore, 1) := by decide +kernel
theorem dX6_readsThing_72 : decode cX6_readsThing 72 = .ok (.iconst 1, 1) := by decide +kernel
theorem dX6_readsThing_73 : decode cX6_readsThing 73 = .ok (.ireturn, 1) := by decide +kernel
theorem dX6_readsSize_0 : decode cX6_readsSize 0 = .ok (.aload_n 0, 1) := by decide +kernel
theorem dX6_readsSize_1 : decode cX6_readsSize 1 = .ok (.getfield 244, 3) := by decide +kernel
theorem dX6_readsSize_4 : decode cX6_readsSize 4 = .ok (.ifCond .eq 5, 3) := by decide +kernel
theorem dX6_readsSize_7 : decode cX6_readsSize 7 = .ok (.iconst 0, 1) := by decide +kernel
theorem dX6_readsSize_8 : decode cX6_readsSize 8 = .ok (.ireturn, 1) := by decide +kernel
theorem dX6_readsSize_9 : decode cX6_readsSize 9 = .ok (.aload_n 0, 1) := by decide +kernel
theorem dX6_readsSize_10 : decode cX6_readsSize 10 = .ok (.invokevirtual 237, 3) := by decide +kernel
theorem dX6_readsSize_13 : decode cX6_readsSize 13 = .ok (.aload_n 0, 1) := by decide +kernel
theorem dX6_readsSize_14 : decode cX6_readsSize 14 = .ok (.iconst 0, 1) := by decide +kernel
theorem dX6_readsSize_15 : decode cX6_readsSize 15 = .ok (.iconst 1, 1) := by decide +kernel
theorem dX6_readsSize_16 : decode cX6_readsSize 16 = .ok (.iconst 5, 1) := by decide +kernel
theorem dX6_readsSize_17 : decode cX6_readsSize 17 = .ok (.invokevirtual 240, 3) := by decide +kernel
theorem dX6_readsSize_20 : decode cX6_readsSize 20 = .ok (.istore_n 2, 1) := by decide +kernel
theorem dX6_readsSize_21 : decode cX6_readsSize 21 = .ok (.aload_n 0, 1) := by decide +kernel
theorem dX6_readsSize_22 : decode cX6_readsSize 22 = .ok (.getfield 60, 3) := by decide +kernel
theorem dX6_readsSize_25 : decode cX6_readsSize 25 = .ok (.iload_n 1, 1) := by decide +kernel
theorem dX6_readsSize_26 : decode cX6_readsSize 26 = .ok (.aload_n 0, 1) := by decide +kernel
theorem dX6_readsSize_27 : decode cX6_readsSize 27 = .ok (.getfield 63, 3) := by decide +kernel
theorem dX6_readsSize_30 : decode cX6_readsSize 30 = .ok (.iconst 0, 1) := by decide +kernel
theorem dX6_readsSize_31 : decode cX6_readsSize 31 = .ok (.iaload, 1) := by decide +kernel
theorem dX6_readsSize_32 : decode cX6_readsSize 32 = .ok (.iastore, 1) := by decide +kernel
theorem dX6_readsSize_33 : decode cX6_readsSize 33 = .ok (.iload_n 2, 1) := by decide +kernel
theorem dX6_readsSize_34 : decode cX6_readsSize 34 = .ok (.ireturn, 1) := by decide +kernel
theorem dX6_readsHour_0 : decode cX6_readsHour 0 = .ok (.aload_n 0, 1) := by decide +kernel
theorem dX6_readsHour_1 : decode cX6_readsHour 1 = .ok (.iconst 1, 1) := by decide +kernel
theorem dX6_readsHour_2 : decode cX6_readsHour 2 = .ok (.putfield 244, 3) := by decide +kernel
theorem dX6_readsHour_5 : decode cX6_readsHour 5 = .ok (.aload_n 0, 1) := by decide +kernel
theorem dX6_readsHour_6 : decode cX6_readsHour 6 = .ok (.invokevirtual 237, 3) := by decide +kernel
theorem dX6_readsHour_9 : decode cX6_readsHour 9 = .ok (.aload_n 0, 1) := by decide +kernel
theorem dX6_readsHour_10 : decode cX6_readsHour 10 = .ok (.iconst 0, 1) := by decide +kernel
theorem dX6_readsHour_11 : decode cX6_readsHour 11 = .ok (.iconst 0, 1) := by decide +kernel
theorem dX6_readsHour_12 : decode cX6_readsHour 12 = .ok (.aload_n 0, 1) := by decide +kernel
theorem dX6_readsHour_13 : decode cX6_readsHour 13 = .ok (.getfield 60, 3) := by decide +kernel
theorem dX6_readsHour_16 : decode cX6_readsHour 16 = .ok (.bipush 11, 2) := by decide +kernel
theorem dX6_readsHour_18 : decode cX6_readsHour 18 = .ok (.iaload, 1) := by decide +kernel
theorem dX6_readsHour_19 : decode cX6_readsHour 19 = .ok (.iconst 1, 1) := by decide +kernel
theorem dX6_readsHour_20 : decode cX6_readsHour 20 = .ok (.isub, 1) := by decide +kernel
theorem dX6_readsHour_21 : decode cX6_readsHour 21 = .ok (.invokevirtual 240, 3) := by decide +kernel
theorem dX6_readsHour_24 : decode cX6_readsHour 24 = .ok (.ifCond .eq 13, 3) := by decide +kernel
theorem dX6_readsHour_27 : decode cX6_readsHour 27 = .ok (.aload_n 0, 1) := by decide +kernel
theorem dX6_readsHour_28 : decode cX6_readsHour 28 = .ok (.iconst 1, 1) := by decide +kernel
theorem dX6_readsHour_29 : decode cX6_readsHour 29 = .ok (.iconst 0, 1) := by decide +kernel
theorem dX6_readsHour_30 : decode cX6_readsHour 30 = .ok (.iconst 5, 1) := by decide +kernel
theorem dX6_readsHour_31 : decode cX6_readsHour 31 = .ok (.invokevirtual 240, 3) := by decide +kernel
theorem dX6_readsHour_34 : decode cX6_readsHour 34 = .ok (.ifCond .ne 5, 3) := by decide +kernel
theorem dX6_readsHour_37 : decode cX6_readsHour 37 = .ok (.iconst 0, 1) := by decide +kernel
theorem dX6_readsHour_38 : decode cX6_readsHour 38 = .ok (.ireturn, 1) := by decide +kernel
theorem dX6_readsHour_39 : decode cX6_readsHour 39 = .ok (.aload_n 0, 1) := by decide +kernel
theorem dX6_readsHour_40 : decode cX6_readsHour 40 = .ok (.getfield 60, 3) := by decide +kernel
theorem dX6_readsHour_43 : decode cX6_readsHour 43 = .ok (.bipush 14, 2) := by decide +kernel
theorem dX6_readsHour_45 : decode cX6_readsHour 45 = .ok (.aload_n 0, 1) := by decide +kernel
theorem dX6_readsHour_46 : decode cX6_readsHour 46 = .ok (.getfield 63, 3) := by decide +kernel
theorem dX6_readsHour_49 : decode cX6_readsHour 49 = .ok (.iconst 0, 1) := by decide +kernel
theorem dX6_readsHour_50 : decode cX6_readsHour 50 = .ok (.iaload, 1) := by decide +kernel
theorem dX6_readsHour_51 : decode cX6_readsHour 51 = .ok (.iadd, 1) := by decide +kernel
theorem dX6_readsHour_52 : decode cX6_readsHour 52 = .ok (.aload_n 0, 1) := by decide +kernel
theorem dX6_readsHour_53 : decode cX6_readsHour 53 = .ok (.getfield 63, 3) := by decide +kernel
theorem dX6_readsHour_56 : decode cX6_readsHour 56 = .ok (.iconst 1, 1) := by decide +kernel
theorem dX6_readsHour_57 : decode cX6_readsHour 57 = .ok (.iaload, 1) := by decide +kernel
theorem dX6_readsHour_58 : decode cX6_readsHour 58 = .ok (.iastore, 1) := by decide +kernel
theorem dX6_readsHour_59 : decode cX6_readsHour 59 = .ok (.iconst 1, 1) := by decide +kernel
theorem dX6_readsHour_60 : decode cX6_readsHour 60 = .ok (.ireturn, 1) := by decide +kernel
theorem dX6_readsDoes_0 : decode cX6_readsDoes 0 = .ok (.aload_n 0, 1) := by decide +kernel
theorem dX6_readsDoes_1 : decode cX6_readsDoes 1 = .ok (.iconst 1, 1) := by decide +kernel
theorem dX6_readsDoes_2 : decode cX6_readsDoes 2 = .ok (.putfield 244, 3) := by decide +kernel
theorem dX6_readsDoes_5 : decode cX6_readsDoes 5 = .ok (.aload_n 0, 1) := by decide +kernel
theorem dX6_readsDoes_6 : decode cX6_readsDoes 6 = .ok (.invokevirtual 237, 3) := by decide +kernel
theorem dX6_readsDoes_9 : decode cX6_readsDoes 9 = .ok (.aload_n 0, 1) := by decide +kernel
theorem dX6_readsDoes_10 : decode cX6_readsDoes 10 = .ok (.iconst 0, 1) := by decide +kernel
theorem dX6_readsDoes_11 : decode cX6_readsDoes 11 = .ok (.iconst 0, 1) := by decide +kernel
theorem dX6_readsDoes_12 : decode cX6_readsDoes 12 = .ok (.aload_n 0, 1) := by decide +kernel
theorem dX6_readsDoes_13 : decode cX6_readsDoes 13 = .ok (.getfield 60, 3) := by decide +kernel
theorem dX6_readsDoes_16 : decode cX6_readsDoes 16 = .ok (.bipush 10, 2) := by decide +kernel
theorem dX6_readsDoes_18 : decode cX6_readsDoes 18 = .ok (.iaload, 1) := by decide +kernel
theorem dX6_readsDoes_19 : decode cX6_readsDoes 19 = .ok (.iconst 1, 1) := by decide +kernel
theorem dX6_readsDoes_20 : decode cX6_readsDoes 20 = .ok (.isub, 1) := by decide +kernel
theorem dX6_readsDoes_21 : decode cX6_readsDoes 21 = .ok (.invokevirtual 240, 3) := by decide +kernel
theorem dX6_readsDoes_24 : decode cX6_readsDoes 24 = .ok (.ifCond .eq 38, 3) := by decide +kernel
theorem dX6_readsDoes_27 : decode cX6_readsDoes 27 = .ok (.aload_n 0, 1) := by decide +kernel
theorem dX6_readsDoes_28 : decode cX6_readsDoes 28 = .ok (.iconst 1, 1) := by decide +kernel
theorem dX6_readsDoes_29 : decode cX6_readsDoes 29 = .ok (.iconst 0, 1) := by decide +kernel
theorem dX6_readsDoes_30 : decode cX6_readsDoes 30 = .ok (.aload_n 0, 1) := by decide +kernel
theorem dX6_readsDoes_31 : decode cX6_readsDoes 31 = .ok (.getfield 60, 3) := by decide +kernel
theorem dX6_readsDoes_34 : decode cX6_readsDoes 34 = .ok (.bipush 11, 2) := by decide +kernel
theorem dX6_readsDoes_36 : decode cX6_readsDoes 36 = .ok (.iaload, 1) := by decide +kernel
theorem dX6_readsDoes_37 : decode cX6_readsDoes 37 = .ok (.iconst 1, 1) := by decide +kernel
theorem dX6_readsDoes_38 : decode cX6_readsDoes 38 = .ok (.isub, 1) := by decide +kernel
theorem dX6_readsDoes_39 : decode cX6_readsDoes 39 = .ok (.invokevirtual 240, 3) := by decide +kernel
theorem dX6_readsDoes_42 : decode cX6_readsDoes 42 = .ok (.ifCond .eq 20, 3) := by decide +kernel
theorem dX6_readsDoes_45 : decode cX6_readsDoes 45 = .ok (.aload_n 0, 1) := by decide +kernel
theorem dX6_readsDoes_46 : decode cX6_readsDoes 46 = .ok (.iconst 2, 1) := by decide +kernel
theorem dX6_readsDoes_47 : decode cX6_readsDoes 47 = .ok (.iconst 0, 1) := by decide +kernel
theorem dX6_readsDoes_48 : decode cX6_readsDoes 48 = .ok (.aload_n 0, 1) := by decide +kernel
theorem dX6_readsDoes_49 : decode cX6_readsDoes 49 = .ok (.getfield 60, 3) := by decide +kernel
theorem dX6_readsDoes_52 : decode cX6_readsDoes 52 = .ok (.iconst 0, 1) := by decide +kernel
theorem dX6_readsDoes_53 : decode cX6_readsDoes 53 = .ok (.iaload, 1) := by decide +kernel
theorem dX6_readsDoes_54 : decode cX6_readsDoes 54 = .ok (.iconst 1, 1) := by decide +kernel
theorem dX6_readsDoes_55 : decode cX6_readsDoes 55 = .ok (.isub, 1) := by decide +kernel
theorem dX6_readsDoes_56 : decode cX6_readsDoes 56 = .ok (.invokevirtual 240, 3) := by decide +kernel
theorem dX6_readsDoes_59 : decode cX6_readsDoes 59 = .ok (.ifCond .ne 5, 3) := by decide +kernel
theorem dX6_readsDoes_62 : decode cX6_readsDoes 62 = .ok (.iconst 0, 1) := by decide +kernel
theorem dX6_readsDoes_63 : decode cX6_readsDoes 63 = .ok (.ireturn, 1) := by decide +kernel
theorem dX6_readsDoes_64 : decode cX6_readsDoes 64 = .ok (.aload_n 0, 1) := by decide +kernel
theorem dX6_readsDoes_65 : decode cX6_readsDoes 65 = .ok (.getfield 60, 3) := by decide +kernel
theorem dX6_readsDoes_68 : decode cX6_readsDoes 68 = .ok (.bipush 19, 2) := by decide +kernel
theorem dX6_readsDoes_70 : decode cX6_readsDoes 70 = .ok (.iconst 5, 1) := by decide +kernel
theorem dX6_readsDoes_71 : decode cX6_readsDoes 71 = .ok (.aload_n 0, 1) := by decide +kernel
theorem dX6_readsDoes_72 : decode cX6_readsDoes 72 = .ok (.getfield 63, 3) := by decide +kernel
theorem dX6_readsDoes_75 : decode cX6_readsDoes 75 = .ok (.iconst 0, 1) := by decide +kernel
theorem dX6_readsDoes_76 : decode cX6_readsDoes 76 = .ok (.iaload, 1) := by decide +kernel
theorem dX6_readsDoes_77 : decode cX6_readsDoes 77 = .ok (.imul, 1) := by decide +kernel
theorem dX6_readsDoes_78 : decode cX6_readsDoes 78 = .ok (.iadd, 1) := by decide +kernel
theorem dX6_readsDoes_79 : decode cX6_readsDoes 79 = .ok (.aload_n 0, 1) := by decide +kernel
theorem dX6_readsDoes_80 : decode cX6_readsDoes 80 = .ok (.getfield 63, 3) := by decide +kernel
theorem dX6_readsDoes_83 : decode cX6_readsDoes 83 = .ok (.iconst 1, 1) := by decide +kernel
theorem dX6_readsDoes_84 : decode cX6_readsDoes 84 = .ok (.iaload, 1) := by decide +kernel
theorem dX6_readsDoes_85 : decode cX6_readsDoes 85 = .ok (.iadd, 1) := by decide +kernel
theorem dX6_readsDoes_86 : decode cX6_readsDoes 86 = .ok (.aload_n 0, 1) := by decide +kernel
theorem dX6_readsDoes_87 : decode cX6_readsDoes 87 = .ok (.getfield 63, 3) := by decide +kernel
theorem dX6_readsDoes_90 : decode cX6_readsDoes 90 = .ok (.iconst 2, 1) := by decide +kernel
theorem dX6_readsDoes_91 : decode cX6_readsDoes 91 = .ok (.iaload, 1) := by decide +kernel
theorem dX6_readsDoes_92 : decode cX6_readsDoes 92 = .ok (.iastore, 1) := by decide +kernel
theorem dX6_readsDoes_93 : decode cX6_readsDoes 93 = .ok (.iconst 1, 1) := by decide +kernel
theorem dX6_readsDoes_94 : decode cX6_readsDoes 94 = .ok (.ireturn, 1) := by decide +kernel
theorem dX6_readsNeed_0 : decode cX6_readsNeed 0 = .ok (.aload_n 0, 1) := by decide +kernel
theorem dX6_readsNeed_1 : decode cX6_readsNeed 1 = .ok (.iconst 1, 1) := by decide +kernel
theorem dX6_readsNeed_2 : decode cX6_readsNeed 2 = .ok (.putfield 244, 3) := by decide +kernel
theorem dX6_readsNeed_5 : decode cX6_readsNeed 5 = .ok (.aload_n 0, 1) := by decide +kernel
theorem dX6_readsNeed_6 : decode cX6_readsNeed 6 = .ok (.invokevirtual 237, 3) := by decide +kernel
theorem dX6_readsNeed_9 : decode cX6_readsNeed 9 = .ok (.aload_n 0, 1) := by decide +kernel
theorem dX6_readsNeed_10 : decode cX6_readsNeed 10 = .ok (.iconst 0, 1) := by decide +kernel
theorem dX6_readsNeed_11 : decode cX6_readsNeed 11 = .ok (.iconst 0, 1) := by decide +kernel
theorem dX6_readsNeed_12 : decode cX6_readsNeed 12 = .ok (.aload_n 0, 1) := by decide +kernel
theorem dX6_readsNeed_13 : decode cX6_readsNeed 13 = .ok (.getfield 60, 3) := by decide +kernel
theorem dX6_readsNeed_16 : decode cX6_readsNeed 16 = .ok (.bipush 10, 2) := by decide +kernel
theorem dX6_readsNeed_18 : decode cX6_readsNeed 18 = .ok (.iaload, 1) := by decide +kernel
theorem dX6_readsNeed_19 : decode cX6_readsNeed 19 = .ok (.iconst 1, 1) := by decide +kernel
theorem dX6_readsNeed_20 : decode cX6_readsNeed 20 = .ok (.isub, 1) := by decide +kernel
theorem dX6_readsNeed_21 : decode cX6_readsNeed 21 = .ok (.invokevirtual 240, 3) := by decide +kernel
theorem dX6_readsNeed_24 : decode cX6_readsNeed 24 = .ok (.ifCond .eq 20, 3) := by decide +kernel
theorem dX6_readsNeed_27 : decode cX6_readsNeed 27 = .ok (.aload_n 0, 1) := by decide +kernel
theorem dX6_readsNeed_28 : decode cX6_readsNeed 28 = .ok (.iconst 1, 1) := by decide +kernel
theorem dX6_readsNeed_29 : decode cX6_readsNeed 29 = .ok (.iconst 0, 1) := by decide +kernel
theorem dX6_readsNeed_30 : decode cX6_readsNeed 30 = .ok (.aload_n 0, 1) := by decide +kernel
theorem dX6_readsNeed_31 : decode cX6_readsNeed 31 = .ok (.getfield 60, 3) := by decide +kernel
theorem dX6_readsNeed_34 : decode cX6_readsNeed 34 = .ok (.iconst 0, 1) := by decide +kernel
theorem dX6_readsNeed_35 : decode cX6_readsNeed 35 = .ok (.iaload, 1) := by decide +kernel
theorem dX6_readsNeed_36 : decode cX6_readsNeed 36 = .ok (.iconst 1, 1) := by decide +kernel
theorem dX6_readsNeed_37 : decode cX6_readsNeed 37 = .ok (.isub, 1) := by decide +kernel
theorem dX6_readsNeed_38 : decode cX6_readsNeed 38 = .ok (.invokevirtual 240, 3) := by decide +kernel
theorem dX6_readsNeed_41 : decode cX6_readsNeed 41 = .ok (.ifCond .ne 5, 3) := by decide +kernel
theorem dX6_readsNeed_44 : decode cX6_readsNeed 44 = .ok (.iconst 0, 1) := by decide +kernel
theorem dX6_readsNeed_45 : decode cX6_readsNeed 45 = .ok (.ireturn, 1) := by decide +kernel
theorem dX6_readsNeed_46 : decode cX6_readsNeed 46 = .ok (.bipush 44, 2) := by decide +kernel
theorem dX6_readsNeed_48 : decode cX6_readsNeed 48 = .ok (.bipush 9, 2) := by decide +kernel
theorem dX6_readsNeed_50 : decode cX6_readsNeed 50 = .ok (.aload_n 0, 1) := by decide +kernel
theorem dX6_readsNeed_51 : decode cX6_readsNeed 51 = .ok (.getfield 63, 3) := by decide +kernel
theorem dX6_readsNeed_54 : decode cX6_readsNeed 54 = .ok (.iconst 0, 1) := by decide +kernel
theorem dX6_readsNeed_55 : decode cX6_readsNeed 55 = .ok (.iaload, 1) := by decide +kernel
theorem dX6_readsNeed_56 : decode cX6_readsNeed 56 = .ok (.imul, 1) := by decide +kernel
theorem dX6_readsNeed_57 : decode cX6_readsNeed 57 = .ok (.iadd, 1) := by decide +kernel
theorem dX6_readsNeed_58 : decode cX6_readsNeed 58 = .ok (.aload_n 0, 1) := by decide +kernel
theorem dX6_readsNeed_59 : decode cX6_readsNeed 59 = .ok (.getfield 63, 3) := by decide +kernel
theorem dX6_readsNeed_62 : decode cX6_readsNeed 62 = .ok (.iconst 1, 1) := by decide +kernel
theorem dX6_readsNeed_63 : decode cX6_readsNeed 63 = .ok (.iaload, 1) := by decide +kernel
theorem dX6_readsNeed_64 : decode cX6_readsNeed 64 = .ok (.iadd, 1) := by decide +kernel
theorem dX6_readsNeed_65 : decode cX6_readsNeed 65 = .ok (.istore_n 1, 1) := by decide +kernel
theorem dX6_readsNeed_66 : decode cX6_readsNeed 66 = .ok (.aload_n 0, 1) := by decide +kernel
theorem dX6_readsNeed_67 : decode cX6_readsNeed 67 = .ok (.getfield 60, 3) := by decide +kernel
theorem dX6_readsNeed_70 : decode cX6_readsNeed 70 = .ok (.bipush 11, 2) := by decide +kernel
theorem dX6_readsNeed_72 : decode cX6_readsNeed 72 = .ok (.iaload, 1) := by decide +kernel
theorem dX6_readsNeed_73 : decode cX6_readsNeed 73 = .ok (.aload_n 0, 1) := by decide +kernel
theorem dX6_readsNeed_74 : decode cX6_readsNeed 74 = .ok (.getfield 60, 3) := by decide +kernel
theorem dX6_readsNeed_77 : decode cX6_readsNeed 77 = .ok (.aload_n 0, 1) := by decide +kernel
theorem dX6_readsNeed_78 : decode cX6_readsNeed 78 = .ok (.getfield 63, 3) := by decide +kernel
theorem dX6_readsNeed_81 : decode cX6_readsNeed 81 = .ok (.iconst 0, 1) := by decide +kernel
theorem dX6_readsNeed_82 : decode cX6_readsNeed 82 = .ok (.iaload, 1) := by decide +kernel
theorem dX6_readsNeed_83 : decode cX6_readsNeed 83 = .ok (.invokestatic 108, 3) := by decide +kernel
theorem dX6_readsNeed_86 : decode cX6_readsNeed 86 = .ok (.isub, 1) := by decide +kernel
theorem dX6_readsNeed_87 : decode cX6_readsNeed 87 = .ok (.aload_n 0, 1) := by decide +kernel
theorem dX6_readsNeed_88 : decode cX6_readsNeed 88 = .ok (.getfield 60, 3) := by decide +kernel
theorem dX6_readsNeed_91 : decode cX6_readsNeed 91 = .ok (.iload_n 1, 1) := by decide +kernel
theorem dX6_readsNeed_92 : decode cX6_readsNeed 92 = .ok (.iaload, 1) := by decide +kernel
theorem dX6_readsNeed_93 : decode cX6_readsNeed 93 = .ok (.iadd, 1) := by decide +kernel
theorem dX6_readsNeed_94 : decode cX6_readsNeed 94 = .ok (.istore_n 2, 1) := by decide +kernel
theorem dX6_readsNeed_95 : decode cX6_readsNeed 95 = .ok (.aload_n 0, 1) := by decide +kernel
theorem dX6_readsNeed_96 : decode cX6_readsNeed 96 = .ok (.iconst 2, 1) := by decide +kernel
theorem dX6_readsNeed_97 : decode cX6_readsNeed 97 = .ok (.iconst 0, 1) := by decide +kernel
theorem dX6_readsNeed_98 : decode cX6_readsNeed 98 = .ok (.iload_n 2, 1) := by decide +kernel
theorem dX6_readsNeed_99 : decode cX6_readsNeed 99 = .ok (.invokevirtual 240, 3) := by decide +kernel
theorem dX6_readsNeed_102 : decode cX6_readsNeed 102 = .ok (.ifCond .ne 5, 3) := by decide +kernel
theorem dX6_readsNeed_105 : decode cX6_readsNeed 105 = .ok (.iconst 0, 1) := by decide +kernel
theorem dX6_readsNeed_106 : decode cX6_readsNeed 106 = .ok (.ireturn, 1) := by decide +kernel
theorem dX6_readsNeed_107 : decode cX6_readsNeed 107 = .ok (.aload_n 0, 1) := by decide +kernel
theorem dX6_readsNeed_108 : decode cX6_readsNeed 108 = .ok (.getfield 60, 3) := by decide +kernel
theorem dX6_readsNeed_111 : decode cX6_readsNeed 111 = .ok (.iload_n 1, 1) := by decide +kernel
theorem dX6_readsNeed_112 : decode cX6_readsNeed 112 = .ok (.aload_n 0, 1) := by decide +kernel
theorem dX6_readsNeed_113 : decode cX6_readsNeed 113 = .ok (.getfield 63, 3) := by decide +kernel
theorem dX6_readsNeed_116 : decode cX6_readsNeed 116 = .ok (.iconst 2, 1) := by decide +kernel
theorem dX6_readsNeed_117 : decode cX6_readsNeed 117 = .ok (.iaload, 1) := by decide +kernel
theorem dX6_readsNeed_118 : decode cX6_readsNeed 118 = .ok (.iastore, 1) := by decide +kernel
theorem dX6_readsNeed_119 : decode cX6_readsNeed 119 = .ok (.iconst 1, 1) := by decide +kernel
theorem dX6_readsNeed_120 : decode cX6_readsNeed 120 = .ok (.ireturn, 1) := by decide +kernel
theorem dX6_readsItem_0 : decode cX6_readsItem 0 = .ok (.aload_n 0, 1) := by decide +kernel
theorem dX6_readsItem_1 : decode cX6_readsItem 1 = .ok (.bipush 116, 2) := by decide +kernel
theorem dX6_readsItem_3 : decode cX6_readsItem 3 = .ok (.bipush 104, 2) := by decide +kernel
theorem dX6_readsItem_5 : decode cX6_readsItem 5 = .ok (.bipush 105, 2) := by decide +kernel
theorem dX6_readsItem_7 : decode cX6_readsItem 7 = .ok (.bipush 110, 2) := by decide +kernel
theorem dX6_readsItem_9 : decode cX6_readsItem 9 = .ok (.bipush 103, 2) := by decide +kernel
theorem dX6_readsItem_11 : decode cX6_readsItem 11 = .ok (.iconst 0, 1) := by decide +kernel
theorem dX6_readsItem_12 : decode cX6_readsItem 12 = .ok (.invokevirtual 248, 3) := by decide +kernel
theorem dX6_readsItem_15 : decode cX6_readsItem 15 = .ok (.ifCond .eq 8, 3) := by decide +kernel
theorem dX6_readsItem_18 : decode cX6_readsItem 18 = .ok (.aload_n 0, 1) := by decide +kernel
theorem dX6_readsItem_19 : decode cX6_readsItem 19 = .ok (.invokevirtual 252, 3) := by decide +kernel
theorem dX6_readsItem_22 : decode cX6_readsItem 22 = .ok (.ireturn, 1) := by decide +kernel
theorem dX6_readsItem_23 : decode cX6_readsItem 23 = .ok (.aload_n 0, 1) := by decide +kernel
theorem dX6_readsItem_24 : decode cX6_readsItem 24 = .ok (.bipush 112, 2) := by decide +kernel
theorem dX6_readsItem_26 : decode cX6_readsItem 26 = .ok (.bipush 101, 2) := by decide +kernel
theorem dX6_readsItem_28 : decode cX6_readsItem 28 = .ok (.bipush 111, 2) := by decide +kernel
theorem dX6_readsItem_30 : decode cX6_readsItem 30 = .ok (.bipush 112, 2) := by decide +kernel
theorem dX6_readsItem_32 : decode cX6_readsItem 32 = .ok (.bipush 108, 2) := by decide +kernel
theorem dX6_readsItem_34 : decode cX6_readsItem 34 = .ok (.bipush 101, 2) := by decide +kernel
theorem dX6_readsItem_36 : decode cX6_readsItem 36 = .ok (.invokevirtual 248, 3) := by decide +kernel
theorem dX6_readsItem_39 : decode cX6_readsItem 39 = .ok (.ifCond .eq 10, 3) := by decide +kernel
theorem dX6_readsItem_42 : decode cX6_readsItem 42 = .ok (.aload_n 0, 1) := by decide +kernel
theorem dX6_readsItem_43 : decode cX6_readsItem 43 = .ok (.bipush 10, 2) := by decide +kernel
theorem dX6_readsItem_45 : decode cX6_readsItem 45 = .ok (.invokevirtual 256, 3) := by decide +kernel
theorem dX6_readsItem_48 : decode cX6_readsItem 48 = .ok (.ireturn, 1) := by decide +kernel
theorem dX6_readsItem_49 : decode cX6_readsItem 49 = .ok (.aload_n 0, 1) := by decide +kernel
theorem dX6_readsItem_50 : decode cX6_readsItem 50 = .ok (.bipush 104, 2) := by decide +kernel
theorem dX6_readsItem_52 : decode cX6_readsItem 52 = .ok (.bipush 111, 2) := by decide +kernel
theorem dX6_readsItem_54 : decode cX6_readsItem 54 = .ok (.bipush 117, 2) := by decide +kernel
theorem dX6_readsItem_56 : decode cX6_readsItem 56 = .ok (.bipush 114, 2) := by decide +kernel
theorem dX6_readsItem_58 : decode cX6_readsItem 58 = .ok (.bipush 115, 2) := by decide +kernel
theorem dX6_readsItem_60 : decode cX6_readsItem 60 = .ok (.iconst 0, 1) := by decide +kernel
theorem dX6_readsItem_61 : decode cX6_readsItem 61 = .ok (.invokevirtual 248, 3) := by decide +kernel
theorem dX6_readsItem_64 : decode cX6_readsItem 64 = .ok (.ifCond .eq 10, 3) := by decide +kernel
theorem dX6_readsItem_67 : decode cX6_readsItem 67 = .ok (.aload_n 0, 1) := by decide +kernel
theorem dX6_readsItem_68 : decode cX6_readsItem 68 = .ok (.bipush 11, 2) := by decide +kernel
theorem dX6_readsItem_70 : decode cX6_readsItem 70 = .ok (.invokevirtual 256, 3) := by decide +kernel
theorem dX6_readsItem_73 : decode cX6_readsItem 73 = .ok (.ireturn, 1) := by decide +kernel
theorem dX6_readsItem_74 : decode cX6_readsItem 74 = .ok (.aload_n 0, 1) := by decide +kernel
theorem dX6_readsItem_75 : decode cX6_readsItem 75 = .ok (.bipush 104, 2) := by decide +kernel
theorem dX6_readsItem_77 : decode cX6_readsItem 77 = .ok (.bipush 111, 2) := by decide +kernel
theorem dX6_readsItem_79 : decode cX6_readsItem 79 = .ok (.bipush 117, 2) := by decide +kernel
theorem dX6_readsItem_81 : decode cX6_readsItem 81 = .ok (.bipush 114, 2) := by decide +kernel
theorem dX6_readsItem_83 : decode cX6_readsItem 83 = .ok (.iconst 0, 1) := by decide +kernel
theorem dX6_readsItem_84 : decode cX6_readsItem 84 = .ok (.iconst 0, 1) := by decide +kernel
theorem dX6_readsItem_85 : decode cX6_readsItem 85 = .ok (.invokevirtual 248, 3) := by decide +kernel
theorem dX6_readsItem_88 : decode cX6_readsItem 88 = .ok (.ifCond .eq 8, 3) := by decide +kernel
theorem dX6_readsItem_91 : decode cX6_readsItem 91 = .ok (.aload_n 0, 1) := by decide +kernel
theorem dX6_readsItem_92 : decode cX6_readsItem 92 = .ok (.invokevirtual 259, 3) := by decide +kernel
theorem dX6_readsItem_95 : decode cX6_readsItem 95 = .ok (.ireturn, 1) := by decide +kernel
theorem dX6_readsItem_96 : decode cX6_readsItem 96 = .ok (.aload_n 0, 1) := by decide +kernel
theorem dX6_readsItem_97 : decode cX6_readsItem 97 = .ok (.bipush 100, 2) := by decide +kernel
theorem dX6_readsItem_99 : decode cX6_readsItem 99 = .ok (.bipush 111, 2) := by decide +kernel
theorem dX6_readsItem_101 : decode cX6_readsItem 101 = .ok (.bipush 101, 2) := by decide +kernel
theorem dX6_readsItem_103 : decode cX6_readsItem 103 = .ok (.bipush 115, 2) := by decide +kernel
theorem dX6_readsItem_105 : decode cX6_readsItem 105 = .ok (.iconst 0, 1) := by decide +kernel
theorem dX6_readsItem_106 : decode cX6_readsItem 106 = .ok (.iconst 0, 1) := by decide +kernel
theorem dX6_readsItem_107 : decode cX6_readsItem 107 = .ok (.invokevirtual 248, 3) := by decide +kernel
theorem dX6_readsItem_110 : decode cX6_readsItem 110 = .ok (.ifCond .eq 8, 3) := by decide +kernel
theorem dX6_readsItem_113 : decode cX6_readsItem 113 = .ok (.aload_n 0, 1) := by decide +kernel
theorem dX6_readsItem_114 : decode cX6_readsItem 114 = .ok (.invokevirtual 262, 3) := by decide +kernel
theorem dX6_readsItem_117 : decode cX6_readsItem 117 = .ok (.ireturn, 1) := by decide +kernel
theorem dX6_readsItem_118 : decode cX6_readsItem 118 = .ok (.aload_n 0, 1) := by decide +kernel
theorem dX6_readsItem_119 : decode cX6_readsItem 119 = .ok (.bipush 110, 2) := by decide +kernel
theorem dX6_readsItem_121 : decode cX6_readsItem 121 = .ok (.bipush 101, 2) := by decide +kernel
theorem dX6_readsItem_123 : decode cX6_readsItem 123 = .ok (.bipush 101, 2) := by decide +kernel
theorem dX6_readsItem_125 : decode cX6_readsItem 125 = .ok (.bipush 100, 2) := by decide +kernel
theorem dX6_readsItem_127 : decode cX6_readsItem 127 = .ok (.iconst 0, 1) := by decide +kernel
theorem dX6_readsItem_128 : decode cX6_readsItem 128 = .ok (.iconst 0, 1) := by decide +kernel
theorem dX6_readsItem_129 : decode cX6_readsItem 129 = .ok (.invokevirtual 248, 3) := by decide +kernel
theorem dX6_readsItem_132 : decode cX6_readsItem 132 = .ok (.ifCond .eq 8, 3) := by decide +kernel
theorem dX6_readsItem_135 : decode cX6_readsItem 135 = .ok (.aload_n 0, 1) := by decide +kernel
theorem dX6_readsItem_136 : decode cX6_readsItem 136 = .ok (.invokevirtual 265, 3) := by decide +kernel
theorem dX6_readsItem_139 : decode cX6_readsItem 139 = .ok (.ireturn, 1) := by decide +kernel
theorem dX6_readsItem_140 : decode cX6_readsItem 140 = .ok (.aload_n 0, 1) := by decide +kernel
theorem dX6_readsItem_141 : decode cX6_readsItem 141 = .ok (.bipush 108, 2) := by decide +kernel
theorem dX6_readsItem_143 : decode cX6_readsItem 143 = .ok (.bipush 105, 2) := by decide +kernel
theorem dX6_readsItem_145 : decode cX6_readsItem 145 = .ok (.bipush 110, 2) := by decide +kernel
theorem dX6_readsItem_147 : decode cX6_readsItem 147 = .ok (.bipush 101, 2) := by decide +kernel
theorem dX6_readsItem_149 : decode cX6_readsItem 149 = .ok (.iconst 0, 1) := by decide +kernel
theorem dX6_readsItem_150 : decode cX6_readsItem 150 = .ok (.iconst 0, 1) := by decide +kernel
theorem dX6_readsItem_151 : decode cX6_readsItem 151 = .ok (.invokevirtual 248, 3) := by decide +kernel
theorem dX6_readsItem_154 : decode cX6_readsItem 154 = .ok (.istore_n 1, 1) := by decide +kernel
theorem dX6_readsItem_155 : decode cX6_readsItem 155 = .ok (.iload_n 1, 1) := by decide +kernel
theorem dX6_readsItem_156 : decode cX6_readsItem 156 = .ok (.ifCond .ne 22, 3) := by decide +kernel
theorem dX6_readsItem_159 : decode cX6_readsItem 159 = .ok (.aload_n 0, 1) := by decide +kernel
theorem dX6_readsItem_160 : decode cX6_readsItem 160 = .ok (.bipush 114, 2) := by decide +kernel
theorem dX6_readsItem_162 : decode cX6_readsItem 162 = .ok (.bipush 105, 2) := by decide +kernel
theorem dX6_readsItem_164 : decode cX6_readsItem 164 = .ok (.bipush 99, 2) := by decide +kernel
theorem dX6_readsItem_166 : decode cX6_readsItem 166 = .ok (.bipush 104, 2) := by decide +kernel
theorem dX6_readsItem_168 : decode cX6_readsItem 168 = .ok (.iconst 0, 1) := by decide +kernel
theorem dX6_readsItem_169 : decode cX6_readsItem 169 = .ok (.iconst 0, 1) := by decide +kernel
theorem dX6_readsItem_170 : decode cX6_readsItem 170 = .ok (.invokevirtual 248, 3) := by decide +kernel
theorem dX6_readsItem_173 : decode cX6_readsItem 173 = .ok (.ifCond .ne 5, 3) := by decide +kernel
theorem dX6_readsItem_176 : decode cX6_readsItem 176 = .ok (.iconst 0, 1) := by decide +kernel
theorem dX6_readsItem_177 : decode cX6_readsItem 177 = .ok (.ireturn, 1) := by decide +kernel
theorem dX6_readsItem_178 : decode cX6_readsItem 178 = .ok (.aload_n 0, 1) := by decide +kernel
theorem dX6_readsItem_179 : decode cX6_readsItem 179 = .ok (.aload_n 0, 1) := by decide +kernel
theorem dX6_readsItem_180 : decode cX6_readsItem 180 = .ok (.getfield 244, 3) := by decide +kernel
theorem dX6_readsItem_183 : decode cX6_readsItem 183 = .ok (.ifCond .ne 7, 3) := by decide +kernel
theorem dX6_readsItem_186 : decode cX6_readsItem 186 = .ok (.iload_n 1, 1) := by decide +kernel
theorem dX6_readsItem_187 : decode cX6_readsItem 187 = .ok (.ifCond .ne 7, 3) := by decide +kernel
theorem dX6_readsItem_190 : decode cX6_readsItem 190 = .ok (.iconst 1, 1) := by decide +kernel
theorem dX6_readsItem_191 : decode cX6_readsItem 191 = .ok (.goto 4, 3) := by decide +kernel
theorem dX6_readsItem_194 : decode cX6_readsItem 194 = .ok (.iconst 0, 1) := by decide +kernel
theorem dX6_readsItem_195 : decode cX6_readsItem 195 = .ok (.putfield 244, 3) := by decide +kernel
theorem dX6_readsItem_198 : decode cX6_readsItem 198 = .ok (.aload_n 0, 1) := by decide +kernel
theorem dX6_readsItem_199 : decode cX6_readsItem 199 = .ok (.invokevirtual 237, 3) := by decide +kernel
theorem dX6_readsItem_202 : decode cX6_readsItem 202 = .ok (.aload_n 0, 1) := by decide +kernel
theorem dX6_readsItem_203 : decode cX6_readsItem 203 = .ok (.iconst 0, 1) := by decide +kernel
theorem dX6_readsItem_204 : decode cX6_readsItem 204 = .ok (.iconst 0, 1) := by decide +kernel
theorem dX6_readsItem_205 : decode cX6_readsItem 205 = .ok (.iload_n 1, 1) := by decide +kernel
theorem dX6_readsItem_206 : decode cX6_readsItem 206 = .ok (.ifCond .eq 7, 3) := by decide +kernel
theorem dX6_readsItem_209 : decode cX6_readsItem 209 = .ok (.iconst 4, 1) := by decide +kernel
theorem dX6_readsItem_210 : decode cX6_readsItem 210 = .ok (.goto 12, 3) := by decide +kernel
theorem dX6_readsItem_213 : decode cX6_readsItem 213 = .ok (.aload_n 0, 1) := by decide +kernel
theorem dX6_readsItem_214 : decode cX6_readsItem 214 = .ok (.getfield 60, 3) := by decide +kernel
theorem dX6_readsItem_217 : decode cX6_readsItem 217 = .ok (.bipush 10, 2) := by decide +kernel
theorem dX6_readsItem_219 : decode cX6_readsItem 219 = .ok (.iaload, 1) := by decide +kernel
theorem dX6_readsItem_220 : decode cX6_readsItem 220 = .ok (.iconst 1, 1) := by decide +kernel
theorem dX6_readsItem_221 : decode cX6_readsItem 221 = .ok (.isub, 1) := by decide +kernel
theorem dX6_readsItem_222 : decode cX6_readsItem 222 = .ok (.invokevirtual 240, 3) := by decide +kernel
theorem dX6_readsItem_225 : decode cX6_readsItem 225 = .ok (.istore_n 2, 1) := by decide +kernel
theorem dX6_readsItem_226 : decode cX6_readsItem 226 = .ok (.aload_n 0, 1) := by decide +kernel
theorem dX6_readsItem_227 : decode cX6_readsItem 227 = .ok (.getfield 60, 3) := by decide +kernel
theorem dX6_readsItem_230 : decode cX6_readsItem 230 = .ok (.iload_n 1, 1) := by decide +kernel
theorem dX6_readsItem_231 : decode cX6_readsItem 231 = .ok (.ifCond .eq 8, 3) := by decide +kernel
theorem dX6_readsItem_234 : decode cX6_readsItem 234 = .ok (.bipush 12, 2) := by decide +kernel
theorem dX6_readsItem_236 : decode cX6_readsItem 236 = .ok (.goto 5, 3) := by decide +kernel
theorem dX6_readsItem_239 : decode cX6_readsItem 239 = .ok (.bipush 13, 2) := by decide +kernel
theorem dX6_readsItem_241 : decode cX6_readsItem 241 = .ok (.aload_n 0, 1) := by decide +kernel
theorem dX6_readsItem_242 : decode cX6_readsItem 242 = .ok (.getfield 63, 3) := by decide +kernel
theorem dX6_readsItem_245 : decode cX6_readsItem 245 = .ok (.iconst 0, 1) := by decide +kernel
theorem dX6_readsItem_246 : decode cX6_readsItem 246 = .ok (.iaload, 1) := by decide +kernel
theorem dX6_readsItem_247 : decode cX6_readsItem 247 = .ok (.iastore, 1) := by decide +kernel
theorem dX6_readsItem_248 : decode cX6_readsItem 248 = .ok (.iload_n 2, 1) := by decide +kernel
theorem dX6_readsItem_249 : decode cX6_readsItem 249 = .ok (.ireturn, 1) := by decide +kernel
theorem dX6_read_0 : decode cX6_read 0 = .ok (.aload_n 0, 1) := by decide +kernel
theorem dX6_read_1 : decode cX6_read 1 = .ok (.getfield 60, 3) := by decide +kernel
theorem dX6_read_4 : decode cX6_read 4 = .ok (.iconst 0, 1) := by decide +kernel
theorem dX6_read_5 : decode cX6_read 5 = .ok (.iconst 0, 1) := by decide +kernel
theorem dX6_read_6 : decode cX6_read 6 = .ok (.iastore, 1) := by decide +kernel
theorem dX6_read_7 : decode cX6_read 7 = .ok (.aload_n 0, 1) := by decide +kernel
theorem dX6_read_8 : decode cX6_read 8 = .ok (.getfield 60, 3) := by decide +kernel
theorem dX6_read_11 : decode cX6_read 11 = .ok (.bipush 12, 2) := by decide +kernel
theorem dX6_read_13 : decode cX6_read 13 = .ok (.iconst 4, 1) := by decide +kernel
theorem dX6_read_14 : decode cX6_read 14 = .ok (.iastore, 1) := by decide +kernel
theorem dX6_read_15 : decode cX6_read 15 = .ok (.aload_n 0, 1) := by decide +kernel
theorem dX6_read_16 : decode cX6_read 16 = .ok (.getfield 60, 3) := by decide +kernel
theorem dX6_read_19 : decode cX6_read 19 = .ok (.iconst 3, 1) := by decide +kernel
theorem dX6_read_20 : decode cX6_read 20 = .ok (.iconst 4, 1) := by decide +kernel
theorem dX6_read_21 : decode cX6_read 21 = .ok (.invokestatic 66, 3) := by decide +kernel
theorem dX6_read_24 : decode cX6_read 24 = .ok (.aload_n 0, 1) := by decide +kernel
theorem dX6_read_25 : decode cX6_read 25 = .ok (.iconst 0, 1) := by decide +kernel
theorem dX6_read_26 : decode cX6_read 26 = .ok (.putfield 244, 3) := by decide +kernel
theorem dX6_read_29 : decode cX6_read 29 = .ok (.iconst 0, 1) := by decide +kernel
theorem dX6_read_30 : decode cX6_read 30 = .ok (.istore_n 1, 1) := by decide +kernel
theorem dX6_read_31 : decode cX6_read 31 = .ok (.aload_n 0, 1) := by decide +kernel
theorem dX6_read_32 : decode cX6_read 32 = .ok (.iconst 0, 1) := by decide +kernel
theorem dX6_read_33 : decode cX6_read 33 = .ok (.invokevirtual 234, 3) := by decide +kernel
theorem dX6_read_36 : decode cX6_read 36 = .ok (.aload_n 0, 1) := by decide +kernel
theorem dX6_read_37 : decode cX6_read 37 = .ok (.getfield 222, 3) := by decide +kernel
theorem dX6_read_40 : decode cX6_read 40 = .ok (.ifCond .eq 36, 3) := by decide +kernel
theorem dX6_read_43 : decode cX6_read 43 = .ok (.aload_n 0, 1) := by decide +kernel
theorem dX6_read_44 : decode cX6_read 44 = .ok (.invokevirtual 268, 3) := by decide +kernel
theorem dX6_read_47 : decode cX6_read 47 = .ok (.ifCond .eq 11, 3) := by decide +kernel
theorem dX6_read_50 : decode cX6_read 50 = .ok (.aload_n 0, 1) := by decide +kernel
theorem dX6_read_51 : decode cX6_read 51 = .ok (.getfield 222, 3) := by decide +kernel
theorem dX6_read_54 : decode cX6_read 54 = .ok (.iconst 3, 1) := by decide +kernel
theorem dX6_read_55 : decode cX6_read 55 = .ok (.if_icmp .eq 11, 3) := by decide +kernel
theorem dX6_read_58 : decode cX6_read 58 = .ok (.bipush (-10), 2) := by decide +kernel
theorem dX6_read_60 : decode cX6_read 60 = .ok (.aload_n 0, 1) := by decide +kernel
theorem dX6_read_61 : decode cX6_read 61 = .ok (.getfield 216, 3) := by decide +kernel
theorem dX6_read_64 : decode cX6_read 64 = .ok (.isub, 1) := by decide +kernel
theorem dX6_read_65 : decode cX6_read 65 = .ok (.ireturn, 1) := by decide +kernel
theorem dX6_read_66 : decode cX6_read 66 = .ok (.aload_n 0, 1) := by decide +kernel
theorem dX6_read_67 : decode cX6_read 67 = .ok (.invokevirtual 237, 3) := by decide +kernel
theorem dX6_read_70 : decode cX6_read 70 = .ok (.iinc 1 1, 3) := by decide +kernel
theorem dX6_read_73 : decode cX6_read 73 = .ok (.goto (-37), 3) := by decide +kernel
theorem dX6_read_76 : decode cX6_read 76 = .ok (.iconst 0, 1) := by decide +kernel
theorem dX6_read_77 : decode cX6_read 77 = .ok (.istore_n 2, 1) := by decide +kernel
theorem dX6_read_78 : decode cX6_read 78 = .ok (.iload_n 2, 1) := by decide +kernel
theorem dX6_read_79 : decode cX6_read 79 = .ok (.bipush 95, 2) := by decide +kernel
theorem dX6_read_81 : decode cX6_read 81 = .ok (.if_icmp .ge 21, 3) := by decide +kernel
theorem dX6_read_84 : decode cX6_read 84 = .ok (.aload_n 0, 1) := by decide +kernel
theorem dX6_read_85 : decode cX6_read 85 = .ok (.getfield 7, 3) := by decide +kernel
theorem dX6_read_88 : decode cX6_read 88 = .ok (.iload_n 2, 1) := by decide +kernel
theorem dX6_read_89 : decode cX6_read 89 = .ok (.aload_n 0, 1) := by decide +kernel
theorem dX6_read_90 : decode cX6_read 90 = .ok (.getfield 60, 3) := by decide +kernel
theorem dX6_read_93 : decode cX6_read 93 = .ok (.iload_n 2, 1) := by decide +kernel
theorem dX6_read_94 : decode cX6_read 94 = .ok (.iaload, 1) := by decide +kernel
theorem dX6_read_95 : decode cX6_read 95 = .ok (.iastore, 1) := by decide +kernel
theorem dX6_read_96 : decode cX6_read 96 = .ok (.iinc 2 1, 3) := by decide +kernel
theorem dX6_read_99 : decode cX6_read 99 = .ok (.goto (-21), 3) := by decide +kernel
theorem dX6_read_102 : decode cX6_read 102 = .ok (.iload_n 1, 1) := by decide +kernel
theorem dX6_read_103 : decode cX6_read 103 = .ok (.ireturn, 1) := by decide +kernel
theorem dX6_part_0 : decode cX6_part 0 = .ok (.iload_n 1, 1) := by decide +kernel
theorem dX6_part_1 : decode cX6_part 1 = .ok (.ifCond .ne 10, 3) := by decide +kernel
theorem dX6_part_4 : decode cX6_part 4 = .ok (.aload_n 0, 1) := by decide +kernel
theorem dX6_part_5 : decode cX6_part 5 = .ok (.getfield 197, 3) := by decide +kernel
theorem dX6_part_8 : decode cX6_part 8 = .ok (.goto 22, 3) := by decide +kernel
theorem dX6_part_11 : decode cX6_part 11 = .ok (.iload_n 1, 1) := by decide +kernel
theorem dX6_part_12 : decode cX6_part 12 = .ok (.iconst 1, 1) := by decide +kernel
theorem dX6_part_13 : decode cX6_part 13 = .ok (.if_icmp .ne 10, 3) := by decide +kernel
theorem dX6_part_16 : decode cX6_part 16 = .ok (.aload_n 0, 1) := by decide +kernel
theorem dX6_part_17 : decode cX6_part 17 = .ok (.getfield 23, 3) := by decide +kernel
theorem dX6_part_20 : decode cX6_part 20 = .ok (.goto 10, 3) := by decide +kernel
theorem dX6_part_23 : decode cX6_part 23 = .ok (.aload_n 0, 1) := by decide +kernel
theorem dX6_part_24 : decode cX6_part 24 = .ok (.bipush (-2), 2) := by decide +kernel
theorem dX6_part_26 : decode cX6_part 26 = .ok (.invokevirtual 88, 3) := by decide +kernel
theorem dX6_part_29 : decode cX6_part 29 = .ok (.i2l, 1) := by decide +kernel
theorem dX6_part_30 : decode cX6_part 30 = .ok (.lreturn, 1) := by decide +kernel
theorem dX6_image_0 : decode cX6_image 0 = .ok (.iload_n 1, 1) := by decide +kernel
theorem dX6_image_1 : decode cX6_image 1 = .ok (.i2l, 1) := by decide +kernel
theorem dX6_image_2 : decode cX6_image 2 = .ok (.lconst 0, 1) := by decide +kernel
theorem dX6_image_3 : decode cX6_image 3 = .ok (.lconst 1, 1) := by decide +kernel
theorem dX6_image_4 : decode cX6_image 4 = .ok (.invokestatic 74, 3) := by decide +kernel
theorem dX6_image_7 : decode cX6_image 7 = .ok (.ifCond .ne 10, 3) := by decide +kernel
theorem dX6_image_10 : decode cX6_image 10 = .ok (.aload_n 0, 1) := by decide +kernel
theorem dX6_image_11 : decode cX6_image 11 = .ok (.bipush (-2), 2) := by decide +kernel
theorem dX6_image_13 : decode cX6_image 13 = .ok (.invokevirtual 88, 3) := by decide +kernel
theorem dX6_image_16 : decode cX6_image 16 = .ok (.ireturn, 1) := by decide +kernel
theorem dX6_image_17 : decode cX6_image 17 = .ok (.iconst 0, 1) := by decide +kernel
theorem dX6_image_18 : decode cX6_image 18 = .ok (.istore_n 2, 1) := by decide +kernel
theorem dX6_image_19 : decode cX6_image 19 = .ok (.iload_n 2, 1) := by decide +kernel
theorem dX6_image_20 : decode cX6_image 20 = .ok (.bipush 125, 2) := by decide +kernel
theorem dX6_image_22 : decode cX6_image 22 = .ok (.if_icmp .ge 26, 3) := by decide +kernel
theorem dX6_image_25 : decode cX6_image 25 = .ok (.aload_n 0, 1) := by decide +kernel
theorem dX6_image_26 : decode cX6_image 26 = .ok (.getfield 13, 3) := by decide +kernel
theorem dX6_image_29 : decode cX6_image 29 = .ok (.bipush 125, 2) := by decide +kernel
theorem dX6_image_31 : decode cX6_image 31 = .ok (.iload_n 1, 1) := by decide +kernel
theorem dX6_image_32 : decode cX6_image 32 = .ok (.imul, 1) := by decide +kernel
theorem dX6_image_33 : decode cX6_image 33 = .ok (.iload_n 2, 1) := by decide +kernel
theorem dX6_image_34 : decode cX6_image 34 = .ok (.iadd, 1) := by decide +kernel
theorem dX6_image_35 : decode cX6_image 35 = .ok (.aload_n 0, 1) := by decide +kernel
theorem dX6_image_36 : decode cX6_image 36 = .ok (.getfield 7, 3) := by decide +kernel
theorem dX6_image_39 : decode cX6_image 39 = .ok (.iload_n 2, 1) := by decide +kernel
theorem dX6_image_40 : decode cX6_image 40 = .ok (.iaload, 1) := by decide +kernel
theorem dX6_image_41 : decode cX6_image 41 = .ok (.iastore, 1) := by decide +kernel
theorem dX6_image_42 : decode cX6_image 42 = .ok (.iinc 2 1, 3) := by decide +kernel
theorem dX6_image_45 : decode cX6_image 45 = .ok (.goto (-26), 3) := by decide +kernel
theorem dX6_image_48 : decode cX6_image 48 = .ok (.aload_n 0, 1) := by decide +kernel
theorem dX6_image_49 : decode cX6_image 49 = .ok (.getfield 16, 3) := by decide +kernel
theorem dX6_image_52 : decode cX6_image 52 = .ok (.iload_n 1, 1) := by decide +kernel
theorem dX6_image_53 : decode cX6_image 53 = .ok (.iconst 1, 1) := by decide +kernel
theorem dX6_image_54 : decode cX6_image 54 = .ok (.bastore, 1) := by decide +kernel
theorem dX6_image_55 : decode cX6_image 55 = .ok (.iconst 1, 1) := by decide +kernel
theorem dX6_image_56 : decode cX6_image 56 = .ok (.ireturn, 1) := by decide +kernel
theorem dX6_from_0 : decode cX6_from 0 = .ok (.iload_n 1, 1) := by decide +kernel
theorem dX6_from_1 : decode cX6_from 1 = .ok (.i2l, 1) := by decide +kernel
theorem dX6_from_2 : decode cX6_from 2 = .ok (.lconst 0, 1) := by decide +kernel
theorem dX6_from_3 : decode cX6_from 3 = .ok (.lconst 1, 1) := by decide +kernel
theorem dX6_from_4 : decode cX6_from 4 = .ok (.invokestatic 74, 3) := by decide +kernel
theorem dX6_from_7 : decode cX6_from 7 = .ok (.ifCond .ne 10, 3) := by decide +kernel
theorem dX6_from_10 : decode cX6_from 10 = .ok (.aload_n 0, 1) := by decide +kernel
theorem dX6_from_11 : decode cX6_from 11 = .ok (.bipush (-2), 2) := by decide +kernel
theorem dX6_from_13 : decode cX6_from 13 = .ok (.invokevirtual 88, 3) := by decide +kernel
theorem dX6_from_16 : decode cX6_from 16 = .ok (.ireturn, 1) := by decide +kernel
theorem dX6_from_17 : decode cX6_from 17 = .ok (.aload_n 0, 1) := by decide +kernel
theorem dX6_from_18 : decode cX6_from 18 = .ok (.getfield 16, 3) := by decide +kernel
theorem dX6_from_21 : decode cX6_from 21 = .ok (.iload_n 1, 1) := by decide +kernel
theorem dX6_from_22 : decode cX6_from 22 = .ok (.baload, 1) := by decide +kernel
theorem dX6_from_23 : decode cX6_from 23 = .ok (.ifCond .ne 8, 3) := by decide +kernel
theorem dX6_from_26 : decode cX6_from 26 = .ok (.aload_n 0, 1) := by decide +kernel
theorem dX6_from_27 : decode cX6_from 27 = .ok (.invokevirtual 105, 3) := by decide +kernel
theorem dX6_from_30 : decode cX6_from 30 = .ok (.ireturn, 1) := by decide +kernel
theorem dX6_from_31 : decode cX6_from 31 = .ok (.iconst 0, 1) := by decide +kernel
theorem dX6_from_32 : decode cX6_from 32 = .ok (.istore_n 2, 1) := by decide +kernel
theorem dX6_from_33 : decode cX6_from 33 = .ok (.iload_n 2, 1) := by decide +kernel
theorem dX6_from_34 : decode cX6_from 34 = .ok (.bipush 125, 2) := by decide +kernel
theorem dX6_from_36 : decode cX6_from 36 = .ok (.if_icmp .ge 26, 3) := by decide +kernel
theorem dX6_from_39 : decode cX6_from 39 = .ok (.aload_n 0, 1) := by decide +kernel
theorem dX6_from_40 : decode cX6_from 40 = .ok (.getfield 7, 3) := by decide +kernel
theorem dX6_from_43 : decode cX6_from 43 = .ok (.iload_n 2, 1) := by decide +kernel
theorem dX6_from_44 : decode cX6_from 44 = .ok (.aload_n 0, 1) := by decide +kernel
theorem dX6_from_45 : decode cX6_from 45 = .ok (.getfield 13, 3) := by decide +kernel
theorem dX6_from_48 : decode cX6_from 48 = .ok (.bipush 125, 2) := by decide +kernel
theorem dX6_from_50 : decode cX6_from 50 = .ok (.iload_n 1, 1) := by decide +kernel
theorem dX6_from_51 : decode cX6_from 51 = .ok (.imul, 1) := by decide +kernel
theorem dX6_from_52 : decode cX6_from 52 = .ok (.iload_n 2, 1) := by decide +kernel
theorem dX6_from_53 : decode cX6_from 53 = .ok (.iadd, 1) := by decide +kernel
theorem dX6_from_54 : decode cX6_from 54 = .ok (.iaload, 1) := by decide +kernel
theorem dX6_from_55 : decode cX6_from 55 = .ok (.iastore, 1) := by decide +kernel
theorem dX6_from_56 : decode cX6_from 56 = .ok (.iinc 2 1, 3) := by decide +kernel
theorem dX6_from_59 : decode cX6_from 59 = .ok (.goto (-26), 3) := by decide +kernel
theorem dX6_from_62 : decode cX6_from 62 = .ok (.iconst 1, 1) := by decide +kernel
theorem dX6_from_63 : decode cX6_from 63 = .ok (.ireturn, 1) := by decide +kernel
theorem dX6_status_0 : decode cX6_status 0 = .ok (.iload_n 1, 1) := by decide +kernel
theorem dX6_status_1 : decode cX6_status 1 = .ok (.i2l, 1) := by decide +kernel
theorem dX6_status_2 : decode cX6_status 2 = .ok (.lconst 0, 1) := by decide +kernel
theorem dX6_status_3 : decode cX6_status 3 = .ok (.ldc2_w 271, 3) := by decide +kernel
theorem dX6_status_6 : decode cX6_status 6 = .ok (.invokestatic 74, 3) := by decide +kernel
theorem dX6_status_9 : decode cX6_status 9 = .ok (.ifCond .eq 12, 3) := by decide +kernel
theorem dX6_status_12 : decode cX6_status 12 = .ok (.aload_n 0, 1) := by decide +kernel
theorem dX6_status_13 : decode cX6_status 13 = .ok (.getfield 20, 3) := by decide +kernel
theorem dX6_status_16 : decode cX6_status 16 = .ok (.iload_n 1, 1) := by decide +kernel
theorem dX6_status_17 : decode cX6_status 17 = .ok (.iaload, 1) := by decide +kernel
theorem dX6_status_18 : decode cX6_status 18 = .ok (.goto 8, 3) := by decide +kernel
theorem dX6_status_21 : decode cX6_status 21 = .ok (.aload_n 0, 1) := by decide +kernel
theorem dX6_status_22 : decode cX6_status 22 = .ok (.iconst (-1), 1) := by decide +kernel
theorem dX6_status_23 : decode cX6_status 23 = .ok (.invokevirtual 88, 3) := by decide +kernel
theorem dX6_status_26 : decode cX6_status 26 = .ok (.ireturn, 1) := by decide +kernel
theorem dX6_counted_0 : decode cX6_counted 0 = .ok (.iload_n 1, 1) := by decide +kernel
theorem dX6_counted_1 : decode cX6_counted 1 = .ok (.ifCond .ne 10, 3) := by decide +kernel
theorem dX6_counted_4 : decode cX6_counted 4 = .ok (.aload_n 0, 1) := by decide +kernel
theorem dX6_counted_5 : decode cX6_counted 5 = .ok (.invokevirtual 70, 3) := by decide +kernel
theorem dX6_counted_8 : decode cX6_counted 8 = .ok (.goto 46, 3) := by decide +kernel
theorem dX6_counted_11 : decode cX6_counted 11 = .ok (.iload_n 1, 1) := by decide +kernel
theorem dX6_counted_12 : decode cX6_counted 12 = .ok (.iconst 1, 1) := by decide +kernel
theorem dX6_counted_13 : decode cX6_counted 13 = .ok (.if_icmp .ne 10, 3) := by decide +kernel
theorem dX6_counted_16 : decode cX6_counted 16 = .ok (.aload_n 0, 1) := by decide +kernel
theorem dX6_counted_17 : decode cX6_counted 17 = .ok (.invokevirtual 78, 3) := by decide +kernel
theorem dX6_counted_20 : decode cX6_counted 20 = .ok (.goto 34, 3) := by decide +kernel
theorem dX6_counted_23 : decode cX6_counted 23 = .ok (.iload_n 1, 1) := by decide +kernel
theorem dX6_counted_24 : decode cX6_counted 24 = .ok (.iconst 2, 1) := by decide +kernel
theorem dX6_counted_25 : decode cX6_counted 25 = .ok (.if_icmp .ne 10, 3) := by decide +kernel
theorem dX6_counted_28 : decode cX6_counted 28 = .ok (.aload_n 0, 1) := by decide +kernel
theorem dX6_counted_29 : decode cX6_counted 29 = .ok (.invokevirtual 81, 3) := by decide +kernel
theorem dX6_counted_32 : decode cX6_counted 32 = .ok (.goto 22, 3) := by decide +kernel
theorem dX6_counted_35 : decode cX6_counted 35 = .ok (.iload_n 1, 1) := by decide +kernel
theorem dX6_counted_36 : decode cX6_counted 36 = .ok (.iconst 3, 1) := by decide +kernel
theorem dX6_counted_37 : decode cX6_counted 37 = .ok (.if_icmp .ne 13, 3) := by decide +kernel
theorem dX6_counted_40 : decode cX6_counted 40 = .ok (.aload_n 0, 1) := by decide +kernel
theorem dX6_counted_41 : decode cX6_counted 41 = .ok (.getfield 7, 3) := by decide +kernel
theorem dX6_counted_44 : decode cX6_counted 44 = .ok (.bipush 94, 2) := by decide +kernel
theorem dX6_counted_46 : decode cX6_counted 46 = .ok (.iaload, 1) := by decide +kernel
theorem dX6_counted_47 : decode cX6_counted 47 = .ok (.goto 7, 3) := by decide +kernel
theorem dX6_counted_50 : decode cX6_counted 50 = .ok (.aload_n 0, 1) := by decide +kernel
theorem dX6_counted_51 : decode cX6_counted 51 = .ok (.getfield 202, 3) := by decide +kernel
theorem dX6_counted_54 : decode cX6_counted 54 = .ok (.ireturn, 1) := by decide +kernel
theorem dX6_count_0 : decode cX6_count 0 = .ok (.iload_n 1, 1) := by decide +kernel
theorem dX6_count_1 : decode cX6_count 1 = .ok (.i2l, 1) := by decide +kernel
theorem dX6_count_2 : decode cX6_count 2 = .ok (.lconst 0, 1) := by decide +kernel
theorem dX6_count_3 : decode cX6_count 3 = .ok (.ldc2_w 100, 3) := by decide +kernel
theorem dX6_count_6 : decode cX6_count 6 = .ok (.invokestatic 74, 3) := by decide +kernel
theorem dX6_count_9 : decode cX6_count 9 = .ok (.ifCond .eq 11, 3) := by decide +kernel
theorem dX6_count_12 : decode cX6_count 12 = .ok (.aload_n 0, 1) := by decide +kernel
theorem dX6_count_13 : decode cX6_count 13 = .ok (.iload_n 1, 1) := by decide +kernel
theorem dX6_count_14 : decode cX6_count 14 = .ok (.invokevirtual 273, 3) := by decide +kernel
theorem dX6_count_17 : decode cX6_count 17 = .ok (.goto 9, 3) := by decide +kernel
theorem dX6_count_20 : decode cX6_count 20 = .ok (.aload_n 0, 1) := by decide +kernel
theorem dX6_count_21 : decode cX6_count 21 = .ok (.bipush (-2), 2) := by decide +kernel
theorem dX6_count_23 : decode cX6_count 23 = .ok (.invokevirtual 88, 3) := by decide +kernel
theorem dX6_count_26 : decode cX6_count 26 = .ok (.ireturn, 1) := by decide +kernel
theorem dX6_sums_0 : decode cX6_sums 0 = .ok (.lload_n 1, 1) := by decide +kernel
theorem dX6_sums_1 : decode cX6_sums 1 = .ok (.lstore 5, 2) := by decide +kernel
theorem dX6_sums_3 : decode cX6_sums 3 = .ok (.iconst 0, 1) := by decide +kernel
theorem dX6_sums_4 : decode cX6_sums 4 = .ok (.istore 7, 2) := by decide +kernel
theorem dX6_sums_6 : decode cX6_sums 6 = .ok (.iload 7, 2) := by decide +kernel
theorem dX6_sums_8 : decode cX6_sums 8 = .ok (.iload 4, 2) := by decide +kernel
theorem dX6_sums_10 : decode cX6_sums 10 = .ok (.if_icmp .ge 28, 3) := by decide +kernel
theorem dX6_sums_13 : decode cX6_sums 13 = .ok (.ldc2_w 276, 3) := by decide +kernel
theorem dX6_sums_16 : decode cX6_sums 16 = .ok (.lload 5, 2) := by decide +kernel
theorem dX6_sums_18 : decode cX6_sums 18 = .ok (.lmul, 1) := by decide +kernel
theorem dX6_sums_19 : decode cX6_sums 19 = .ok (.aload_n 0, 1) := by decide +kernel
theorem dX6_sums_20 : decode cX6_sums 20 = .ok (.getfield 7, 3) := by decide +kernel
theorem dX6_sums_23 : decode cX6_sums 23 = .ok (.iload_n 3, 1) := by decide +kernel
theorem dX6_sums_24 : decode cX6_sums 24 = .ok (.iload 7, 2) := by decide +kernel
theorem dX6_sums_26 : decode cX6_sums 26 = .ok (.iadd, 1) := by decide +kernel
theorem dX6_sums_27 : decode cX6_sums 27 = .ok (.iaload, 1) := by decide +kernel
theorem dX6_sums_28 : decode cX6_sums 28 = .ok (.i2l, 1) := by decide +kernel
theorem dX6_sums_29 : decode cX6_sums 29 = .ok (.ladd, 1) := by decide +kernel
theorem dX6_sums_30 : decode cX6_sums 30 = .ok (.lstore 5, 2) := by decide +kernel
theorem dX6_sums_32 : decode cX6_sums 32 = .ok (.iinc 7 1, 3) := by decide +kernel
theorem dX6_sums_35 : decode cX6_sums 35 = .ok (.goto (-29), 3) := by decide +kernel
theorem dX6_sums_38 : decode cX6_sums 38 = .ok (.lload 5, 2) := by decide +kernel
theorem dX6_sums_40 : decode cX6_sums 40 = .ok (.lreturn, 1) := by decide +kernel
theorem dX6_digest_0 : decode cX6_digest 0 = .ok (.ldc2_w 278, 3) := by decide +kernel
theorem dX6_digest_3 : decode cX6_digest 3 = .ok (.lstore_n 1, 1) := by decide +kernel
theorem dX6_digest_4 : decode cX6_digest 4 = .ok (.iconst 0, 1) := by decide +kernel
theorem dX6_digest_5 : decode cX6_digest 5 = .ok (.istore_n 3, 1) := by decide +kernel
theorem dX6_digest_6 : decode cX6_digest 6 = .ok (.iload_n 3, 1) := by decide +kernel
theorem dX6_digest_7 : decode cX6_digest 7 = .ok (.iconst 5, 1) := by decide +kernel
theorem dX6_digest_8 : decode cX6_digest 8 = .ok (.if_icmp .ge 22, 3) := by decide +kernel
theorem dX6_digest_11 : decode cX6_digest 11 = .ok (.ldc2_w 276, 3) := by decide +kernel
theorem dX6_digest_14 : decode cX6_digest 14 = .ok (.lload_n 1, 1) := by decide +kernel
theorem dX6_digest_15 : decode cX6_digest 15 = .ok (.lmul, 1) := by decide +kernel
theorem dX6_digest_16 : decode cX6_digest 16 = .ok (.aload_n 0, 1) := by decide +kernel
theorem dX6_digest_17 : decode cX6_digest 17 = .ok (.iload_n 3, 1) := by decide +kernel
theorem dX6_digest_18 : decode cX6_digest 18 = .ok (.invokevirtual 273, 3) := by decide +kernel
theorem dX6_digest_21 : decode cX6_digest 21 = .ok (.i2l, 1) := by decide +kernel
theorem dX6_digest_22 : decode cX6_digest 22 = .ok (.ladd, 1) := by decide +kernel
theorem dX6_digest_23 : decode cX6_digest 23 = .ok (.lstore_n 1, 1) := by decide +kernel
theorem dX6_digest_24 : decode cX6_digest 24 = .ok (.iinc 3 1, 3) := by decide +kernel
theorem dX6_digest_27 : decode cX6_digest 27 = .ok (.goto (-21), 3) := by decide +kernel
theorem dX6_digest_30 : decode cX6_digest 30 = .ok (.aload_n 0, 1) := by decide +kernel
theorem dX6_digest_31 : decode cX6_digest 31 = .ok (.lload_n 1, 1) := by decide +kernel
theorem dX6_digest_32 : decode cX6_digest 32 = .ok (.iconst 1, 1) := by decide +kernel
theorem dX6_digest_33 : decode cX6_digest 33 = .ok (.aload_n 0, 1) := by decide +kernel
theorem dX6_digest_34 : decode cX6_digest 34 = .ok (.invokevirtual 70, 3) := by decide +kernel
theorem dX6_digest_37 : decode cX6_digest 37 = .ok (.invokevirtual 280, 3) := by decide +kernel
theorem dX6_digest_40 : decode cX6_digest 40 = .ok (.lstore_n 1, 1) := by decide +kernel
theorem dX6_digest_41 : decode cX6_digest 41 = .ok (.aload_n 0, 1) := by decide +kernel
theorem dX6_digest_42 : decode cX6_digest 42 = .ok (.lload_n 1, 1) := by decide +kernel
theorem dX6_digest_43 : decode cX6_digest 43 = .ok (.bipush 12, 2) := by decide +kernel
theorem dX6_digest_45 : decode cX6_digest 45 = .ok (.iconst 2, 1) := by decide +kernel
theorem dX6_digest_46 : decode cX6_digest 46 = .ok (.invokevirtual 280, 3) := by decide +kernel
theorem dX6_digest_49 : decode cX6_digest 49 = .ok (.lstore_n 1, 1) := by decide +kernel
theorem dX6_digest_50 : decode cX6_digest 50 = .ok (.aload_n 0, 1) := by decide +kernel
theorem dX6_digest_51 : decode cX6_digest 51 = .ok (.lload_n 1, 1) := by decide +kernel
theorem dX6_digest_52 : decode cX6_digest 52 = .ok (.bipush 14, 2) := by decide +kernel
theorem dX6_digest_54 : decode cX6_digest 54 = .ok (.aload_n 0, 1) := by decide +kernel
theorem dX6_digest_55 : decode cX6_digest 55 = .ok (.invokevirtual 81, 3) := by decide +kernel
theorem dX6_digest_58 : decode cX6_digest 58 = .ok (.invokevirtual 280, 3) := by decide +kernel
theorem dX6_digest_61 : decode cX6_digest 61 = .ok (.lstore_n 1, 1) := by decide +kernel
theorem dX6_digest_62 : decode cX6_digest 62 = .ok (.iconst 0, 1) := by decide +kernel
theorem dX6_digest_63 : decode cX6_digest 63 = .ok (.istore_n 3, 1) := by decide +kernel
theorem dX6_digest_64 : decode cX6_digest 64 = .ok (.iload_n 3, 1) := by decide +kernel
theorem dX6_digest_65 : decode cX6_digest 65 = .ok (.aload_n 0, 1) := by decide +kernel
theorem dX6_digest_66 : decode cX6_digest 66 = .ok (.invokevirtual 78, 3) := by decide +kernel
theorem dX6_digest_69 : decode cX6_digest 69 = .ok (.if_icmp .ge 59, 3) := by decide +kernel
theorem dX6_digest_72 : decode cX6_digest 72 = .ok (.aload_n 0, 1) := by decide +kernel
theorem dX6_digest_73 : decode cX6_digest 73 = .ok (.lload_n 1, 1) := by decide +kernel
theorem dX6_digest_74 : decode cX6_digest 74 = .ok (.bipush 19, 2) := by decide +kernel
theorem dX6_digest_76 : decode cX6_digest 76 = .ok (.iconst 5, 1) := by decide +kernel
theorem dX6_digest_77 : decode cX6_digest 77 = .ok (.iload_n 3, 1) := by decide +kernel
theorem dX6_digest_78 : decode cX6_digest 78 = .ok (.imul, 1) := by decide +kernel
theorem dX6_digest_79 : decode cX6_digest 79 = .ok (.iadd, 1) := by decide +kernel
theorem dX6_digest_80 : decode cX6_digest 80 = .ok (.aload_n 0, 1) := by decide +kernel
theorem dX6_digest_81 : decode cX6_digest 81 = .ok (.invokevirtual 81, 3) := by decide +kernel
theorem dX6_digest_84 : decode cX6_digest 84 = .ok (.invokevirtual 280, 3) := by decide +kernel
theorem dX6_digest_87 : decode cX6_digest 87 = .ok (.lstore_n 1, 1) := by decide +kernel
theorem dX6_digest_88 : decode cX6_digest 88 = .ok (.aload_n 0, 1) := by decide +kernel
theorem dX6_digest_89 : decode cX6_digest 89 = .ok (.lload_n 1, 1) := by decide +kernel
theorem dX6_digest_90 : decode cX6_digest 90 = .ok (.bipush 44, 2) := by decide +kernel
theorem dX6_digest_92 : decode cX6_digest 92 = .ok (.bipush 9, 2) := by decide +kernel
theorem dX6_digest_94 : decode cX6_digest 94 = .ok (.iload_n 3, 1) := by decide +kernel
theorem dX6_digest_95 : decode cX6_digest 95 = .ok (.imul, 1) := by decide +kernel
theorem dX6_digest_96 : decode cX6_digest 96 = .ok (.iadd, 1) := by decide +kernel
theorem dX6_digest_97 : decode cX6_digest 97 = .ok (.aload_n 0, 1) := by decide +kernel
theorem dX6_digest_98 : decode cX6_digest 98 = .ok (.invokevirtual 70, 3) := by decide +kernel
theorem dX6_digest_101 : decode cX6_digest 101 = .ok (.invokevirtual 280, 3) := by decide +kernel
theorem dX6_digest_104 : decode cX6_digest 104 = .ok (.lstore_n 1, 1) := by decide +kernel
theorem dX6_digest_105 : decode cX6_digest 105 = .ok (.ldc2_w 276, 3) := by decide +kernel
theorem dX6_digest_108 : decode cX6_digest 108 = .ok (.lload_n 1, 1) := by decide +kernel
theorem dX6_digest_109 : decode cX6_digest 109 = .ok (.lmul, 1) := by decide +kernel
theorem dX6_digest_110 : decode cX6_digest 110 = .ok (.aload_n 0, 1) := by decide +kernel
theorem dX6_digest_111 : decode cX6_digest 111 = .ok (.getfield 7, 3) := by decide +kernel
theorem dX6_digest_114 : decode cX6_digest 114 = .ok (.bipush 89, 2) := by decide +kernel
theorem dX6_digest_116 : decode cX6_digest 116 = .ok (.iload_n 3, 1) := by decide +kernel
theorem dX6_digest_117 : decode cX6_digest 117 = .ok (.iadd, 1) := by decide +kernel
theorem dX6_digest_118 : decode cX6_digest 118 = .ok (.iaload, 1) := by decide +kernel
theorem dX6_digest_119 : decode cX6_digest 119 = .ok (.i2l, 1) := by decide +kernel
theorem dX6_digest_120 : decode cX6_digest 120 = .ok (.ladd, 1) := by decide +kernel
theorem dX6_digest_121 : decode cX6_digest 121 = .ok (.lstore_n 1, 1) := by decide +kernel
theorem dX6_digest_122 : decode cX6_digest 122 = .ok (.iinc 3 1, 3) := by decide +kernel
theorem dX6_digest_125 : decode cX6_digest 125 = .ok (.goto (-61), 3) := by decide +kernel
theorem dX6_digest_128 : decode cX6_digest 128 = .ok (.ldc2_w 276, 3) := by decide +kernel
theorem dX6_digest_131 : decode cX6_digest 131 = .ok (.ldc2_w 276, 3) := by decide +kernel
theorem dX6_digest_134 : decode cX6_digest 134 = .ok (.lload_n 1, 1) := by decide +kernel
theorem dX6_digest_135 : decode cX6_digest 135 = .ok (.lmul, 1) := by decide +kernel
theorem dX6_digest_136 : decode cX6_digest 136 = .ok (.aload_n 0, 1) := by decide +kernel
theorem dX6_digest_137 : decode cX6_digest 137 = .ok (.getfield 197, 3) := by decide +kernel
theorem dX6_digest_140 : decode cX6_digest 140 = .ok (.ladd, 1) := by decide +kernel
theorem dX6_digest_141 : decode cX6_digest 141 = .ok (.lmul, 1) := by decide +kernel
theorem dX6_digest_142 : decode cX6_digest 142 = .ok (.aload_n 0, 1) := by decide +kernel
theorem dX6_digest_143 : decode cX6_digest 143 = .ok (.getfield 23, 3) := by decide +kernel
theorem dX6_digest_146 : decode cX6_digest 146 = .ok (.ladd, 1) := by decide +kernel
theorem dX6_digest_147 : decode cX6_digest 147 = .ok (.lreturn, 1) := by decide +kernel
theorem dJ9_max_7cf53_0 : decode cJ9_max_7cf53 0 = .ok (.iload_n 0, 1) := by decide +kernel
theorem dJ9_max_7cf53_1 : decode cJ9_max_7cf53 1 = .ok (.iload_n 1, 1) := by decide +kernel
theorem dJ9_max_7cf53_2 : decode cJ9_max_7cf53 2 = .ok (.if_icmp .lt 7, 3) := by decide +kernel
theorem dJ9_max_7cf53_5 : decode cJ9_max_7cf53 5 = .ok (.iload_n 0, 1) := by decide +kernel
theorem dJ9_max_7cf53_6 : decode cJ9_max_7cf53 6 = .ok (.goto 4, 3) := by decide +kernel
theorem dJ9_max_7cf53_9 : decode cJ9_max_7cf53 9 = .ok (.iload_n 1, 1) := by decide +kernel
theorem dJ9_max_7cf53_10 : decode cJ9_max_7cf53 10 = .ok (.ireturn, 1) := by decide +kernel
theorem dJ9_max_f86c9_0 : decode cJ9_max_f86c9 0 = .ok (.lload_n 0, 1) := by decide +kernel
theorem dJ9_max_f86c9_1 : decode cJ9_max_f86c9 1 = .ok (.lload_n 2, 1) := by decide +kernel
theorem dJ9_max_f86c9_2 : decode cJ9_max_f86c9 2 = .ok (.lcmp, 1) := by decide +kernel
theorem dJ9_max_f86c9_3 : decode cJ9_max_f86c9 3 = .ok (.ifCond .lt 7, 3) := by decide +kernel
theorem dJ9_max_f86c9_6 : decode cJ9_max_f86c9 6 = .ok (.lload_n 0, 1) := by decide +kernel
theorem dJ9_max_f86c9_7 : decode cJ9_max_f86c9 7 = .ok (.goto 4, 3) := by decide +kernel
theorem dJ9_max_f86c9_10 : decode cJ9_max_f86c9 10 = .ok (.lload_n 2, 1) := by decide +kernel
theorem dJ9_max_f86c9_11 : decode cJ9_max_f86c9 11 = .ok (.lreturn, 1) := by decide +kernel
theorem dJ9_min_7cf53_0 : decode cJ9_min_7cf53 0 = .ok (.iload_n 0, 1) := by decide +kernel
theorem dJ9_min_7cf53_1 : decode cJ9_min_7cf53 1 = .ok (.iload_n 1, 1) := by decide +kernel
theorem dJ9_min_7cf53_2 : decode cJ9_min_7cf53 2 = .ok (.if_icmp .gt 7, 3) := by decide +kernel
theorem dJ9_min_7cf53_5 : decode cJ9_min_7cf53 5 = .ok (.iload_n 0, 1) := by decide +kernel
theorem dJ9_min_7cf53_6 : decode cJ9_min_7cf53 6 = .ok (.goto 4, 3) := by decide +kernel
theorem dJ9_min_7cf53_9 : decode cJ9_min_7cf53 9 = .ok (.iload_n 1, 1) := by decide +kernel
theorem dJ9_min_7cf53_10 : decode cJ9_min_7cf53 10 = .ok (.ireturn, 1) := by decide +kernel
theorem dJ0_length_8abf5_0 : decode cJ0_length_8abf5 0 = .ok (.aload_n 0, 1) := by decide +kernel
theorem dJ0_length_8abf5_1 : decode cJ0_length_8abf5 1 = .ok (.getfield 9, 3) := by decide +kernel
theorem dJ0_length_8abf5_4 : decode cJ0_length_8abf5 4 = .ok (.arraylength, 1) := by decide +kernel
theorem dJ0_length_8abf5_5 : decode cJ0_length_8abf5 5 = .ok (.aload_n 0, 1) := by decide +kernel
theorem dJ0_length_8abf5_6 : decode cJ0_length_8abf5 6 = .ok (.invokevirtual 335, 3) := by decide +kernel
theorem dJ0_length_8abf5_9 : decode cJ0_length_8abf5 9 = .ok (.ishr, 1) := by decide +kernel
theorem dJ0_length_8abf5_10 : decode cJ0_length_8abf5 10 = .ok (.ireturn, 1) := by decide +kernel
theorem dJ0_charAt_5068e_0 : decode cJ0_charAt_5068e 0 = .ok (.aload_n 0, 1) := by decide +kernel
theorem dJ0_charAt_5068e_1 : decode cJ0_charAt_5068e 1 = .ok (.invokevirtual 492, 3) := by decide +kernel
theorem dJ0_charAt_5068e_4 : decode cJ0_charAt_5068e 4 = .ok (.ifCond .eq 12, 3) := by decide +kernel
theorem dJ0_charAt_5068e_7 : decode cJ0_charAt_5068e 7 = .ok (.aload_n 0, 1) := by decide +kernel
theorem dJ0_charAt_5068e_8 : decode cJ0_charAt_5068e 8 = .ok (.getfield 9, 3) := by decide +kernel
theorem dJ0_charAt_5068e_11 : decode cJ0_charAt_5068e 11 = .ok (.iload_n 1, 1) := by decide +kernel
theorem dJ0_charAt_5068e_12 : decode cJ0_charAt_5068e 12 = .ok (.invokestatic 495, 3) := by decide +kernel
theorem dJ0_charAt_5068e_15 : decode cJ0_charAt_5068e 15 = .ok (.ireturn, 1) := by decide +kernel
theorem dJ0_charAt_5068e_16 : decode cJ0_charAt_5068e 16 = .ok (.aload_n 0, 1) := by decide +kernel
theorem dJ0_charAt_5068e_17 : decode cJ0_charAt_5068e 17 = .ok (.getfield 9, 3) := by decide +kernel
theorem dJ0_charAt_5068e_20 : decode cJ0_charAt_5068e 20 = .ok (.iload_n 1, 1) := by decide +kernel
theorem dJ0_charAt_5068e_21 : decode cJ0_charAt_5068e 21 = .ok (.invokestatic 498, 3) := by decide +kernel
theorem dJ0_charAt_5068e_24 : decode cJ0_charAt_5068e 24 = .ok (.ireturn, 1) := by decide +kernel
theorem dJ0_coder_7d493_0 : decode cJ0_coder_7d493 0 = .ok (.getstatic 38, 3) := by decide +kernel
theorem dJ0_coder_7d493_3 : decode cJ0_coder_7d493 3 = .ok (.ifCond .eq 10, 3) := by decide +kernel
theorem dJ0_coder_7d493_6 : decode cJ0_coder_7d493 6 = .ok (.aload_n 0, 1) := by decide +kernel
theorem dJ0_coder_7d493_7 : decode cJ0_coder_7d493 7 = .ok (.getfield 15, 3) := by decide +kernel
theorem dJ0_coder_7d493_10 : decode cJ0_coder_7d493 10 = .ok (.goto 4, 3) := by decide +kernel
theorem dJ0_coder_7d493_13 : decode cJ0_coder_7d493 13 = .ok (.iconst 1, 1) := by decide +kernel
theorem dJ0_coder_7d493_14 : decode cJ0_coder_7d493 14 = .ok (.ireturn, 1) := by decide +kernel
theorem dJ0_isLatin1_aae02_0 : decode cJ0_isLatin1_aae02 0 = .ok (.getstatic 38, 3) := by decide +kernel
theorem dJ0_isLatin1_aae02_3 : decode cJ0_isLatin1_aae02 3 = .ok (.ifCond .eq 14, 3) := by decide +kernel
theorem dJ0_isLatin1_aae02_6 : decode cJ0_isLatin1_aae02 6 = .ok (.aload_n 0, 1) := by decide +kernel
theorem dJ0_isLatin1_aae02_7 : decode cJ0_isLatin1_aae02 7 = .ok (.getfield 15, 3) := by decide +kernel
theorem dJ0_isLatin1_aae02_10 : decode cJ0_isLatin1_aae02 10 = .ok (.ifCond .ne 7, 3) := by decide +kernel
theorem dJ0_isLatin1_aae02_13 : decode cJ0_isLatin1_aae02 13 = .ok (.iconst 1, 1) := by decide +kernel
theorem dJ0_isLatin1_aae02_14 : decode cJ0_isLatin1_aae02 14 = .ok (.goto 4, 3) := by decide +kernel
theorem dJ0_isLatin1_aae02_17 : decode cJ0_isLatin1_aae02 17 = .ok (.iconst 0, 1) := by decide +kernel
theorem dJ0_isLatin1_aae02_18 : decode cJ0_isLatin1_aae02 18 = .ok (.ireturn, 1) := by decide +kernel
theorem dJ0_checkIndex_df160_0 : decode cJ0_checkIndex_df160 0 = .ok (.iload_n 0, 1) := by decide +kernel
theorem dJ0_checkIndex_df160_1 : decode cJ0_checkIndex_df160 1 = .ok (.iload_n 1, 1) := by decide +kernel
theorem dJ0_checkIndex_df160_2 : decode cJ0_checkIndex_df160 2 = .ok (.getstatic 1053, 3) := by decide +kernel
theorem dJ0_checkIndex_df160_5 : decode cJ0_checkIndex_df160 5 = .ok (.invokestatic 1059, 3) := by decide +kernel
theorem dJ0_checkIndex_df160_8 : decode cJ0_checkIndex_df160 8 = .ok (.pop, 1) := by decide +kernel
theorem dJ0_checkIndex_df160_9 : decode cJ0_checkIndex_df160 9 = .ok (.return_, 1) := by decide +kernel
theorem dJ1_charAt_3b067_0 : decode cJ1_charAt_3b067 0 = .ok (.iload_n 1, 1) := by decide +kernel
theorem dJ1_charAt_3b067_1 : decode cJ1_charAt_3b067 1 = .ok (.aload_n 0, 1) := by decide +kernel
theorem dJ1_charAt_3b067_2 : decode cJ1_charAt_3b067 2 = .ok (.arraylength, 1) := by decide +kernel
theorem dJ1_charAt_3b067_3 : decode cJ1_charAt_3b067 3 = .ok (.invokestatic 9, 3) := by decide +kernel
theorem dJ1_charAt_3b067_6 : decode cJ1_charAt_3b067 6 = .ok (.aload_n 0, 1) := by decide +kernel
theorem dJ1_charAt_3b067_7 : decode cJ1_charAt_3b067 7 = .ok (.iload_n 1, 1) := by decide +kernel
theorem dJ1_charAt_3b067_8 : decode cJ1_charAt_3b067 8 = .ok (.baload, 1) := by decide +kernel
theorem dJ1_charAt_3b067_9 : decode cJ1_charAt_3b067 9 = .ok (.sipush 255, 3) := by decide +kernel
theorem dJ1_charAt_3b067_12 : decode cJ1_charAt_3b067 12 = .ok (.iand, 1) := by decide +kernel
theorem dJ1_charAt_3b067_13 : decode cJ1_charAt_3b067 13 = .ok (.i2c, 1) := by decide +kernel
theorem dJ1_charAt_3b067_14 : decode cJ1_charAt_3b067 14 = .ok (.ireturn, 1) := by decide +kernel
theorem dJ2_getChar_3b067_0 : decode cJ2_getChar_3b067 0 = .ok (.getstatic 44, 3) := by decide +kernel
theorem dJ2_getChar_3b067_3 : decode cJ2_getChar_3b067 3 = .ok (.ifCond .ne 25, 3) := by decide +kernel
theorem dJ2_getChar_3b067_6 : decode cJ2_getChar_3b067 6 = .ok (.iload_n 1, 1) := by decide +kernel
theorem dJ2_getChar_3b067_7 : decode cJ2_getChar_3b067 7 = .ok (.ifCond .lt 11, 3) := by decide +kernel
theorem dJ2_getChar_3b067_10 : decode cJ2_getChar_3b067 10 = .ok (.iload_n 1, 1) := by decide +kernel
theorem dJ2_getChar_3b067_11 : decode cJ2_getChar_3b067 11 = .ok (.aload_n 0, 1) := by decide +kernel
theorem dJ2_getChar_3b067_12 : decode cJ2_getChar_3b067 12 = .ok (.invokestatic 48, 3) := by decide +kernel
theorem dJ2_getChar_3b067_15 : decode cJ2_getChar_3b067 15 = .ok (.if_icmp .lt 13, 3) := by decide +kernel
theorem dJ2_getChar_3b067_18 : decode cJ2_getChar_3b067 18 = .ok (.new 52, 3) := by decide +kernel
theorem dJ2_getChar_3b067_21 : decode cJ2_getChar_3b067 21 = .ok (.dup, 1) := by decide +kernel
theorem dJ2_getChar_3b067_22 : decode cJ2_getChar_3b067 22 = .ok (.ldc 54, 2) := by decide +kernel
theorem dJ2_getChar_3b067_24 : decode cJ2_getChar_3b067 24 = .ok (.invokespecial 56, 3) := by decide +kernel
theorem dJ2_getChar_3b067_27 : decode cJ2_getChar_3b067 27 = .ok (.athrow, 1) := by decide +kernel
theorem dJ2_getChar_3b067_28 : decode cJ2_getChar_3b067 28 = .ok (.iload_n 1, 1) := by decide +kernel
theorem dJ2_getChar_3b067_29 : decode cJ2_getChar_3b067 29 = .ok (.iconst 1, 1) := by decide +kernel
theorem dJ2_getChar_3b067_30 : decode cJ2_getChar_3b067 30 = .ok (.ishl, 1) := by decide +kernel
theorem dJ2_getChar_3b067_31 : decode cJ2_getChar_3b067 31 = .ok (.istore_n 1, 1) := by decide +kernel
theorem dJ2_getChar_3b067_32 : decode cJ2_getChar_3b067 32 = .ok (.aload_n 0, 1) := by decide +kernel
theorem dJ2_getChar_3b067_33 : decode cJ2_getChar_3b067 33 = .ok (.iload_n 1, 1) := by decide +kernel
theorem dJ2_getChar_3b067_34 : decode cJ2_getChar_3b067 34 = .ok (.iinc 1 1, 3) := by decide +kernel
theorem dJ2_getChar_3b067_37 : decode cJ2_getChar_3b067 37 = .ok (.baload, 1) := by decide +kernel
theorem dJ2_getChar_3b067_38 : decode cJ2_getChar_3b067 38 = .ok (.sipush 255, 3) := by decide +kernel
theorem dJ2_getChar_3b067_41 : decode cJ2_getChar_3b067 41 = .ok (.iand, 1) := by decide +kernel
theorem dJ2_getChar_3b067_42 : decode cJ2_getChar_3b067 42 = .ok (.getstatic 59, 3) := by decide +kernel
theorem dJ2_getChar_3b067_45 : decode cJ2_getChar_3b067 45 = .ok (.ishl, 1) := by decide +kernel
theorem dJ2_getChar_3b067_46 : decode cJ2_getChar_3b067 46 = .ok (.aload_n 0, 1) := by decide +kernel
theorem dJ2_getChar_3b067_47 : decode cJ2_getChar_3b067 47 = .ok (.iload_n 1, 1) := by decide +kernel
theorem dJ2_getChar_3b067_48 : decode cJ2_getChar_3b067 48 = .ok (.baload, 1) := by decide +kernel
theorem dJ2_getChar_3b067_49 : decode cJ2_getChar_3b067 49 = .ok (.sipush 255, 3) := by decide +kernel
theorem dJ2_getChar_3b067_52 : decode cJ2_getChar_3b067 52 = .ok (.iand, 1) := by decide +kernel
theorem dJ2_getChar_3b067_53 : decode cJ2_getChar_3b067 53 = .ok (.getstatic 63, 3) := by decide +kernel
theorem dJ2_getChar_3b067_56 : decode cJ2_getChar_3b067 56 = .ok (.ishl, 1) := by decide +kernel
theorem dJ2_getChar_3b067_57 : decode cJ2_getChar_3b067 57 = .ok (.ior, 1) := by decide +kernel
theorem dJ2_getChar_3b067_58 : decode cJ2_getChar_3b067 58 = .ok (.i2c, 1) := by decide +kernel
theorem dJ2_getChar_3b067_59 : decode cJ2_getChar_3b067 59 = .ok (.ireturn, 1) := by decide +kernel
theorem dJ2_length_9d52b_0 : decode cJ2_length_9d52b 0 = .ok (.aload_n 0, 1) := by decide +kernel
theorem dJ2_length_9d52b_1 : decode cJ2_length_9d52b 1 = .ok (.arraylength, 1) := by decide +kernel
theorem dJ2_length_9d52b_2 : decode cJ2_length_9d52b 2 = .ok (.iconst 1, 1) := by decide +kernel
theorem dJ2_length_9d52b_3 : decode cJ2_length_9d52b 3 = .ok (.ishr, 1) := by decide +kernel
theorem dJ2_length_9d52b_4 : decode cJ2_length_9d52b 4 = .ok (.ireturn, 1) := by decide +kernel
theorem dJ2_charAt_3b067_0 : decode cJ2_charAt_3b067 0 = .ok (.iload_n 1, 1) := by decide +kernel
theorem dJ2_charAt_3b067_1 : decode cJ2_charAt_3b067 1 = .ok (.aload_n 0, 1) := by decide +kernel
theorem dJ2_charAt_3b067_2 : decode cJ2_charAt_3b067 2 = .ok (.invokestatic 67, 3) := by decide +kernel
theorem dJ2_charAt_3b067_5 : decode cJ2_charAt_3b067 5 = .ok (.aload_n 0, 1) := by decide +kernel
theorem dJ2_charAt_3b067_6 : decode cJ2_charAt_3b067 6 = .ok (.iload_n 1, 1) := by decide +kernel
theorem dJ2_charAt_3b067_7 : decode cJ2_charAt_3b067 7 = .ok (.invokestatic 71, 3) := by decide +kernel
theorem dJ2_charAt_3b067_10 : decode cJ2_charAt_3b067 10 = .ok (.ireturn, 1) := by decide +kernel
theorem dJ2_checkIndex_2214a_0 : decode cJ2_checkIndex_2214a 0 = .ok (.iload_n 0, 1) := by decide +kernel
theorem dJ2_checkIndex_2214a_1 : decode cJ2_checkIndex_2214a 1 = .ok (.aload_n 1, 1) := by decide +kernel
theorem dJ2_checkIndex_2214a_2 : decode cJ2_checkIndex_2214a 2 = .ok (.invokestatic 48, 3) := by decide +kernel
theorem dJ2_checkIndex_2214a_5 : decode cJ2_checkIndex_2214a 5 = .ok (.invokestatic 414, 3) := by decide +kernel
theorem dJ2_checkIndex_2214a_8 : decode cJ2_checkIndex_2214a 8 = .ok (.return_, 1) := by decide +kernel
theorem dJ7_fill_53178_0 : decode cJ7_fill_53178 0 = .ok (.iconst 0, 1) := by decide +kernel
theorem dJ7_fill_53178_1 : decode cJ7_fill_53178 1 = .ok (.istore_n 2, 1) := by decide +kernel
theorem dJ7_fill_53178_2 : decode cJ7_fill_53178 2 = .ok (.aload_n 0, 1) := by decide +kernel
theorem dJ7_fill_53178_3 : decode cJ7_fill_53178 3 = .ok (.arraylength, 1) := by decide +kernel
theorem dJ7_fill_53178_4 : decode cJ7_fill_53178 4 = .ok (.istore_n 3, 1) := by decide +kernel
theorem dJ7_fill_53178_5 : decode cJ7_fill_53178 5 = .ok (.iload_n 2, 1) := by decide +kernel
theorem dJ7_fill_53178_6 : decode cJ7_fill_53178 6 = .ok (.iload_n 3, 1) := by decide +kernel
theorem dJ7_fill_53178_7 : decode cJ7_fill_53178 7 = .ok (.if_icmp .ge 13, 3) := by decide +kernel
theorem dJ7_fill_53178_10 : decode cJ7_fill_53178 10 = .ok (.aload_n 0, 1) := by decide +kernel
theorem dJ7_fill_53178_11 : decode cJ7_fill_53178 11 = .ok (.iload_n 2, 1) := by decide +kernel
theorem dJ7_fill_53178_12 : decode cJ7_fill_53178 12 = .ok (.iload_n 1, 1) := by decide +kernel
theorem dJ7_fill_53178_13 : decode cJ7_fill_53178 13 = .ok (.iastore, 1) := by decide +kernel
theorem dJ7_fill_53178_14 : decode cJ7_fill_53178 14 = .ok (.iinc 2 1, 3) := by decide +kernel
theorem dJ7_fill_53178_17 : decode cJ7_fill_53178 17 = .ok (.goto (-12), 3) := by decide +kernel
theorem dJ7_fill_53178_20 : decode cJ7_fill_53178 20 = .ok (.return_, 1) := by decide +kernel
theorem dJ3_checkIndex_8e157_0 : decode cJ3_checkIndex_8e157 0 = .ok (.iload_n 0, 1) := by decide +kernel
theorem dJ3_checkIndex_8e157_1 : decode cJ3_checkIndex_8e157 1 = .ok (.ifCond .lt 8, 3) := by decide +kernel
theorem dJ3_checkIndex_8e157_4 : decode cJ3_checkIndex_8e157 4 = .ok (.iload_n 0, 1) := by decide +kernel
theorem dJ3_checkIndex_8e157_5 : decode cJ3_checkIndex_8e157 5 = .ok (.iload_n 1, 1) := by decide +kernel
theorem dJ3_checkIndex_8e157_6 : decode cJ3_checkIndex_8e157 6 = .ok (.if_icmp .lt 10, 3) := by decide +kernel
theorem dJ3_checkIndex_8e157_9 : decode cJ3_checkIndex_8e157 9 = .ok (.aload_n 2, 1) := by decide +kernel
theorem dJ3_checkIndex_8e157_10 : decode cJ3_checkIndex_8e157 10 = .ok (.iload_n 0, 1) := by decide +kernel
theorem dJ3_checkIndex_8e157_11 : decode cJ3_checkIndex_8e157 11 = .ok (.iload_n 1, 1) := by decide +kernel
theorem dJ3_checkIndex_8e157_12 : decode cJ3_checkIndex_8e157 12 = .ok (.invokestatic 95, 3) := by decide +kernel
theorem dJ3_checkIndex_8e157_15 : decode cJ3_checkIndex_8e157 15 = .ok (.athrow, 1) := by decide +kernel
theorem dJ3_checkIndex_8e157_16 : decode cJ3_checkIndex_8e157 16 = .ok (.iload_n 0, 1) := by decide +kernel
theorem dJ3_checkIndex_8e157_17 : decode cJ3_checkIndex_8e157 17 = .ok (.ireturn, 1) := by decide +kernel
theorem dL_law_0 : decode cL_law 0 = .ok (.new 7, 3) := by decide +kernel
theorem dL_law_3 : decode cL_law 3 = .ok (.dup, 1) := by decide +kernel
theorem dL_law_4 : decode cL_law 4 = .ok (.invokespecial 9, 3) := by decide +kernel
theorem dL_law_7 : decode cL_law 7 = .ok (.astore_n 1, 1) := by decide +kernel
theorem dL_law_8 : decode cL_law 8 = .ok (.new 10, 3) := by decide +kernel
theorem dL_law_11 : decode cL_law 11 = .ok (.dup, 1) := by decide +kernel
theorem dL_law_12 : decode cL_law 12 = .ok (.invokespecial 12, 3) := by decide +kernel
theorem dL_law_15 : decode cL_law 15 = .ok (.astore_n 2, 1) := by decide +kernel
theorem dL_law_16 : decode cL_law 16 = .ok (.iconst 0, 1) := by decide +kernel
theorem dL_law_17 : decode cL_law 17 = .ok (.istore_n 3, 1) := by decide +kernel
theorem dL_law_18 : decode cL_law 18 = .ok (.iload_n 3, 1) := by decide +kernel
theorem dL_law_19 : decode cL_law 19 = .ok (.aload_n 0, 1) := by decide +kernel
theorem dL_law_20 : decode cL_law 20 = .ok (.arraylength, 1) := by decide +kernel
theorem dL_law_21 : decode cL_law 21 = .ok (.iconst 4, 1) := by decide +kernel
theorem dL_law_22 : decode cL_law 22 = .ok (.isub, 1) := by decide +kernel
theorem dL_law_23 : decode cL_law 23 = .ok (.if_icmp .gt 973, 3) := by decide +kernel
theorem dL_law_26 : decode cL_law 26 = .ok (.aload_n 0, 1) := by decide +kernel
theorem dL_law_27 : decode cL_law 27 = .ok (.iload_n 3, 1) := by decide +kernel
theorem dL_law_28 : decode cL_law 28 = .ok (.iaload, 1) := by decide +kernel
theorem dL_law_29 : decode cL_law 29 = .ok (.bipush 31, 2) := by decide +kernel
theorem dL_law_31 : decode cL_law 31 = .ok (.iand, 1) := by decide +kernel
theorem dL_law_32 : decode cL_law 32 = .ok (.tableswitch 958 0 29 #[136, 159, 192, 235, 278, 291, 334, 397, 410, 423, 446, 479, 492, 525, 538, 561, 584, 617, 640, 663, 696, 729, 762, 785, 828, 852, 875, 898, 921, 944], 136) := by decide +kernel
theorem dL_law_168 : decode cL_law 168 = .ok (.aload_n 1, 1) := by decide +kernel
theorem dL_law_169 : decode cL_law 169 = .ok (.aload_n 0, 1) := by decide +kernel
theorem dL_law_170 : decode cL_law 170 = .ok (.iload_n 3, 1) := by decide +kernel
theorem dL_law_171 : decode cL_law 171 = .ok (.iconst 1, 1) := by decide +kernel
theorem dL_law_172 : decode cL_law 172 = .ok (.iadd, 1) := by decide +kernel
theorem dL_law_173 : decode cL_law 173 = .ok (.iaload, 1) := by decide +kernel
theorem dL_law_174 : decode cL_law 174 = .ok (.invokevirtual 13, 3) := by decide +kernel
theorem dL_law_177 : decode cL_law 177 = .ok (.aload_n 2, 1) := by decide +kernel
theorem dL_law_178 : decode cL_law 178 = .ok (.aload_n 0, 1) := by decide +kernel
theorem dL_law_179 : decode cL_law 179 = .ok (.iload_n 3, 1) := by decide +kernel
theorem dL_law_180 : decode cL_law 180 = .ok (.iconst 1, 1) := by decide +kernel
theorem dL_law_181 : decode cL_law 181 = .ok (.iadd, 1) := by decide +kernel
theorem dL_law_182 : decode cL_law 182 = .ok (.iaload, 1) := by decide +kernel
theorem dL_law_183 : decode cL_law 183 = .ok (.invokevirtual 17, 3) := by decide +kernel
theorem dL_law_186 : decode cL_law 186 = .ok (.if_icmp .eq 804, 3) := by decide +kernel
theorem dL_law_189 : decode cL_law 189 = .ok (.iconst 0, 1) := by decide +kernel
theorem dL_law_190 : decode cL_law 190 = .ok (.ireturn, 1) := by decide +kernel
theorem dL_law_191 : decode cL_law 191 = .ok (.aload_n 1, 1) := by decide +kernel
theorem dL_law_192 : decode cL_law 192 = .ok (.aload_n 0, 1) := by decide +kernel
theorem dL_law_193 : decode cL_law 193 = .ok (.iload_n 3, 1) := by decide +kernel
theorem dL_law_194 : decode cL_law 194 = .ok (.iconst 1, 1) := by decide +kernel
theorem dL_law_195 : decode cL_law 195 = .ok (.iadd, 1) := by decide +kernel
theorem dL_law_196 : decode cL_law 196 = .ok (.iaload, 1) := by decide +kernel
theorem dL_law_197 : decode cL_law 197 = .ok (.aload_n 0, 1) := by decide +kernel
theorem dL_law_198 : decode cL_law 198 = .ok (.iload_n 3, 1) := by decide +kernel
theorem dL_law_199 : decode cL_law 199 = .ok (.iconst 2, 1) := by decide +kernel
theorem dL_law_200 : decode cL_law 200 = .ok (.iadd, 1) := by decide +kernel
theorem dL_law_201 : decode cL_law 201 = .ok (.iaload, 1) := by decide +kernel
theorem dL_law_202 : decode cL_law 202 = .ok (.invokevirtual 18, 3) := by decide +kernel
theorem dL_law_205 : decode cL_law 205 = .ok (.aload_n 2, 1) := by decide +kernel
theorem dL_law_206 : decode cL_law 206 = .ok (.aload_n 0, 1) := by decide +kernel
theorem dL_law_207 : decode cL_law 207 = .ok (.iload_n 3, 1) := by decide +kernel
theorem dL_law_208 : decode cL_law 208 = .ok (.iconst 1, 1) := by decide +kernel
theorem dL_law_209 : decode cL_law 209 = .ok (.iadd, 1) := by decide +kernel
theorem dL_law_210 : decode cL_law 210 = .ok (.iaload, 1) := by decide +kernel
theorem dL_law_211 : decode cL_law 211 = .ok (.aload_n 0, 1) := by decide +kernel
theorem dL_law_212 : decode cL_law 212 = .ok (.iload_n 3, 1) := by decide +kernel
theorem dL_law_213 : decode cL_law 213 = .ok (.iconst 2, 1) := by decide +kernel
theorem dL_law_214 : decode cL_law 214 = .ok (.iadd, 1) := by decide +kernel
theorem dL_law_215 : decode cL_law 215 = .ok (.iaload, 1) := by decide +kernel
theorem dL_law_216 : decode cL_law 216 = .ok (.invokevirtual 22, 3) := by decide +kernel
theorem dL_law_219 : decode cL_law 219 = .ok (.if_icmp .eq 771, 3) := by decide +kernel
theorem dL_law_222 : decode cL_law 222 = .ok (.iconst 0, 1) := by decide +kernel
theorem dL_law_223 : decode cL_law 223 = .ok (.ireturn, 1) := by decide +kernel
theorem dL_law_224 : decode cL_law 224 = .ok (.aload_n 1, 1) := by decide +kernel
theorem dL_law_225 : decode cL_law 225 = .ok (.aload_n 0, 1) := by decide +kernel
theorem dL_law_226 : decode cL_law 226 = .ok (.iload_n 3, 1) := by decide +kernel
theorem dL_law_227 : decode cL_law 227 = .ok (.iconst 1, 1) := by decide +kernel
theorem dL_law_228 : decode cL_law 228 = .ok (.iadd, 1) := by decide +kernel
theorem dL_law_229 : decode cL_law 229 = .ok (.iaload, 1) := by decide +kernel
theorem dL_law_230 : decode cL_law 230 = .ok (.aload_n 0, 1) := by decide +kernel
theorem dL_law_231 : decode cL_law 231 = .ok (.iload_n 3, 1) := by decide +kernel
theorem dL_law_232 : decode cL_law 232 = .ok (.iconst 2, 1) := by decide +kernel
theorem dL_law_233 : decode cL_law 233 = .ok (.iadd, 1) := by decide +kernel
theorem dL_law_234 : decode cL_law 234 = .ok (.iaload, 1) := by decide +kernel
theorem dL_law_235 : decode cL_law 235 = .ok (.aload_n 0, 1) := by decide +kernel
theorem dL_law_236 : decode cL_law 236 = .ok (.iload_n 3, 1) := by decide +kernel
theorem dL_law_237 : decode cL_law 237 = .ok (.iconst 3, 1) := by decide +kernel
theorem dL_law_238 : decode cL_law 238 = .ok (.iadd, 1) := by decide +kernel
theorem dL_law_239 : decode cL_law 239 = .ok (.iaload, 1) := by decide +kernel
theorem dL_law_240 : decode cL_law 240 = .ok (.invokevirtual 23, 3) := by decide +kernel
theorem dL_law_243 : decode cL_law 243 = .ok (.aload_n 2, 1) := by decide +kernel
theorem dL_law_244 : decode cL_law 244 = .ok (.aload_n 0, 1) := by decide +kernel
theorem dL_law_245 : decode cL_law 245 = .ok (.iload_n 3, 1) := by decide +kernel
theorem dL_law_246 : decode cL_law 246 = .ok (.iconst 1, 1) := by decide +kernel
theorem dL_law_247 : decode cL_law 247 = .ok (.iadd, 1) := by decide +kernel
theorem dL_law_248 : decode cL_law 248 = .ok (.iaload, 1) := by decide +kernel
theorem dL_law_249 : decode cL_law 249 = .ok (.aload_n 0, 1) := by decide +kernel
theorem dL_law_250 : decode cL_law 250 = .ok (.iload_n 3, 1) := by decide +kernel
theorem dL_law_251 : decode cL_law 251 = .ok (.iconst 2, 1) := by decide +kernel
theorem dL_law_252 : decode cL_law 252 = .ok (.iadd, 1) := by decide +kernel
theorem dL_law_253 : decode cL_law 253 = .ok (.iaload, 1) := by decide +kernel
theorem dL_law_254 : decode cL_law 254 = .ok (.aload_n 0, 1) := by decide +kernel
theorem dL_law_255 : decode cL_law 255 = .ok (.iload_n 3, 1) := by decide +kernel
theorem dL_law_256 : decode cL_law 256 = .ok (.iconst 3, 1) := by decide +kernel
theorem dL_law_257 : decode cL_law 257 = .ok (.iadd, 1) := by decide +kernel
theorem dL_law_258 : decode cL_law 258 = .ok (.iaload, 1) := by decide +kernel
theorem dL_law_259 : decode cL_law 259 = .ok (.invokevirtual 27, 3) := by decide +kernel
theorem dL_law_262 : decode cL_law 262 = .ok (.if_icmp .eq 728, 3) := by decide +kernel
theorem dL_law_265 : decode cL_law 265 = .ok (.iconst 0, 1) := by decide +kernel
theorem dL_law_266 : decode cL_law 266 = .ok (.ireturn, 1) := by decide +kernel
theorem dL_law_267 : decode cL_law 267 = .ok (.aload_n 1, 1) := by decide +kernel
theorem dL_law_268 : decode cL_law 268 = .ok (.aload_n 0, 1) := by decide +kernel
theorem dL_law_269 : decode cL_law 269 = .ok (.iload_n 3, 1) := by decide +kernel
theorem dL_law_270 : decode cL_law 270 = .ok (.iconst 1, 1) := by decide +kernel
theorem dL_law_271 : decode cL_law 271 = .ok (.iadd, 1) := by decide +kernel
theorem dL_law_272 : decode cL_law 272 = .ok (.iaload, 1) := by decide +kernel
theorem dL_law_273 : decode cL_law 273 = .ok (.aload_n 0, 1) := by decide +kernel
theorem dL_law_274 : decode cL_law 274 = .ok (.iload_n 3, 1) := by decide +kernel
theorem dL_law_275 : decode cL_law 275 = .ok (.iconst 2, 1) := by decide +kernel
theorem dL_law_276 : decode cL_law 276 = .ok (.iadd, 1) := by decide +kernel
theorem dL_law_277 : decode cL_law 277 = .ok (.iaload, 1) := by decide +kernel
theorem dL_law_278 : decode cL_law 278 = .ok (.aload_n 0, 1) := by decide +kernel
theorem dL_law_279 : decode cL_law 279 = .ok (.iload_n 3, 1) := by decide +kernel
theorem dL_law_280 : decode cL_law 280 = .ok (.iconst 3, 1) := by decide +kernel
theorem dL_law_281 : decode cL_law 281 = .ok (.iadd, 1) := by decide +kernel
theorem dL_law_282 : decode cL_law 282 = .ok (.iaload, 1) := by decide +kernel
theorem dL_law_283 : decode cL_law 283 = .ok (.invokevirtual 28, 3) := by decide +kernel
theorem dL_law_286 : decode cL_law 286 = .ok (.aload_n 2, 1) := by decide +kernel
theorem dL_law_287 : decode cL_law 287 = .ok (.aload_n 0, 1) := by decide +kernel
theorem dL_law_288 : decode cL_law 288 = .ok (.iload_n 3, 1) := by decide +kernel
theorem dL_law_289 : decode cL_law 289 = .ok (.iconst 1, 1) := by decide +kernel
theorem dL_law_290 : decode cL_law 290 = .ok (.iadd, 1) := by decide +kernel
theorem dL_law_291 : decode cL_law 291 = .ok (.iaload, 1) := by decide +kernel
theorem dL_law_292 : decode cL_law 292 = .ok (.aload_n 0, 1) := by decide +kernel
theorem dL_law_293 : decode cL_law 293 = .ok (.iload_n 3, 1) := by decide +kernel
theorem dL_law_294 : decode cL_law 294 = .ok (.iconst 2, 1) := by decide +kernel
theorem dL_law_295 : decode cL_law 295 = .ok (.iadd, 1) := by decide +kernel
theorem dL_law_296 : decode cL_law 296 = .ok (.iaload, 1) := by decide +kernel
theorem dL_law_297 : decode cL_law 297 = .ok (.aload_n 0, 1) := by decide +kernel
theorem dL_law_298 : decode cL_law 298 = .ok (.iload_n 3, 1) := by decide +kernel
theorem dL_law_299 : decode cL_law 299 = .ok (.iconst 3, 1) := by decide +kernel
theorem dL_law_300 : decode cL_law 300 = .ok (.iadd, 1) := by decide +kernel
theorem dL_law_301 : decode cL_law 301 = .ok (.iaload, 1) := by decide +kernel
theorem dL_law_302 : decode cL_law 302 = .ok (.invokevirtual 31, 3) := by decide +kernel
theorem dL_law_305 : decode cL_law 305 = .ok (.if_icmp .eq 685, 3) := by decide +kernel
theorem dL_law_308 : decode cL_law 308 = .ok (.iconst 0, 1) := by decide +kernel
theorem dL_law_309 : decode cL_law 309 = .ok (.ireturn, 1) := by decide +kernel
theorem dL_law_310 : decode cL_law 310 = .ok (.aload_n 1, 1) := by decide +kernel
theorem dL_law_311 : decode cL_law 311 = .ok (.invokevirtual 32, 3) := by decide +kernel
theorem dL_law_314 : decode cL_law 314 = .ok (.aload_n 2, 1) := by decide +kernel
theorem dL_law_315 : decode cL_law 315 = .ok (.invokevirtual 36, 3) := by decide +kernel
theorem dL_law_318 : decode cL_law 318 = .ok (.if_icmp .eq 672, 3) := by decide +kernel
theorem dL_law_321 : decode cL_law 321 = .ok (.iconst 0, 1) := by decide +kernel
theorem dL_law_322 : decode cL_law 322 = .ok (.ireturn, 1) := by decide +kernel
theorem dL_law_323 : decode cL_law 323 = .ok (.aload_n 1, 1) := by decide +kernel
theorem dL_law_324 : decode cL_law 324 = .ok (.aload_n 0, 1) := by decide +kernel
theorem dL_law_325 : decode cL_law 325 = .ok (.iload_n 3, 1) := by decide +kernel
theorem dL_law_326 : decode cL_law 326 = .ok (.iconst 1, 1) := by decide +kernel
theorem dL_law_327 : decode cL_law 327 = .ok (.iadd, 1) := by decide +kernel
theorem dL_law_328 : decode cL_law 328 = .ok (.iaload, 1) := by decide +kernel
theorem dL_law_329 : decode cL_law 329 = .ok (.aload_n 0, 1) := by decide +kernel
theorem dL_law_330 : decode cL_law 330 = .ok (.iload_n 3, 1) := by decide +kernel
theorem dL_law_331 : decode cL_law 331 = .ok (.iconst 2, 1) := by decide +kernel
theorem dL_law_332 : decode cL_law 332 = .ok (.iadd, 1) := by decide +kernel
theorem dL_law_333 : decode cL_law 333 = .ok (.iaload, 1) := by decide +kernel
theorem dL_law_334 : decode cL_law 334 = .ok (.aload_n 0, 1) := by decide +kernel
theorem dL_law_335 : decode cL_law 335 = .ok (.iload_n 3, 1) := by decide +kernel
theorem dL_law_336 : decode cL_law 336 = .ok (.iconst 3, 1) := by decide +kernel
theorem dL_law_337 : decode cL_law 337 = .ok (.iadd, 1) := by decide +kernel
theorem dL_law_338 : decode cL_law 338 = .ok (.iaload, 1) := by decide +kernel
theorem dL_law_339 : decode cL_law 339 = .ok (.invokevirtual 37, 3) := by decide +kernel
theorem dL_law_342 : decode cL_law 342 = .ok (.aload_n 2, 1) := by decide +kernel
theorem dL_law_343 : decode cL_law 343 = .ok (.aload_n 0, 1) := by decide +kernel
theorem dL_law_344 : decode cL_law 344 = .ok (.iload_n 3, 1) := by decide +kernel
theorem dL_law_345 : decode cL_law 345 = .ok (.iconst 1, 1) := by decide +kernel
theorem dL_law_346 : decode cL_law 346 = .ok (.iadd, 1) := by decide +kernel
theorem dL_law_347 : decode cL_law 347 = .ok (.iaload, 1) := by decide +kernel
theorem dL_law_348 : decode cL_law 348 = .ok (.aload_n 0, 1) := by decide +kernel
theorem dL_law_349 : decode cL_law 349 = .ok (.iload_n 3, 1) := by decide +kernel
theorem dL_law_350 : decode cL_law 350 = .ok (.iconst 2, 1) := by decide +kernel
theorem dL_law_351 : decode cL_law 351 = .ok (.iadd, 1) := by decide +kernel
theorem dL_law_352 : decode cL_law 352 = .ok (.iaload, 1) := by decide +kernel
theorem dL_law_353 : decode cL_law 353 = .ok (.aload_n 0, 1) := by decide +kernel
theorem dL_law_354 : decode cL_law 354 = .ok (.iload_n 3, 1) := by decide +kernel
theorem dL_law_355 : decode cL_law 355 = .ok (.iconst 3, 1) := by decide +kernel
theorem dL_law_356 : decode cL_law 356 = .ok (.iadd, 1) := by decide +kernel
theorem dL_law_357 : decode cL_law 357 = .ok (.iaload, 1) := by decide +kernel
theorem dL_law_358 : decode cL_law 358 = .ok (.invokevirtual 40, 3) := by decide +kernel
theorem dL_law_361 : decode cL_law 361 = .ok (.if_icmp .eq 629, 3) := by decide +kernel
theorem dL_law_364 : decode cL_law 364 = .ok (.iconst 0, 1) := by decide +kernel
theorem dL_law_365 : decode cL_law 365 = .ok (.ireturn, 1) := by decide +kernel
theorem dL_law_366 : decode cL_law 366 = .ok (.aload_n 1, 1) := by decide +kernel
theorem dL_law_367 : decode cL_law 367 = .ok (.aload_n 0, 1) := by decide +kernel
theorem dL_law_368 : decode cL_law 368 = .ok (.iload_n 3, 1) := by decide +kernel
theorem dL_law_369 : decode cL_law 369 = .ok (.iconst 1, 1) := by decide +kernel
theorem dL_law_370 : decode cL_law 370 = .ok (.iadd, 1) := by decide +kernel
theorem dL_law_371 : decode cL_law 371 = .ok (.iaload, 1) := by decide +kernel
theorem dL_law_372 : decode cL_law 372 = .ok (.i2l, 1) := by decide +kernel
theorem dL_law_373 : decode cL_law 373 = .ok (.bipush 32, 2) := by decide +kernel
theorem dL_law_375 : decode cL_law 375 = .ok (.lshl, 1) := by decide +kernel
theorem dL_law_376 : decode cL_law 376 = .ok (.aload_n 0, 1) := by decide +kernel
theorem dL_law_377 : decode cL_law 377 = .ok (.iload_n 3, 1) := by decide +kernel
theorem dL_law_378 : decode cL_law 378 = .ok (.iconst 2, 1) := by decide +kernel
theorem dL_law_379 : decode cL_law 379 = .ok (.iadd, 1) := by decide +kernel
theorem dL_law_380 : decode cL_law 380 = .ok (.iaload, 1) := by decide +kernel
theorem dL_law_381 : decode cL_law 381 = .ok (.i2l, 1) := by decide +kernel
theorem dL_law_382 : decode cL_law 382 = .ok (.ldc2_w 41, 3) := by decide +kernel
theorem dL_law_385 : decode cL_law 385 = .ok (.land, 1) := by decide +kernel
theorem dL_law_386 : decode cL_law 386 = .ok (.lor, 1) := by decide +kernel
theorem dL_law_387 : decode cL_law 387 = .ok (.aload_n 0, 1) := by decide +kernel
theorem dL_law_388 : decode cL_law 388 = .ok (.iload_n 3, 1) := by decide +kernel
theorem dL_law_389 : decode cL_law 389 = .ok (.iconst 3, 1) := by decide +kernel
theorem dL_law_390 : decode cL_law 390 = .ok (.iadd, 1) := by decide +kernel
theorem dL_law_391 : decode cL_law 391 = .ok (.iaload, 1) := by decide +kernel
theorem dL_law_392 : decode cL_law 392 = .ok (.invokevirtual 43, 3) := by decide +kernel
theorem dL_law_395 : decode cL_law 395 = .ok (.aload_n 2, 1) := by decide +kernel
theorem dL_law_396 : decode cL_law 396 = .ok (.aload_n 0, 1) := by decide +kernel
theorem dL_law_397 : decode cL_law 397 = .ok (.iload_n 3, 1) := by decide +kernel
theorem dL_law_398 : decode cL_law 398 = .ok (.iconst 1, 1) := by decide +kernel
theorem dL_law_399 : decode cL_law 399 = .ok (.iadd, 1) := by decide +kernel
theorem dL_law_400 : decode cL_law 400 = .ok (.iaload, 1) := by decide +kernel
theorem dL_law_401 : decode cL_law 401 = .ok (.i2l, 1) := by decide +kernel
theorem dL_law_402 : decode cL_law 402 = .ok (.bipush 32, 2) := by decide +kernel
theorem dL_law_404 : decode cL_law 404 = .ok (.lshl, 1) := by decide +kernel
theorem dL_law_405 : decode cL_law 405 = .ok (.aload_n 0, 1) := by decide +kernel
theorem dL_law_406 : decode cL_law 406 = .ok (.iload_n 3, 1) := by decide +kernel
theorem dL_law_407 : decode cL_law 407 = .ok (.iconst 2, 1) := by decide +kernel
theorem dL_law_408 : decode cL_law 408 = .ok (.iadd, 1) := by decide +kernel
theorem dL_law_409 : decode cL_law 409 = .ok (.iaload, 1) := by decide +kernel
theorem dL_law_410 : decode cL_law 410 = .ok (.i2l, 1) := by decide +kernel
theorem dL_law_411 : decode cL_law 411 = .ok (.ldc2_w 41, 3) := by decide +kernel
theorem dL_law_414 : decode cL_law 414 = .ok (.land, 1) := by decide +kernel
theorem dL_law_415 : decode cL_law 415 = .ok (.lor, 1) := by decide +kernel
theorem dL_law_416 : decode cL_law 416 = .ok (.aload_n 0, 1) := by decide +kernel
theorem dL_law_417 : decode cL_law 417 = .ok (.iload_n 3, 1) := by decide +kernel
theorem dL_law_418 : decode cL_law 418 = .ok (.iconst 3, 1) := by decide +kernel
theorem dL_law_419 : decode cL_law 419 = .ok (.iadd, 1) := by decide +kernel
theorem dL_law_420 : decode cL_law 420 = .ok (.iaload, 1) := by decide +kernel
theorem dL_law_421 : decode cL_law 421 = .ok (.invokevirtual 47, 3) := by decide +kernel
theorem dL_law_424 : decode cL_law 424 = .ok (.if_icmp .eq 566, 3) := by decide +kernel
theorem dL_law_427 : decode cL_law 427 = .ok (.iconst 0, 1) := by decide +kernel
theorem dL_law_428 : decode cL_law 428 = .ok (.ireturn, 1) := by decide +kernel
theorem dL_law_429 : decode cL_law 429 = .ok (.aload_n 1, 1) := by decide +kernel
theorem dL_law_430 : decode cL_law 430 = .ok (.invokevirtual 48, 3) := by decide +kernel
theorem dL_law_433 : decode cL_law 433 = .ok (.aload_n 2, 1) := by decide +kernel
theorem dL_law_434 : decode cL_law 434 = .ok (.invokevirtual 51, 3) := by decide +kernel
theorem dL_law_437 : decode cL_law 437 = .ok (.if_icmp .eq 553, 3) := by decide +kernel
theorem dL_law_440 : decode cL_law 440 = .ok (.iconst 0, 1) := by decide +kernel
theorem dL_law_441 : decode cL_law 441 = .ok (.ireturn, 1) := by decide +kernel
theorem dL_law_442 : decode cL_law 442 = .ok (.aload_n 1, 1) := by decide +kernel
theorem dL_law_443 : decode cL_law 443 = .ok (.invokevirtual 52, 3) := by decide +kernel
theorem dL_law_446 : decode cL_law 446 = .ok (.aload_n 2, 1) := by decide +kernel
theorem dL_law_447 : decode cL_law 447 = .ok (.invokevirtual 55, 3) := by decide +kernel
theorem dL_law_450 : decode cL_law 450 = .ok (.if_icmp .eq 540, 3) := by decide +kernel
theorem dL_law_453 : decode cL_law 453 = .ok (.iconst 0, 1) := by decide +kernel
theorem dL_law_454 : decode cL_law 454 = .ok (.ireturn, 1) := by decide +kernel
theorem dL_law_455 : decode cL_law 455 = .ok (.aload_n 1, 1) := by decide +kernel
theorem dL_law_456 : decode cL_law 456 = .ok (.aload_n 0, 1) := by decide +kernel
theorem dL_law_457 : decode cL_law 457 = .ok (.iload_n 3, 1) := by decide +kernel
theorem dL_law_458 : decode cL_law 458 = .ok (.iconst 1, 1) := by decide +kernel
theorem dL_law_459 : decode cL_law 459 = .ok (.iadd, 1) := by decide +kernel
theorem dL_law_460 : decode cL_law 460 = .ok (.iaload, 1) := by decide +kernel
theorem dL_law_461 : decode cL_law 461 = .ok (.invokevirtual 56, 3) := by decide +kernel
theorem dL_law_464 : decode cL_law 464 = .ok (.aload_n 2, 1) := by decide +kernel
theorem dL_law_465 : decode cL_law 465 = .ok (.aload_n 0, 1) := by decide +kernel
theorem dL_law_466 : decode cL_law 466 = .ok (.iload_n 3, 1) := by decide +kernel
theorem dL_law_467 : decode cL_law 467 = .ok (.iconst 1, 1) := by decide +kernel
theorem dL_law_468 : decode cL_law 468 = .ok (.iadd, 1) := by decide +kernel
theorem dL_law_469 : decode cL_law 469 = .ok (.iaload, 1) := by decide +kernel
theorem dL_law_470 : decode cL_law 470 = .ok (.invokevirtual 59, 3) := by decide +kernel
theorem dL_law_473 : decode cL_law 473 = .ok (.if_icmp .eq 517, 3) := by decide +kernel
theorem dL_law_476 : decode cL_law 476 = .ok (.iconst 0, 1) := by decide +kernel
theorem dL_law_477 : decode cL_law 477 = .ok (.ireturn, 1) := by decide +kernel
theorem dL_law_478 : decode cL_law 478 = .ok (.aload_n 1, 1) := by decide +kernel
theorem dL_law_479 : decode cL_law 479 = .ok (.aload_n 0, 1) := by decide +kernel
theorem dL_law_480 : decode cL_law 480 = .ok (.iload_n 3, 1) := by decide +kernel
theorem dL_law_481 : decode cL_law 481 = .ok (.iconst 1, 1) := by decide +kernel
theorem dL_law_482 : decode cL_law 482 = .ok (.iadd, 1) := by decide +kernel
theorem dL_law_483 : decode cL_law 483 = .ok (.iaload, 1) := by decide +kernel
theorem dL_law_484 : decode cL_law 484 = .ok (.aload_n 0, 1) := by decide +kernel
theorem dL_law_485 : decode cL_law 485 = .ok (.iload_n 3, 1) := by decide +kernel
theorem dL_law_486 : decode cL_law 486 = .ok (.iconst 2, 1) := by decide +kernel
theorem dL_law_487 : decode cL_law 487 = .ok (.iadd, 1) := by decide +kernel
theorem dL_law_488 : decode cL_law 488 = .ok (.iaload, 1) := by decide +kernel
theorem dL_law_489 : decode cL_law 489 = .ok (.invokevirtual 60, 3) := by decide +kernel
theorem dL_law_492 : decode cL_law 492 = .ok (.aload_n 2, 1) := by decide +kernel
theorem dL_law_493 : decode cL_law 493 = .ok (.aload_n 0, 1) := by decide +kernel
theorem dL_law_494 : decode cL_law 494 = .ok (.iload_n 3, 1) := by decide +kernel
theorem dL_law_495 : decode cL_law 495 = .ok (.iconst 1, 1) := by decide +kernel
theorem dL_law_496 : decode cL_law 496 = .ok (.iadd, 1) := by decide +kernel
theorem dL_law_497 : decode cL_law 497 = .ok (.iaload, 1) := by decide +kernel
theorem dL_law_498 : decode cL_law 498 = .ok (.aload_n 0, 1) := by decide +kernel
theorem dL_law_499 : decode cL_law 499 = .ok (.iload_n 3, 1) := by decide +kernel
theorem dL_law_500 : decode cL_law 500 = .ok (.iconst 2, 1) := by decide +kernel
theorem dL_law_501 : decode cL_law 501 = .ok (.iadd, 1) := by decide +kernel
theorem dL_law_502 : decode cL_law 502 = .ok (.iaload, 1) := by decide +kernel
theorem dL_law_503 : decode cL_law 503 = .ok (.invokevirtual 63, 3) := by decide +kernel
theorem dL_law_506 : decode cL_law 506 = .ok (.if_icmp .eq 484, 3) := by decide +kernel
theorem dL_law_509 : decode cL_law 509 = .ok (.iconst 0, 1) := by decide +kernel
theorem dL_law_510 : decode cL_law 510 = .ok (.ireturn, 1) := by decide +kernel
theorem dL_law_511 : decode cL_law 511 = .ok (.aload_n 1, 1) := by decide +kernel
theorem dL_law_512 : decode cL_law 512 = .ok (.invokevirtual 64, 3) := by decide +kernel
theorem dL_law_515 : decode cL_law 515 = .ok (.aload_n 2, 1) := by decide +kernel
theorem dL_law_516 : decode cL_law 516 = .ok (.invokevirtual 67, 3) := by decide +kernel
theorem dL_law_519 : decode cL_law 519 = .ok (.if_icmp .eq 471, 3) := by decide +kernel
theorem dL_law_522 : decode cL_law 522 = .ok (.iconst 0, 1) := by decide +kernel
theorem dL_law_523 : decode cL_law 523 = .ok (.ireturn, 1) := by decide +kernel
theorem dL_law_524 : decode cL_law 524 = .ok (.aload_n 1, 1) := by decide +kernel
theorem dL_law_525 : decode cL_law 525 = .ok (.aload_n 0, 1) := by decide +kernel
theorem dL_law_526 : decode cL_law 526 = .ok (.iload_n 3, 1) := by decide +kernel
theorem dL_law_527 : decode cL_law 527 = .ok (.iconst 1, 1) := by decide +kernel
theorem dL_law_528 : decode cL_law 528 = .ok (.iadd, 1) := by decide +kernel
theorem dL_law_529 : decode cL_law 529 = .ok (.iaload, 1) := by decide +kernel
theorem dL_law_530 : decode cL_law 530 = .ok (.aload_n 0, 1) := by decide +kernel
theorem dL_law_531 : decode cL_law 531 = .ok (.iload_n 3, 1) := by decide +kernel
theorem dL_law_532 : decode cL_law 532 = .ok (.iconst 2, 1) := by decide +kernel
theorem dL_law_533 : decode cL_law 533 = .ok (.iadd, 1) := by decide +kernel
theorem dL_law_534 : decode cL_law 534 = .ok (.iaload, 1) := by decide +kernel
theorem dL_law_535 : decode cL_law 535 = .ok (.invokevirtual 68, 3) := by decide +kernel
theorem dL_law_538 : decode cL_law 538 = .ok (.aload_n 2, 1) := by decide +kernel
theorem dL_law_539 : decode cL_law 539 = .ok (.aload_n 0, 1) := by decide +kernel
theorem dL_law_540 : decode cL_law 540 = .ok (.iload_n 3, 1) := by decide +kernel
theorem dL_law_541 : decode cL_law 541 = .ok (.iconst 1, 1) := by decide +kernel
theorem dL_law_542 : decode cL_law 542 = .ok (.iadd, 1) := by decide +kernel
theorem dL_law_543 : decode cL_law 543 = .ok (.iaload, 1) := by decide +kernel
theorem dL_law_544 : decode cL_law 544 = .ok (.aload_n 0, 1) := by decide +kernel
theorem dL_law_545 : decode cL_law 545 = .ok (.iload_n 3, 1) := by decide +kernel
theorem dL_law_546 : decode cL_law 546 = .ok (.iconst 2, 1) := by decide +kernel
theorem dL_law_547 : decode cL_law 547 = .ok (.iadd, 1) := by decide +kernel
theorem dL_law_548 : decode cL_law 548 = .ok (.iaload, 1) := by decide +kernel
theorem dL_law_549 : decode cL_law 549 = .ok (.invokevirtual 71, 3) := by decide +kernel
theorem dL_law_552 : decode cL_law 552 = .ok (.if_icmp .eq 438, 3) := by decide +kernel
theorem dL_law_555 : decode cL_law 555 = .ok (.iconst 0, 1) := by decide +kernel
theorem dL_law_556 : decode cL_law 556 = .ok (.ireturn, 1) := by decide +kernel
theorem dL_law_557 : decode cL_law 557 = .ok (.aload_n 1, 1) := by decide +kernel
theorem dL_law_558 : decode cL_law 558 = .ok (.invokevirtual 72, 3) := by decide +kernel
theorem dL_law_561 : decode cL_law 561 = .ok (.aload_n 2, 1) := by decide +kernel
theorem dL_law_562 : decode cL_law 562 = .ok (.invokevirtual 75, 3) := by decide +kernel
theorem dL_law_565 : decode cL_law 565 = .ok (.if_icmp .eq 425, 3) := by decide +kernel
theorem dL_law_568 : decode cL_law 568 = .ok (.iconst 0, 1) := by decide +kernel
theorem dL_law_569 : decode cL_law 569 = .ok (.ireturn, 1) := by decide +kernel
theorem dL_law_570 : decode cL_law 570 = .ok (.aload_n 1, 1) := by decide +kernel
theorem dL_law_571 : decode cL_law 571 = .ok (.aload_n 0, 1) := by decide +kernel
theorem dL_law_572 : decode cL_law 572 = .ok (.iload_n 3, 1) := by decide +kernel
theorem dL_law_573 : decode cL_law 573 = .ok (.iconst 1, 1) := by decide +kernel
theorem dL_law_574 : decode cL_law 574 = .ok (.iadd, 1) := by decide +kernel
theorem dL_law_575 : decode cL_law 575 = .ok (.iaload, 1) := by decide +kernel
theorem dL_law_576 : decode cL_law 576 = .ok (.invokevirtual 76, 3) := by decide +kernel
theorem dL_law_579 : decode cL_law 579 = .ok (.aload_n 2, 1) := by decide +kernel
theorem dL_law_580 : decode cL_law 580 = .ok (.aload_n 0, 1) := by decide +kernel
theorem dL_law_581 : decode cL_law 581 = .ok (.iload_n 3, 1) := by decide +kernel
theorem dL_law_582 : decode cL_law 582 = .ok (.iconst 1, 1) := by decide +kernel
theorem dL_law_583 : decode cL_law 583 = .ok (.iadd, 1) := by decide +kernel
theorem dL_law_584 : decode cL_law 584 = .ok (.iaload, 1) := by decide +kernel
theorem dL_law_585 : decode cL_law 585 = .ok (.invokevirtual 79, 3) := by decide +kernel
theorem dL_law_588 : decode cL_law 588 = .ok (.if_icmp .eq 402, 3) := by decide +kernel
theorem dL_law_591 : decode cL_law 591 = .ok (.iconst 0, 1) := by decide +kernel
theorem dL_law_592 : decode cL_law 592 = .ok (.ireturn, 1) := by decide +kernel
theorem dL_law_593 : decode cL_law 593 = .ok (.aload_n 1, 1) := by decide +kernel
theorem dL_law_594 : decode cL_law 594 = .ok (.aload_n 0, 1) := by decide +kernel
theorem dL_law_595 : decode cL_law 595 = .ok (.iload_n 3, 1) := by decide +kernel
theorem dL_law_596 : decode cL_law 596 = .ok (.iconst 1, 1) := by decide +kernel
theorem dL_law_597 : decode cL_law 597 = .ok (.iadd, 1) := by decide +kernel
theorem dL_law_598 : decode cL_law 598 = .ok (.iaload, 1) := by decide +kernel
theorem dL_law_599 : decode cL_law 599 = .ok (.invokevirtual 80, 3) := by decide +kernel
theorem dL_law_602 : decode cL_law 602 = .ok (.aload_n 2, 1) := by decide +kernel
theorem dL_law_603 : decode cL_law 603 = .ok (.aload_n 0, 1) := by decide +kernel
theorem dL_law_604 : decode cL_law 604 = .ok (.iload_n 3, 1) := by decide +kernel
theorem dL_law_605 : decode cL_law 605 = .ok (.iconst 1, 1) := by decide +kernel
theorem dL_law_606 : decode cL_law 606 = .ok (.iadd, 1) := by decide +kernel
theorem dL_law_607 : decode cL_law 607 = .ok (.iaload, 1) := by decide +kernel
theorem dL_law_608 : decode cL_law 608 = .ok (.invokevirtual 83, 3) := by decide +kernel
theorem dL_law_611 : decode cL_law 611 = .ok (.if_icmp .eq 379, 3) := by decide +kernel
theorem dL_law_614 : decode cL_law 614 = .ok (.iconst 0, 1) := by decide +kernel
theorem dL_law_615 : decode cL_law 615 = .ok (.ireturn, 1) := by decide +kernel
theorem dL_law_616 : decode cL_law 616 = .ok (.aload_n 1, 1) := by decide +kernel
theorem dL_law_617 : decode cL_law 617 = .ok (.aload_n 0, 1) := by decide +kernel
theorem dL_law_618 : decode cL_law 618 = .ok (.iload_n 3, 1) := by decide +kernel
theorem dL_law_619 : decode cL_law 619 = .ok (.iconst 1, 1) := by decide +kernel
theorem dL_law_620 : decode cL_law 620 = .ok (.iadd, 1) := by decide +kernel
theorem dL_law_621 : decode cL_law 621 = .ok (.iaload, 1) := by decide +kernel
theorem dL_law_622 : decode cL_law 622 = .ok (.aload_n 0, 1) := by decide +kernel
theorem dL_law_623 : decode cL_law 623 = .ok (.iload_n 3, 1) := by decide +kernel
theorem dL_law_624 : decode cL_law 624 = .ok (.iconst 2, 1) := by decide +kernel
theorem dL_law_625 : decode cL_law 625 = .ok (.iadd, 1) := by decide +kernel
theorem dL_law_626 : decode cL_law 626 = .ok (.iaload, 1) := by decide +kernel
theorem dL_law_627 : decode cL_law 627 = .ok (.invokevirtual 84, 3) := by decide +kernel
theorem dL_law_630 : decode cL_law 630 = .ok (.aload_n 2, 1) := by decide +kernel
theorem dL_law_631 : decode cL_law 631 = .ok (.aload_n 0, 1) := by decide +kernel
theorem dL_law_632 : decode cL_law 632 = .ok (.iload_n 3, 1) := by decide +kernel
theorem dL_law_633 : decode cL_law 633 = .ok (.iconst 1, 1) := by decide +kernel
theorem dL_law_634 : decode cL_law 634 = .ok (.iadd, 1) := by decide +kernel
theorem dL_law_635 : decode cL_law 635 = .ok (.iaload, 1) := by decide +kernel
theorem dL_law_636 : decode cL_law 636 = .ok (.aload_n 0, 1) := by decide +kernel
theorem dL_law_637 : decode cL_law 637 = .ok (.iload_n 3, 1) := by decide +kernel
theorem dL_law_638 : decode cL_law 638 = .ok (.iconst 2, 1) := by decide +kernel
theorem dL_law_639 : decode cL_law 639 = .ok (.iadd, 1) := by decide +kernel
theorem dL_law_640 : decode cL_law 640 = .ok (.iaload, 1) := by decide +kernel
theorem dL_law_641 : decode cL_law 641 = .ok (.invokevirtual 87, 3) := by decide +kernel
theorem dL_law_644 : decode cL_law 644 = .ok (.if_icmp .eq 346, 3) := by decide +kernel
theorem dL_law_647 : decode cL_law 647 = .ok (.iconst 0, 1) := by decide +kernel
theorem dL_law_648 : decode cL_law 648 = .ok (.ireturn, 1) := by decide +kernel
theorem dL_law_649 : decode cL_law 649 = .ok (.aload_n 1, 1) := by decide +kernel
theorem dL_law_650 : decode cL_law 650 = .ok (.aload_n 0, 1) := by decide +kernel
theorem dL_law_651 : decode cL_law 651 = .ok (.iload_n 3, 1) := by decide +kernel
theorem dL_law_652 : decode cL_law 652 = .ok (.iconst 1, 1) := by decide +kernel
theorem dL_law_653 : decode cL_law 653 = .ok (.iadd, 1) := by decide +kernel
theorem dL_law_654 : decode cL_law 654 = .ok (.iaload, 1) := by decide +kernel
theorem dL_law_655 : decode cL_law 655 = .ok (.invokevirtual 88, 3) := by decide +kernel
theorem dL_law_658 : decode cL_law 658 = .ok (.aload_n 2, 1) := by decide +kernel
theorem dL_law_659 : decode cL_law 659 = .ok (.aload_n 0, 1) := by decide +kernel
theorem dL_law_660 : decode cL_law 660 = .ok (.iload_n 3, 1) := by decide +kernel
theorem dL_law_661 : decode cL_law 661 = .ok (.iconst 1, 1) := by decide +kernel
theorem dL_law_662 : decode cL_law 662 = .ok (.iadd, 1) := by decide +kernel
theorem dL_law_663 : decode cL_law 663 = .ok (.iaload, 1) := by decide +kernel
theorem dL_law_664 : decode cL_law 664 = .ok (.invokevirtual 91, 3) := by decide +kernel
theorem dL_law_667 : decode cL_law 667 = .ok (.if_icmp .eq 323, 3) := by decide +kernel
theorem dL_law_670 : decode cL_law 670 = .ok (.iconst 0, 1) := by decide +kernel
theorem dL_law_671 : decode cL_law 671 = .ok (.ireturn, 1) := by decide +kernel
theorem dL_law_672 : decode cL_law 672 = .ok (.aload_n 1, 1) := by decide +kernel
theorem dL_law_673 : decode cL_law 673 = .ok (.aload_n 0, 1) := by decide +kernel
theorem dL_law_674 : decode cL_law 674 = .ok (.iload_n 3, 1) := by decide +kernel
theorem dL_law_675 : decode cL_law 675 = .ok (.iconst 1, 1) := by decide +kernel
theorem dL_law_676 : decode cL_law 676 = .ok (.iadd, 1) := by decide +kernel
theorem dL_law_677 : decode cL_law 677 = .ok (.iaload, 1) := by decide +kernel
theorem dL_law_678 : decode cL_law 678 = .ok (.invokevirtual 92, 3) := by decide +kernel
theorem dL_law_681 : decode cL_law 681 = .ok (.aload_n 2, 1) := by decide +kernel
theorem dL_law_682 : decode cL_law 682 = .ok (.aload_n 0, 1) := by decide +kernel
theorem dL_law_683 : decode cL_law 683 = .ok (.iload_n 3, 1) := by decide +kernel
theorem dL_law_684 : decode cL_law 684 = .ok (.iconst 1, 1) := by decide +kernel
theorem dL_law_685 : decode cL_law 685 = .ok (.iadd, 1) := by decide +kernel
theorem dL_law_686 : decode cL_law 686 = .ok (.iaload, 1) := by decide +kernel
theorem dL_law_687 : decode cL_law 687 = .ok (.invokevirtual 95, 3) := by decide +kernel
theorem dL_law_690 : decode cL_law 690 = .ok (.if_icmp .eq 300, 3) := by decide +kernel
theorem dL_law_693 : decode cL_law 693 = .ok (.iconst 0, 1) := by decide +kernel
theorem dL_law_694 : decode cL_law 694 = .ok (.ireturn, 1) := by decide +kernel
theorem dL_law_695 : decode cL_law 695 = .ok (.aload_n 1, 1) := by decide +kernel
theorem dL_law_696 : decode cL_law 696 = .ok (.aload_n 0, 1) := by decide +kernel
theorem dL_law_697 : decode cL_law 697 = .ok (.iload_n 3, 1) := by decide +kernel
theorem dL_law_698 : decode cL_law 698 = .ok (.iconst 1, 1) := by decide +kernel
theorem dL_law_699 : decode cL_law 699 = .ok (.iadd, 1) := by decide +kernel
theorem dL_law_700 : decode cL_law 700 = .ok (.iaload, 1) := by decide +kernel
theorem dL_law_701 : decode cL_law 701 = .ok (.aload_n 0, 1) := by decide +kernel
theorem dL_law_702 : decode cL_law 702 = .ok (.iload_n 3, 1) := by decide +kernel
theorem dL_law_703 : decode cL_law 703 = .ok (.iconst 2, 1) := by decide +kernel
theorem dL_law_704 : decode cL_law 704 = .ok (.iadd, 1) := by decide +kernel
theorem dL_law_705 : decode cL_law 705 = .ok (.iaload, 1) := by decide +kernel
theorem dL_law_706 : decode cL_law 706 = .ok (.invokevirtual 96, 3) := by decide +kernel
theorem dL_law_709 : decode cL_law 709 = .ok (.aload_n 2, 1) := by decide +kernel
theorem dL_law_710 : decode cL_law 710 = .ok (.aload_n 0, 1) := by decide +kernel
theorem dL_law_711 : decode cL_law 711 = .ok (.iload_n 3, 1) := by decide +kernel
theorem dL_law_712 : decode cL_law 712 = .ok (.iconst 1, 1) := by decide +kernel
theorem dL_law_713 : decode cL_law 713 = .ok (.iadd, 1) := by decide +kernel
theorem dL_law_714 : decode cL_law 714 = .ok (.iaload, 1) := by decide +kernel
theorem dL_law_715 : decode cL_law 715 = .ok (.aload_n 0, 1) := by decide +kernel
theorem dL_law_716 : decode cL_law 716 = .ok (.iload_n 3, 1) := by decide +kernel
theorem dL_law_717 : decode cL_law 717 = .ok (.iconst 2, 1) := by decide +kernel
theorem dL_law_718 : decode cL_law 718 = .ok (.iadd, 1) := by decide +kernel
theorem dL_law_719 : decode cL_law 719 = .ok (.iaload, 1) := by decide +kernel
theorem dL_law_720 : decode cL_law 720 = .ok (.invokevirtual 99, 3) := by decide +kernel
theorem dL_law_723 : decode cL_law 723 = .ok (.if_icmp .eq 267, 3) := by decide +kernel
theorem dL_law_726 : decode cL_law 726 = .ok (.iconst 0, 1) := by decide +kernel
theorem dL_law_727 : decode cL_law 727 = .ok (.ireturn, 1) := by decide +kernel
theorem dL_law_728 : decode cL_law 728 = .ok (.aload_n 1, 1) := by decide +kernel
theorem dL_law_729 : decode cL_law 729 = .ok (.aload_n 0, 1) := by decide +kernel
theorem dL_law_730 : decode cL_law 730 = .ok (.iload_n 3, 1) := by decide +kernel
theorem dL_law_731 : decode cL_law 731 = .ok (.iconst 1, 1) := by decide +kernel
theorem dL_law_732 : decode cL_law 732 = .ok (.iadd, 1) := by decide +kernel
theorem dL_law_733 : decode cL_law 733 = .ok (.iaload, 1) := by decide +kernel
theorem dL_law_734 : decode cL_law 734 = .ok (.aload_n 0, 1) := by decide +kernel
theorem dL_law_735 : decode cL_law 735 = .ok (.iload_n 3, 1) := by decide +kernel
theorem dL_law_736 : decode cL_law 736 = .ok (.iconst 2, 1) := by decide +kernel
theorem dL_law_737 : decode cL_law 737 = .ok (.iadd, 1) := by decide +kernel
theorem dL_law_738 : decode cL_law 738 = .ok (.iaload, 1) := by decide +kernel
theorem dL_law_739 : decode cL_law 739 = .ok (.invokevirtual 100, 3) := by decide +kernel
theorem dL_law_742 : decode cL_law 742 = .ok (.aload_n 2, 1) := by decide +kernel
theorem dL_law_743 : decode cL_law 743 = .ok (.aload_n 0, 1) := by decide +kernel
theorem dL_law_744 : decode cL_law 744 = .ok (.iload_n 3, 1) := by decide +kernel
theorem dL_law_745 : decode cL_law 745 = .ok (.iconst 1, 1) := by decide +kernel
theorem dL_law_746 : decode cL_law 746 = .ok (.iadd, 1) := by decide +kernel
theorem dL_law_747 : decode cL_law 747 = .ok (.iaload, 1) := by decide +kernel
theorem dL_law_748 : decode cL_law 748 = .ok (.aload_n 0, 1) := by decide +kernel
theorem dL_law_749 : decode cL_law 749 = .ok (.iload_n 3, 1) := by decide +kernel
theorem dL_law_750 : decode cL_law 750 = .ok (.iconst 2, 1) := by decide +kernel
theorem dL_law_751 : decode cL_law 751 = .ok (.iadd, 1) := by decide +kernel
theorem dL_law_752 : decode cL_law 752 = .ok (.iaload, 1) := by decide +kernel
theorem dL_law_753 : decode cL_law 753 = .ok (.invokevirtual 103, 3) := by decide +kernel
theorem dL_law_756 : decode cL_law 756 = .ok (.if_icmp .eq 234, 3) := by decide +kernel
theorem dL_law_759 : decode cL_law 759 = .ok (.iconst 0, 1) := by decide +kernel
theorem dL_law_760 : decode cL_law 760 = .ok (.ireturn, 1) := by decide +kernel
theorem dL_law_761 : decode cL_law 761 = .ok (.aload_n 1, 1) := by decide +kernel
theorem dL_law_762 : decode cL_law 762 = .ok (.aload_n 0, 1) := by decide +kernel
theorem dL_law_763 : decode cL_law 763 = .ok (.iload_n 3, 1) := by decide +kernel
theorem dL_law_764 : decode cL_law 764 = .ok (.iconst 1, 1) := by decide +kernel
theorem dL_law_765 : decode cL_law 765 = .ok (.iadd, 1) := by decide +kernel
theorem dL_law_766 : decode cL_law 766 = .ok (.iaload, 1) := by decide +kernel
theorem dL_law_767 : decode cL_law 767 = .ok (.aload_n 0, 1) := by decide +kernel
theorem dL_law_768 : decode cL_law 768 = .ok (.iload_n 3, 1) := by decide +kernel
theorem dL_law_769 : decode cL_law 769 = .ok (.iconst 2, 1) := by decide +kernel
theorem dL_law_770 : decode cL_law 770 = .ok (.iadd, 1) := by decide +kernel
theorem dL_law_771 : decode cL_law 771 = .ok (.iaload, 1) := by decide +kernel
theorem dL_law_772 : decode cL_law 772 = .ok (.invokevirtual 104, 3) := by decide +kernel
theorem dL_law_775 : decode cL_law 775 = .ok (.aload_n 2, 1) := by decide +kernel
theorem dL_law_776 : decode cL_law 776 = .ok (.aload_n 0, 1) := by decide +kernel
theorem dL_law_777 : decode cL_law 777 = .ok (.iload_n 3, 1) := by decide +kernel
theorem dL_law_778 : decode cL_law 778 = .ok (.iconst 1, 1) := by decide +kernel
theorem dL_law_779 : decode cL_law 779 = .ok (.iadd, 1) := by decide +kernel
theorem dL_law_780 : decode cL_law 780 = .ok (.iaload, 1) := by decide +kernel
theorem dL_law_781 : decode cL_law 781 = .ok (.aload_n 0, 1) := by decide +kernel
theorem dL_law_782 : decode cL_law 782 = .ok (.iload_n 3, 1) := by decide +kernel
theorem dL_law_783 : decode cL_law 783 = .ok (.iconst 2, 1) := by decide +kernel
theorem dL_law_784 : decode cL_law 784 = .ok (.iadd, 1) := by decide +kernel
theorem dL_law_785 : decode cL_law 785 = .ok (.iaload, 1) := by decide +kernel
theorem dL_law_786 : decode cL_law 786 = .ok (.invokevirtual 107, 3) := by decide +kernel
theorem dL_law_789 : decode cL_law 789 = .ok (.if_icmp .eq 201, 3) := by decide +kernel
theorem dL_law_792 : decode cL_law 792 = .ok (.iconst 0, 1) := by decide +kernel
theorem dL_law_793 : decode cL_law 793 = .ok (.ireturn, 1) := by decide +kernel
theorem dL_law_794 : decode cL_law 794 = .ok (.aload_n 1, 1) := by decide +kernel
theorem dL_law_795 : decode cL_law 795 = .ok (.aload_n 0, 1) := by decide +kernel
theorem dL_law_796 : decode cL_law 796 = .ok (.iload_n 3, 1) := by decide +kernel
theorem dL_law_797 : decode cL_law 797 = .ok (.iconst 1, 1) := by decide +kernel
theorem dL_law_798 : decode cL_law 798 = .ok (.iadd, 1) := by decide +kernel
theorem dL_law_799 : decode cL_law 799 = .ok (.iaload, 1) := by decide +kernel
theorem dL_law_800 : decode cL_law 800 = .ok (.invokevirtual 108, 3) := by decide +kernel
theorem dL_law_803 : decode cL_law 803 = .ok (.aload_n 2, 1) := by decide +kernel
theorem dL_law_804 : decode cL_law 804 = .ok (.aload_n 0, 1) := by decide +kernel
theorem dL_law_805 : decode cL_law 805 = .ok (.iload_n 3, 1) := by decide +kernel
theorem dL_law_806 : decode cL_law 806 = .ok (.iconst 1, 1) := by decide +kernel
theorem dL_law_807 : decode cL_law 807 = .ok (.iadd, 1) := by decide +kernel
theorem dL_law_808 : decode cL_law 808 = .ok (.iaload, 1) := by decide +kernel
theorem dL_law_809 : decode cL_law 809 = .ok (.invokevirtual 111, 3) := by decide +kernel
theorem dL_law_812 : decode cL_law 812 = .ok (.if_icmp .eq 178, 3) := by decide +kernel
theorem dL_law_815 : decode cL_law 815 = .ok (.iconst 0, 1) := by decide +kernel
theorem dL_law_816 : decode cL_law 816 = .ok (.ireturn, 1) := by decide +kernel
theorem dL_law_817 : decode cL_law 817 = .ok (.aload_n 1, 1) := by decide +kernel
theorem dL_law_818 : decode cL_law 818 = .ok (.aload_n 0, 1) := by decide +kernel
theorem dL_law_819 : decode cL_law 819 = .ok (.iload_n 3, 1) := by decide +kernel
theorem dL_law_820 : decode cL_law 820 = .ok (.iconst 1, 1) := by decide +kernel
theorem dL_law_821 : decode cL_law 821 = .ok (.iadd, 1) := by decide +kernel
theorem dL_law_822 : decode cL_law 822 = .ok (.iaload, 1) := by decide +kernel
theorem dL_law_823 : decode cL_law 823 = .ok (.aload_n 0, 1) := by decide +kernel
theorem dL_law_824 : decode cL_law 824 = .ok (.iload_n 3, 1) := by decide +kernel
theorem dL_law_825 : decode cL_law 825 = .ok (.iconst 2, 1) := by decide +kernel
theorem dL_law_826 : decode cL_law 826 = .ok (.iadd, 1) := by decide +kernel
theorem dL_law_827 : decode cL_law 827 = .ok (.iaload, 1) := by decide +kernel
theorem dL_law_828 : decode cL_law 828 = .ok (.aload_n 0, 1) := by decide +kernel
theorem dL_law_829 : decode cL_law 829 = .ok (.iload_n 3, 1) := by decide +kernel
theorem dL_law_830 : decode cL_law 830 = .ok (.iconst 3, 1) := by decide +kernel
theorem dL_law_831 : decode cL_law 831 = .ok (.iadd, 1) := by decide +kernel
theorem dL_law_832 : decode cL_law 832 = .ok (.iaload, 1) := by decide +kernel
theorem dL_law_833 : decode cL_law 833 = .ok (.invokevirtual 112, 3) := by decide +kernel
theorem dL_law_836 : decode cL_law 836 = .ok (.aload_n 2, 1) := by decide +kernel
theorem dL_law_837 : decode cL_law 837 = .ok (.aload_n 0, 1) := by decide +kernel
theorem dL_law_838 : decode cL_law 838 = .ok (.iload_n 3, 1) := by decide +kernel
theorem dL_law_839 : decode cL_law 839 = .ok (.iconst 1, 1) := by decide +kernel
theorem dL_law_840 : decode cL_law 840 = .ok (.iadd, 1) := by decide +kernel
theorem dL_law_841 : decode cL_law 841 = .ok (.iaload, 1) := by decide +kernel
theorem dL_law_842 : decode cL_law 842 = .ok (.aload_n 0, 1) := by decide +kernel
theorem dL_law_843 : decode cL_law 843 = .ok (.iload_n 3, 1) := by decide +kernel
theorem dL_law_844 : decode cL_law 844 = .ok (.iconst 2, 1) := by decide +kernel
theorem dL_law_845 : decode cL_law 845 = .ok (.iadd, 1) := by decide +kernel
theorem dL_law_846 : decode cL_law 846 = .ok (.iaload, 1) := by decide +kernel
theorem dL_law_847 : decode cL_law 847 = .ok (.aload_n 0, 1) := by decide +kernel
theorem dL_law_848 : decode cL_law 848 = .ok (.iload_n 3, 1) := by decide +kernel
theorem dL_law_849 : decode cL_law 849 = .ok (.iconst 3, 1) := by decide +kernel
theorem dL_law_850 : decode cL_law 850 = .ok (.iadd, 1) := by decide +kernel
theorem dL_law_851 : decode cL_law 851 = .ok (.iaload, 1) := by decide +kernel
theorem dL_law_852 : decode cL_law 852 = .ok (.invokevirtual 115, 3) := by decide +kernel
theorem dL_law_855 : decode cL_law 855 = .ok (.if_icmp .eq 135, 3) := by decide +kernel
theorem dL_law_858 : decode cL_law 858 = .ok (.iconst 0, 1) := by decide +kernel
theorem dL_law_859 : decode cL_law 859 = .ok (.ireturn, 1) := by decide +kernel
theorem dL_law_860 : decode cL_law 860 = .ok (.aload_n 1, 1) := by decide +kernel
theorem dL_law_861 : decode cL_law 861 = .ok (.aload_n 0, 1) := by decide +kernel
theorem dL_law_862 : decode cL_law 862 = .ok (.iload_n 3, 1) := by decide +kernel
theorem dL_law_863 : decode cL_law 863 = .ok (.iconst 1, 1) := by decide +kernel
theorem dL_law_864 : decode cL_law 864 = .ok (.iadd, 1) := by decide +kernel
theorem dL_law_865 : decode cL_law 865 = .ok (.iaload, 1) := by decide +kernel
theorem dL_law_866 : decode cL_law 866 = .ok (.invokevirtual 116, 3) := by decide +kernel
theorem dL_law_869 : decode cL_law 869 = .ok (.aload_n 2, 1) := by decide +kernel
theorem dL_law_870 : decode cL_law 870 = .ok (.aload_n 0, 1) := by decide +kernel
theorem dL_law_871 : decode cL_law 871 = .ok (.iload_n 3, 1) := by decide +kernel
theorem dL_law_872 : decode cL_law 872 = .ok (.iconst 1, 1) := by decide +kernel
theorem dL_law_873 : decode cL_law 873 = .ok (.iadd, 1) := by decide +kernel
theorem dL_law_874 : decode cL_law 874 = .ok (.iaload, 1) := by decide +kernel
theorem dL_law_875 : decode cL_law 875 = .ok (.invokevirtual 120, 3) := by decide +kernel
theorem dL_law_878 : decode cL_law 878 = .ok (.lcmp, 1) := by decide +kernel
theorem dL_law_879 : decode cL_law 879 = .ok (.ifCond .eq 111, 3) := by decide +kernel
theorem dL_law_882 : decode cL_law 882 = .ok (.iconst 0, 1) := by decide +kernel
theorem dL_law_883 : decode cL_law 883 = .ok (.ireturn, 1) := by decide +kernel
theorem dL_law_884 : decode cL_law 884 = .ok (.aload_n 1, 1) := by decide +kernel
theorem dL_law_885 : decode cL_law 885 = .ok (.aload_n 0, 1) := by decide +kernel
theorem dL_law_886 : decode cL_law 886 = .ok (.iload_n 3, 1) := by decide +kernel
theorem dL_law_887 : decode cL_law 887 = .ok (.iconst 1, 1) := by decide +kernel
theorem dL_law_888 : decode cL_law 888 = .ok (.iadd, 1) := by decide +kernel
theorem dL_law_889 : decode cL_law 889 = .ok (.iaload, 1) := by decide +kernel
theorem dL_law_890 : decode cL_law 890 = .ok (.invokevirtual 121, 3) := by decide +kernel
theorem dL_law_893 : decode cL_law 893 = .ok (.aload_n 2, 1) := by decide +kernel
theorem dL_law_894 : decode cL_law 894 = .ok (.aload_n 0, 1) := by decide +kernel
theorem dL_law_895 : decode cL_law 895 = .ok (.iload_n 3, 1) := by decide +kernel
theorem dL_law_896 : decode cL_law 896 = .ok (.iconst 1, 1) := by decide +kernel
theorem dL_law_897 : decode cL_law 897 = .ok (.iadd, 1) := by decide +kernel
theorem dL_law_898 : decode cL_law 898 = .ok (.iaload, 1) := by decide +kernel
theorem dL_law_899 : decode cL_law 899 = .ok (.invokevirtual 124, 3) := by decide +kernel
theorem dL_law_902 : decode cL_law 902 = .ok (.if_icmp .eq 88, 3) := by decide +kernel
theorem dL_law_905 : decode cL_law 905 = .ok (.iconst 0, 1) := by decide +kernel
theorem dL_law_906 : decode cL_law 906 = .ok (.ireturn, 1) := by decide +kernel
theorem dL_law_907 : decode cL_law 907 = .ok (.aload_n 1, 1) := by decide +kernel
theorem dL_law_908 : decode cL_law 908 = .ok (.aload_n 0, 1) := by decide +kernel
theorem dL_law_909 : decode cL_law 909 = .ok (.iload_n 3, 1) := by decide +kernel
theorem dL_law_910 : decode cL_law 910 = .ok (.iconst 1, 1) := by decide +kernel
theorem dL_law_911 : decode cL_law 911 = .ok (.iadd, 1) := by decide +kernel
theorem dL_law_912 : decode cL_law 912 = .ok (.iaload, 1) := by decide +kernel
theorem dL_law_913 : decode cL_law 913 = .ok (.invokevirtual 125, 3) := by decide +kernel
theorem dL_law_916 : decode cL_law 916 = .ok (.aload_n 2, 1) := by decide +kernel
theorem dL_law_917 : decode cL_law 917 = .ok (.aload_n 0, 1) := by decide +kernel
theorem dL_law_918 : decode cL_law 918 = .ok (.iload_n 3, 1) := by decide +kernel
theorem dL_law_919 : decode cL_law 919 = .ok (.iconst 1, 1) := by decide +kernel
theorem dL_law_920 : decode cL_law 920 = .ok (.iadd, 1) := by decide +kernel
theorem dL_law_921 : decode cL_law 921 = .ok (.iaload, 1) := by decide +kernel
theorem dL_law_922 : decode cL_law 922 = .ok (.invokevirtual 128, 3) := by decide +kernel
theorem dL_law_925 : decode cL_law 925 = .ok (.if_icmp .eq 65, 3) := by decide +kernel
theorem dL_law_928 : decode cL_law 928 = .ok (.iconst 0, 1) := by decide +kernel
theorem dL_law_929 : decode cL_law 929 = .ok (.ireturn, 1) := by decide +kernel
theorem dL_law_930 : decode cL_law 930 = .ok (.aload_n 1, 1) := by decide +kernel
theorem dL_law_931 : decode cL_law 931 = .ok (.aload_n 0, 1) := by decide +kernel
theorem dL_law_932 : decode cL_law 932 = .ok (.iload_n 3, 1) := by decide +kernel
theorem dL_law_933 : decode cL_law 933 = .ok (.iconst 1, 1) := by decide +kernel
theorem dL_law_934 : decode cL_law 934 = .ok (.iadd, 1) := by decide +kernel
theorem dL_law_935 : decode cL_law 935 = .ok (.iaload, 1) := by decide +kernel
theorem dL_law_936 : decode cL_law 936 = .ok (.invokevirtual 129, 3) := by decide +kernel
theorem dL_law_939 : decode cL_law 939 = .ok (.aload_n 2, 1) := by decide +kernel
theorem dL_law_940 : decode cL_law 940 = .ok (.aload_n 0, 1) := by decide +kernel
theorem dL_law_941 : decode cL_law 941 = .ok (.iload_n 3, 1) := by decide +kernel
theorem dL_law_942 : decode cL_law 942 = .ok (.iconst 1, 1) := by decide +kernel
theorem dL_law_943 : decode cL_law 943 = .ok (.iadd, 1) := by decide +kernel
theorem dL_law_944 : decode cL_law 944 = .ok (.iaload, 1) := by decide +kernel
theorem dL_law_945 : decode cL_law 945 = .ok (.invokevirtual 132, 3) := by decide +kernel
theorem dL_law_948 : decode cL_law 948 = .ok (.if_icmp .eq 42, 3) := by decide +kernel
theorem dL_law_951 : decode cL_law 951 = .ok (.iconst 0, 1) := by decide +kernel
theorem dL_law_952 : decode cL_law 952 = .ok (.ireturn, 1) := by decide +kernel
theorem dL_law_953 : decode cL_law 953 = .ok (.aload_n 1, 1) := by decide +kernel
theorem dL_law_954 : decode cL_law 954 = .ok (.aload_n 0, 1) := by decide +kernel
theorem dL_law_955 : decode cL_law 955 = .ok (.iload_n 3, 1) := by decide +kernel
theorem dL_law_956 : decode cL_law 956 = .ok (.iconst 1, 1) := by decide +kernel
theorem dL_law_957 : decode cL_law 957 = .ok (.iadd, 1) := by decide +kernel
theorem dL_law_958 : decode cL_law 958 = .ok (.iaload, 1) := by decide +kernel
theorem dL_law_959 : decode cL_law 959 = .ok (.invokevirtual 133, 3) := by decide +kernel
theorem dL_law_962 : decode cL_law 962 = .ok (.aload_n 2, 1) := by decide +kernel
theorem dL_law_963 : decode cL_law 963 = .ok (.aload_n 0, 1) := by decide +kernel
theorem dL_law_964 : decode cL_law 964 = .ok (.iload_n 3, 1) := by decide +kernel
theorem dL_law_965 : decode cL_law 965 = .ok (.iconst 1, 1) := by decide +kernel
theorem dL_law_966 : decode cL_law 966 = .ok (.iadd, 1) := by decide +kernel
theorem dL_law_967 : decode cL_law 967 = .ok (.iaload, 1) := by decide +kernel
theorem dL_law_968 : decode cL_law 968 = .ok (.invokevirtual 136, 3) := by decide +kernel
theorem dL_law_971 : decode cL_law 971 = .ok (.if_icmp .eq 19, 3) := by decide +kernel
theorem dL_law_974 : decode cL_law 974 = .ok (.iconst 0, 1) := by decide +kernel
theorem dL_law_975 : decode cL_law 975 = .ok (.ireturn, 1) := by decide +kernel
theorem dL_law_976 : decode cL_law 976 = .ok (.aload_n 1, 1) := by decide +kernel
theorem dL_law_977 : decode cL_law 977 = .ok (.invokevirtual 137, 3) := by decide +kernel
theorem dL_law_980 : decode cL_law 980 = .ok (.aload_n 2, 1) := by decide +kernel
theorem dL_law_981 : decode cL_law 981 = .ok (.invokevirtual 141, 3) := by decide +kernel
theorem dL_law_984 : decode cL_law 984 = .ok (.lcmp, 1) := by decide +kernel
theorem dL_law_985 : decode cL_law 985 = .ok (.ifCond .eq 5, 3) := by decide +kernel
theorem dL_law_988 : decode cL_law 988 = .ok (.iconst 0, 1) := by decide +kernel
theorem dL_law_989 : decode cL_law 989 = .ok (.ireturn, 1) := by decide +kernel
theorem dL_law_990 : decode cL_law 990 = .ok (.iinc 3 4, 3) := by decide +kernel
theorem dL_law_993 : decode cL_law 993 = .ok (.goto (-975), 3) := by decide +kernel
theorem dL_law_996 : decode cL_law 996 = .ok (.iconst 1, 1) := by decide +kernel
theorem dL_law_997 : decode cL_law 997 = .ok (.ireturn, 1) := by decide +kernel
