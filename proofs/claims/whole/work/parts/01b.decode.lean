theorem dX0_init_0 : decode cX0_init 0 = .ok (.aload_n 0, 1) := by decide +kernel
theorem dX0_init_1 : decode cX0_init 1 = .ok (.invokespecial 3, 3) := by decide +kernel
theorem dX0_init_4 : decode cX0_init 4 = .ok (.aload_n 0, 1) := by decide +kernel
theorem dX0_init_5 : decode cX0_init 5 = .ok (.bipush 10, 2) := by decide +kernel
theorem dX0_init_7 : decode cX0_init 7 = .ok (.newarray .int, 2) := by decide +kernel
theorem dX0_init_9 : decode cX0_init 9 = .ok (.putfield 9, 3) := by decide +kernel
theorem dX0_init_12 : decode cX0_init 12 = .ok (.aload_n 0, 1) := by decide +kernel
theorem dX0_init_13 : decode cX0_init 13 = .ok (.bipush 9, 2) := by decide +kernel
theorem dX0_init_15 : decode cX0_init 15 = .ok (.newarray .int, 2) := by decide +kernel
theorem dX0_init_17 : decode cX0_init 17 = .ok (.putfield 15, 3) := by decide +kernel
theorem dX0_init_20 : decode cX0_init 20 = .ok (.aload_n 0, 1) := by decide +kernel
theorem dX0_init_21 : decode cX0_init 21 = .ok (.iconst 5, 1) := by decide +kernel
theorem dX0_init_22 : decode cX0_init 22 = .ok (.newarray .int, 2) := by decide +kernel
theorem dX0_init_24 : decode cX0_init 24 = .ok (.putfield 18, 3) := by decide +kernel
theorem dX0_init_27 : decode cX0_init 27 = .ok (.aload_n 0, 1) := by decide +kernel
theorem dX0_init_28 : decode cX0_init 28 = .ok (.iconst 5, 1) := by decide +kernel
theorem dX0_init_29 : decode cX0_init 29 = .ok (.newarray .int, 2) := by decide +kernel
theorem dX0_init_31 : decode cX0_init 31 = .ok (.putfield 21, 3) := by decide +kernel
theorem dX0_init_34 : decode cX0_init 34 = .ok (.aload_n 0, 1) := by decide +kernel
theorem dX0_init_35 : decode cX0_init 35 = .ok (.getfield 18, 3) := by decide +kernel
theorem dX0_init_38 : decode cX0_init 38 = .ok (.bipush 9, 2) := by decide +kernel
theorem dX0_init_40 : decode cX0_init 40 = .ok (.invokestatic 24, 3) := by decide +kernel
theorem dX0_init_43 : decode cX0_init 43 = .ok (.return_, 1) := by decide +kernel
theorem dX0_sit_0 : decode cX0_sit 0 = .ok (.aload_n 0, 1) := by decide +kernel
theorem dX0_sit_1 : decode cX0_sit 1 = .ok (.aload_n 1, 1) := by decide +kernel
theorem dX0_sit_2 : decode cX0_sit 2 = .ok (.getfield 30, 3) := by decide +kernel
theorem dX0_sit_5 : decode cX0_sit 5 = .ok (.putfield 36, 3) := by decide +kernel
theorem dX0_sit_8 : decode cX0_sit 8 = .ok (.aload_n 0, 1) := by decide +kernel
theorem dX0_sit_9 : decode cX0_sit 9 = .ok (.aload_n 1, 1) := by decide +kernel
theorem dX0_sit_10 : decode cX0_sit 10 = .ok (.getfield 37, 3) := by decide +kernel
theorem dX0_sit_13 : decode cX0_sit 13 = .ok (.putfield 40, 3) := by decide +kernel
theorem dX0_sit_16 : decode cX0_sit 16 = .ok (.aload_n 0, 1) := by decide +kernel
theorem dX0_sit_17 : decode cX0_sit 17 = .ok (.getfield 9, 3) := by decide +kernel
theorem dX0_sit_20 : decode cX0_sit 20 = .ok (.iconst (-1), 1) := by decide +kernel
theorem dX0_sit_21 : decode cX0_sit 21 = .ok (.invokestatic 24, 3) := by decide +kernel
theorem dX0_sit_24 : decode cX0_sit 24 = .ok (.iconst 0, 1) := by decide +kernel
theorem dX0_sit_25 : decode cX0_sit 25 = .ok (.istore 4, 2) := by decide +kernel
theorem dX0_sit_27 : decode cX0_sit 27 = .ok (.iload 4, 2) := by decide +kernel
theorem dX0_sit_29 : decode cX0_sit 29 = .ok (.aload_n 1, 1) := by decide +kernel
theorem dX0_sit_30 : decode cX0_sit 30 = .ok (.getfield 41, 3) := by decide +kernel
theorem dX0_sit_33 : decode cX0_sit 33 = .ok (.if_icmp .ge 100, 3) := by decide +kernel
theorem dX0_sit_36 : decode cX0_sit 36 = .ok (.iload 4, 2) := by decide +kernel
theorem dX0_sit_38 : decode cX0_sit 38 = .ok (.iload_n 3, 1) := by decide +kernel
theorem dX0_sit_39 : decode cX0_sit 39 = .ok (.if_icmp .ne 7, 3) := by decide +kernel
theorem dX0_sit_42 : decode cX0_sit 42 = .ok (.iconst (-1), 1) := by decide +kernel
theorem dX0_sit_43 : decode cX0_sit 43 = .ok (.goto 10, 3) := by decide +kernel
theorem dX0_sit_46 : decode cX0_sit 46 = .ok (.aload_n 1, 1) := by decide +kernel
theorem dX0_sit_47 : decode cX0_sit 47 = .ok (.getfield 44, 3) := by decide +kernel
theorem dX0_sit_50 : decode cX0_sit 50 = .ok (.iload 4, 2) := by decide +kernel
theorem dX0_sit_52 : decode cX0_sit 52 = .ok (.iaload, 1) := by decide +kernel
theorem dX0_sit_53 : decode cX0_sit 53 = .ok (.istore 5, 2) := by decide +kernel
theorem dX0_sit_55 : decode cX0_sit 55 = .ok (.iload 5, 2) := by decide +kernel
theorem dX0_sit_57 : decode cX0_sit 57 = .ok (.iconst 0, 1) := by decide +kernel
theorem dX0_sit_58 : decode cX0_sit 58 = .ok (.iload 4, 2) := by decide +kernel
theorem dX0_sit_60 : decode cX0_sit 60 = .ok (.iconst 1, 1) := by decide +kernel
theorem dX0_sit_61 : decode cX0_sit 61 = .ok (.isub, 1) := by decide +kernel
theorem dX0_sit_62 : decode cX0_sit 62 = .ok (.invokestatic 47, 3) := by decide +kernel
theorem dX0_sit_65 : decode cX0_sit 65 = .ok (.istore 6, 2) := by decide +kernel
theorem dX0_sit_67 : decode cX0_sit 67 = .ok (.aload_n 0, 1) := by decide +kernel
theorem dX0_sit_68 : decode cX0_sit 68 = .ok (.getfield 15, 3) := by decide +kernel
theorem dX0_sit_71 : decode cX0_sit 71 = .ok (.iload 4, 2) := by decide +kernel
theorem dX0_sit_73 : decode cX0_sit 73 = .ok (.iload 6, 2) := by decide +kernel
theorem dX0_sit_75 : decode cX0_sit 75 = .ok (.ifCond .eq 15, 3) := by decide +kernel
theorem dX0_sit_78 : decode cX0_sit 78 = .ok (.aload_n 0, 1) := by decide +kernel
theorem dX0_sit_79 : decode cX0_sit 79 = .ok (.getfield 15, 3) := by decide +kernel
theorem dX0_sit_82 : decode cX0_sit 82 = .ok (.iload 5, 2) := by decide +kernel
theorem dX0_sit_84 : decode cX0_sit 84 = .ok (.iaload, 1) := by decide +kernel
theorem dX0_sit_85 : decode cX0_sit 85 = .ok (.iconst 1, 1) := by decide +kernel
theorem dX0_sit_86 : decode cX0_sit 86 = .ok (.iadd, 1) := by decide +kernel
theorem dX0_sit_87 : decode cX0_sit 87 = .ok (.goto 4, 3) := by decide +kernel
theorem dX0_sit_90 : decode cX0_sit 90 = .ok (.iconst 0, 1) := by decide +kernel
theorem dX0_sit_91 : decode cX0_sit 91 = .ok (.iastore, 1) := by decide +kernel
theorem dX0_sit_92 : decode cX0_sit 92 = .ok (.aload_n 0, 1) := by decide +kernel
theorem dX0_sit_93 : decode cX0_sit 93 = .ok (.getfield 9, 3) := by decide +kernel
theorem dX0_sit_96 : decode cX0_sit 96 = .ok (.iload 4, 2) := by decide +kernel
theorem dX0_sit_98 : decode cX0_sit 98 = .ok (.iload 6, 2) := by decide +kernel
theorem dX0_sit_100 : decode cX0_sit 100 = .ok (.ifCond .eq 24, 3) := by decide +kernel
theorem dX0_sit_103 : decode cX0_sit 103 = .ok (.aload_n 0, 1) := by decide +kernel
theorem dX0_sit_104 : decode cX0_sit 104 = .ok (.getfield 15, 3) := by decide +kernel
theorem dX0_sit_107 : decode cX0_sit 107 = .ok (.iload 4, 2) := by decide +kernel
theorem dX0_sit_109 : decode cX0_sit 109 = .ok (.iaload, 1) := by decide +kernel
theorem dX0_sit_110 : decode cX0_sit 110 = .ok (.iload_n 2, 1) := by decide +kernel
theorem dX0_sit_111 : decode cX0_sit 111 = .ok (.if_icmp .le 13, 3) := by decide +kernel
theorem dX0_sit_114 : decode cX0_sit 114 = .ok (.aload_n 0, 1) := by decide +kernel
theorem dX0_sit_115 : decode cX0_sit 115 = .ok (.getfield 9, 3) := by decide +kernel
theorem dX0_sit_118 : decode cX0_sit 118 = .ok (.iload 5, 2) := by decide +kernel
theorem dX0_sit_120 : decode cX0_sit 120 = .ok (.iaload, 1) := by decide +kernel
theorem dX0_sit_121 : decode cX0_sit 121 = .ok (.goto 5, 3) := by decide +kernel
theorem dX0_sit_124 : decode cX0_sit 124 = .ok (.iload 4, 2) := by decide +kernel
theorem dX0_sit_126 : decode cX0_sit 126 = .ok (.iastore, 1) := by decide +kernel
theorem dX0_sit_127 : decode cX0_sit 127 = .ok (.iinc 4 1, 3) := by decide +kernel
theorem dX0_sit_130 : decode cX0_sit 130 = .ok (.goto (-103), 3) := by decide +kernel
theorem dX0_sit_133 : decode cX0_sit 133 = .ok (.return_, 1) := by decide +kernel
theorem dX0_aheadOf_0 : decode cX0_aheadOf 0 = .ok (.iload_n 2, 1) := by decide +kernel
theorem dX0_aheadOf_1 : decode cX0_aheadOf 1 = .ok (.iconst 1, 1) := by decide +kernel
theorem dX0_aheadOf_2 : decode cX0_aheadOf 2 = .ok (.iconst 4, 1) := by decide +kernel
theorem dX0_aheadOf_3 : decode cX0_aheadOf 3 = .ok (.invokestatic 47, 3) := by decide +kernel
theorem dX0_aheadOf_6 : decode cX0_aheadOf 6 = .ok (.ifCond .eq 11, 3) := by decide +kernel
theorem dX0_aheadOf_9 : decode cX0_aheadOf 9 = .ok (.aload_n 1, 1) := by decide +kernel
theorem dX0_aheadOf_10 : decode cX0_aheadOf 10 = .ok (.iload_n 2, 1) := by decide +kernel
theorem dX0_aheadOf_11 : decode cX0_aheadOf 11 = .ok (.iconst 1, 1) := by decide +kernel
theorem dX0_aheadOf_12 : decode cX0_aheadOf 12 = .ok (.isub, 1) := by decide +kernel
theorem dX0_aheadOf_13 : decode cX0_aheadOf 13 = .ok (.aaload, 1) := by decide +kernel
theorem dX0_aheadOf_14 : decode cX0_aheadOf 14 = .ok (.goto 7, 3) := by decide +kernel
theorem dX0_aheadOf_17 : decode cX0_aheadOf 17 = .ok (.aload_n 0, 1) := by decide +kernel
theorem dX0_aheadOf_18 : decode cX0_aheadOf 18 = .ok (.getfield 18, 3) := by decide +kernel
theorem dX0_aheadOf_21 : decode cX0_aheadOf 21 = .ok (.areturn, 1) := by decide +kernel
theorem dX0_fineIn_0 : decode cX0_fineIn 0 = .ok (.aload_n 0, 1) := by decide +kernel
theorem dX0_fineIn_1 : decode cX0_fineIn 1 = .ok (.aload_n 1, 1) := by decide +kernel
theorem dX0_fineIn_2 : decode cX0_fineIn 2 = .ok (.iload_n 2, 1) := by decide +kernel
theorem dX0_fineIn_3 : decode cX0_fineIn 3 = .ok (.invokevirtual 51, 3) := by decide +kernel
theorem dX0_fineIn_6 : decode cX0_fineIn 6 = .ok (.aload_n 1, 1) := by decide +kernel
theorem dX0_fineIn_7 : decode cX0_fineIn 7 = .ok (.getfield 55, 3) := by decide +kernel
theorem dX0_fineIn_10 : decode cX0_fineIn 10 = .ok (.iload_n 2, 1) := by decide +kernel
theorem dX0_fineIn_11 : decode cX0_fineIn 11 = .ok (.aaload, 1) := by decide +kernel
theorem dX0_fineIn_12 : decode cX0_fineIn 12 = .ok (.aload_n 0, 1) := by decide +kernel
theorem dX0_fineIn_13 : decode cX0_fineIn 13 = .ok (.aload_n 1, 1) := by decide +kernel
theorem dX0_fineIn_14 : decode cX0_fineIn 14 = .ok (.getfield 55, 3) := by decide +kernel
theorem dX0_fineIn_17 : decode cX0_fineIn 17 = .ok (.iload_n 2, 1) := by decide +kernel
theorem dX0_fineIn_18 : decode cX0_fineIn 18 = .ok (.invokevirtual 59, 3) := by decide +kernel
theorem dX0_fineIn_21 : decode cX0_fineIn 21 = .ok (.iload_n 3, 1) := by decide +kernel
theorem dX0_fineIn_22 : decode cX0_fineIn 22 = .ok (.iload 4, 2) := by decide +kernel
theorem dX0_fineIn_24 : decode cX0_fineIn 24 = .ok (.invokevirtual 63, 3) := by decide +kernel
theorem dX0_fineIn_27 : decode cX0_fineIn 27 = .ok (.ireturn, 1) := by decide +kernel
theorem dX0_finesOf_0 : decode cX0_finesOf 0 = .ok (.iconst 0, 1) := by decide +kernel
theorem dX0_finesOf_1 : decode cX0_finesOf 1 = .ok (.istore 4, 2) := by decide +kernel
theorem dX0_finesOf_3 : decode cX0_finesOf 3 = .ok (.iconst 0, 1) := by decide +kernel
theorem dX0_finesOf_4 : decode cX0_finesOf 4 = .ok (.istore 5, 2) := by decide +kernel
theorem dX0_finesOf_6 : decode cX0_finesOf 6 = .ok (.iload 5, 2) := by decide +kernel
theorem dX0_finesOf_8 : decode cX0_finesOf 8 = .ok (.iload_n 3, 1) := by decide +kernel
theorem dX0_finesOf_9 : decode cX0_finesOf 9 = .ok (.if_icmp .ge 35, 3) := by decide +kernel
theorem dX0_finesOf_12 : decode cX0_finesOf 12 = .ok (.iload 4, 2) := by decide +kernel
theorem dX0_finesOf_14 : decode cX0_finesOf 14 = .ok (.aload_n 0, 1) := by decide +kernel
theorem dX0_finesOf_15 : decode cX0_finesOf 15 = .ok (.aload_n 1, 1) := by decide +kernel
theorem dX0_finesOf_16 : decode cX0_finesOf 16 = .ok (.iload 5, 2) := by decide +kernel
theorem dX0_finesOf_18 : decode cX0_finesOf 18 = .ok (.invokevirtual 51, 3) := by decide +kernel
theorem dX0_finesOf_21 : decode cX0_finesOf 21 = .ok (.aload_n 2, 1) := by decide +kernel
theorem dX0_finesOf_22 : decode cX0_finesOf 22 = .ok (.iload 5, 2) := by decide +kernel
theorem dX0_finesOf_24 : decode cX0_finesOf 24 = .ok (.aaload, 1) := by decide +kernel
theorem dX0_finesOf_25 : decode cX0_finesOf 25 = .ok (.aload_n 0, 1) := by decide +kernel
theorem dX0_finesOf_26 : decode cX0_finesOf 26 = .ok (.aload_n 2, 1) := by decide +kernel
theorem dX0_finesOf_27 : decode cX0_finesOf 27 = .ok (.iload 5, 2) := by decide +kernel
theorem dX0_finesOf_29 : decode cX0_finesOf 29 = .ok (.invokevirtual 59, 3) := by decide +kernel
theorem dX0_finesOf_32 : decode cX0_finesOf 32 = .ok (.invokevirtual 67, 3) := by decide +kernel
theorem dX0_finesOf_35 : decode cX0_finesOf 35 = .ok (.iadd, 1) := by decide +kernel
theorem dX0_finesOf_36 : decode cX0_finesOf 36 = .ok (.istore 4, 2) := by decide +kernel
theorem dX0_finesOf_38 : decode cX0_finesOf 38 = .ok (.iinc 5 1, 3) := by decide +kernel
theorem dX0_finesOf_41 : decode cX0_finesOf 41 = .ok (.goto (-35), 3) := by decide +kernel
theorem dX0_finesOf_44 : decode cX0_finesOf 44 = .ok (.iload 4, 2) := by decide +kernel
theorem dX0_finesOf_46 : decode cX0_finesOf 46 = .ok (.ireturn, 1) := by decide +kernel
theorem dX0_leastOfChoir_0 : decode cX0_leastOfChoir 0 = .ok (.iconst 0, 1) := by decide +kernel
theorem dX0_leastOfChoir_1 : decode cX0_leastOfChoir 1 = .ok (.istore 4, 2) := by decide +kernel
theorem dX0_leastOfChoir_3 : decode cX0_leastOfChoir 3 = .ok (.iload 4, 2) := by decide +kernel
theorem dX0_leastOfChoir_5 : decode cX0_leastOfChoir 5 = .ok (.iconst 5, 1) := by decide +kernel
theorem dX0_leastOfChoir_6 : decode cX0_leastOfChoir 6 = .ok (.if_icmp .ge 28, 3) := by decide +kernel
theorem dX0_leastOfChoir_9 : decode cX0_leastOfChoir 9 = .ok (.aload_n 0, 1) := by decide +kernel
theorem dX0_leastOfChoir_10 : decode cX0_leastOfChoir 10 = .ok (.getfield 21, 3) := by decide +kernel
theorem dX0_leastOfChoir_13 : decode cX0_leastOfChoir 13 = .ok (.iload 4, 2) := by decide +kernel
theorem dX0_leastOfChoir_15 : decode cX0_leastOfChoir 15 = .ok (.iload 4, 2) := by decide +kernel
theorem dX0_leastOfChoir_17 : decode cX0_leastOfChoir 17 = .ok (.iload_n 3, 1) := by decide +kernel
theorem dX0_leastOfChoir_18 : decode cX0_leastOfChoir 18 = .ok (.if_icmp .ge 7, 3) := by decide +kernel
theorem dX0_leastOfChoir_21 : decode cX0_leastOfChoir 21 = .ok (.iload_n 2, 1) := by decide +kernel
theorem dX0_leastOfChoir_22 : decode cX0_leastOfChoir 22 = .ok (.goto 5, 3) := by decide +kernel
theorem dX0_leastOfChoir_25 : decode cX0_leastOfChoir 25 = .ok (.bipush 9, 2) := by decide +kernel
theorem dX0_leastOfChoir_27 : decode cX0_leastOfChoir 27 = .ok (.iastore, 1) := by decide +kernel
theorem dX0_leastOfChoir_28 : decode cX0_leastOfChoir 28 = .ok (.iinc 4 1, 3) := by decide +kernel
theorem dX0_leastOfChoir_31 : decode cX0_leastOfChoir 31 = .ok (.goto (-28), 3) := by decide +kernel
theorem dX0_leastOfChoir_34 : decode cX0_leastOfChoir 34 = .ok (.ldc 71, 2) := by decide +kernel
theorem dX0_leastOfChoir_36 : decode cX0_leastOfChoir 36 = .ok (.istore 4, 2) := by decide +kernel
theorem dX0_leastOfChoir_38 : decode cX0_leastOfChoir 38 = .ok (.iconst 0, 1) := by decide +kernel
theorem dX0_leastOfChoir_39 : decode cX0_leastOfChoir 39 = .ok (.istore 5, 2) := by decide +kernel
theorem dX0_leastOfChoir_41 : decode cX0_leastOfChoir 41 = .ok (.iload 5, 2) := by decide +kernel
theorem dX0_leastOfChoir_43 : decode cX0_leastOfChoir 43 = .ok (.aload_n 1, 1) := by decide +kernel
theorem dX0_leastOfChoir_44 : decode cX0_leastOfChoir 44 = .ok (.getfield 72, 3) := by decide +kernel
theorem dX0_leastOfChoir_47 : decode cX0_leastOfChoir 47 = .ok (.if_icmp .ge 34, 3) := by decide +kernel
theorem dX0_leastOfChoir_50 : decode cX0_leastOfChoir 50 = .ok (.iload 4, 2) := by decide +kernel
theorem dX0_leastOfChoir_52 : decode cX0_leastOfChoir 52 = .ok (.aload_n 0, 1) := by decide +kernel
theorem dX0_leastOfChoir_53 : decode cX0_leastOfChoir 53 = .ok (.aload_n 1, 1) := by decide +kernel
theorem dX0_leastOfChoir_54 : decode cX0_leastOfChoir 54 = .ok (.iload 5, 2) := by decide +kernel
theorem dX0_leastOfChoir_56 : decode cX0_leastOfChoir 56 = .ok (.invokevirtual 51, 3) := by decide +kernel
theorem dX0_leastOfChoir_59 : decode cX0_leastOfChoir 59 = .ok (.aload_n 0, 1) := by decide +kernel
theorem dX0_leastOfChoir_60 : decode cX0_leastOfChoir 60 = .ok (.getfield 21, 3) := by decide +kernel
theorem dX0_leastOfChoir_63 : decode cX0_leastOfChoir 63 = .ok (.aload_n 0, 1) := by decide +kernel
theorem dX0_leastOfChoir_64 : decode cX0_leastOfChoir 64 = .ok (.getfield 18, 3) := by decide +kernel
theorem dX0_leastOfChoir_67 : decode cX0_leastOfChoir 67 = .ok (.invokevirtual 67, 3) := by decide +kernel
theorem dX0_leastOfChoir_70 : decode cX0_leastOfChoir 70 = .ok (.invokestatic 75, 3) := by decide +kernel
theorem dX0_leastOfChoir_73 : decode cX0_leastOfChoir 73 = .ok (.istore 4, 2) := by decide +kernel
theorem dX0_leastOfChoir_75 : decode cX0_leastOfChoir 75 = .ok (.iinc 5 1, 3) := by decide +kernel
theorem dX0_leastOfChoir_78 : decode cX0_leastOfChoir 78 = .ok (.goto (-37), 3) := by decide +kernel
theorem dX0_leastOfChoir_81 : decode cX0_leastOfChoir 81 = .ok (.iload 4, 2) := by decide +kernel
theorem dX0_leastOfChoir_83 : decode cX0_leastOfChoir 83 = .ok (.ireturn, 1) := by decide +kernel
theorem dX0_finesOfHour_0 : decode cX0_finesOfHour 0 = .ok (.iconst 0, 1) := by decide +kernel
theorem dX0_finesOfHour_1 : decode cX0_finesOfHour 1 = .ok (.istore 4, 2) := by decide +kernel
theorem dX0_finesOfHour_3 : decode cX0_finesOfHour 3 = .ok (.iconst 0, 1) := by decide +kernel
theorem dX0_finesOfHour_4 : decode cX0_finesOfHour 4 = .ok (.istore 5, 2) := by decide +kernel
theorem dX0_finesOfHour_6 : decode cX0_finesOfHour 6 = .ok (.iload 5, 2) := by decide +kernel
theorem dX0_finesOfHour_8 : decode cX0_finesOfHour 8 = .ok (.aload_n 0, 1) := by decide +kernel
theorem dX0_finesOfHour_9 : decode cX0_finesOfHour 9 = .ok (.getfield 36, 3) := by decide +kernel
theorem dX0_finesOfHour_12 : decode cX0_finesOfHour 12 = .ok (.if_icmp .ge 27, 3) := by decide +kernel
theorem dX0_finesOfHour_15 : decode cX0_finesOfHour 15 = .ok (.iload 4, 2) := by decide +kernel
theorem dX0_finesOfHour_17 : decode cX0_finesOfHour 17 = .ok (.aload_n 0, 1) := by decide +kernel
theorem dX0_finesOfHour_18 : decode cX0_finesOfHour 18 = .ok (.iload_n 1, 1) := by decide +kernel
theorem dX0_finesOfHour_19 : decode cX0_finesOfHour 19 = .ok (.aload_n 2, 1) := by decide +kernel
theorem dX0_finesOfHour_20 : decode cX0_finesOfHour 20 = .ok (.aload_n 3, 1) := by decide +kernel
theorem dX0_finesOfHour_21 : decode cX0_finesOfHour 21 = .ok (.iload 5, 2) := by decide +kernel
theorem dX0_finesOfHour_23 : decode cX0_finesOfHour 23 = .ok (.aload_n 2, 1) := by decide +kernel
theorem dX0_finesOfHour_24 : decode cX0_finesOfHour 24 = .ok (.iload 5, 2) := by decide +kernel
theorem dX0_finesOfHour_26 : decode cX0_finesOfHour 26 = .ok (.iaload, 1) := by decide +kernel
theorem dX0_finesOfHour_27 : decode cX0_finesOfHour 27 = .ok (.invokevirtual 63, 3) := by decide +kernel
theorem dX0_finesOfHour_30 : decode cX0_finesOfHour 30 = .ok (.iadd, 1) := by decide +kernel
theorem dX0_finesOfHour_31 : decode cX0_finesOfHour 31 = .ok (.istore 4, 2) := by decide +kernel
theorem dX0_finesOfHour_33 : decode cX0_finesOfHour 33 = .ok (.iinc 5 1, 3) := by decide +kernel
theorem dX0_finesOfHour_36 : decode cX0_finesOfHour 36 = .ok (.goto (-30), 3) := by decide +kernel
theorem dX0_finesOfHour_39 : decode cX0_finesOfHour 39 = .ok (.iload 4, 2) := by decide +kernel
theorem dX0_finesOfHour_41 : decode cX0_finesOfHour 41 = .ok (.ireturn, 1) := by decide +kernel
theorem dX0_fine_0 : decode cX0_fine 0 = .ok (.aload_n 0, 1) := by decide +kernel
theorem dX0_fine_1 : decode cX0_fine 1 = .ok (.iload_n 1, 1) := by decide +kernel
theorem dX0_fine_2 : decode cX0_fine 2 = .ok (.iload 5, 2) := by decide +kernel
theorem dX0_fine_4 : decode cX0_fine 4 = .ok (.invokevirtual 81, 3) := by decide +kernel
theorem dX0_fine_7 : decode cX0_fine 7 = .ok (.ifCond .ne 5, 3) := by decide +kernel
theorem dX0_fine_10 : decode cX0_fine 10 = .ok (.iconst 0, 1) := by decide +kernel
theorem dX0_fine_11 : decode cX0_fine 11 = .ok (.ireturn, 1) := by decide +kernel
theorem dX0_fine_12 : decode cX0_fine 12 = .ok (.iconst 0, 1) := by decide +kernel
theorem dX0_fine_13 : decode cX0_fine 13 = .ok (.istore 6, 2) := by decide +kernel
theorem dX0_fine_15 : decode cX0_fine 15 = .ok (.iconst 0, 1) := by decide +kernel
theorem dX0_fine_16 : decode cX0_fine 16 = .ok (.istore 7, 2) := by decide +kernel
theorem dX0_fine_18 : decode cX0_fine 18 = .ok (.iload 4, 2) := by decide +kernel
theorem dX0_fine_20 : decode cX0_fine 20 = .ok (.aload_n 0, 1) := by decide +kernel
theorem dX0_fine_21 : decode cX0_fine 21 = .ok (.getfield 40, 3) := by decide +kernel
theorem dX0_fine_24 : decode cX0_fine 24 = .ok (.if_icmp .ne 7, 3) := by decide +kernel
theorem dX0_fine_27 : decode cX0_fine 27 = .ok (.iconst 1, 1) := by decide +kernel
theorem dX0_fine_28 : decode cX0_fine 28 = .ok (.goto 4, 3) := by decide +kernel
theorem dX0_fine_31 : decode cX0_fine 31 = .ok (.iconst 0, 1) := by decide +kernel
theorem dX0_fine_32 : decode cX0_fine 32 = .ok (.istore 8, 2) := by decide +kernel
theorem dX0_fine_34 : decode cX0_fine 34 = .ok (.iconst 0, 1) := by decide +kernel
theorem dX0_fine_35 : decode cX0_fine 35 = .ok (.istore 9, 2) := by decide +kernel
theorem dX0_fine_37 : decode cX0_fine 37 = .ok (.iload 9, 2) := by decide +kernel
theorem dX0_fine_39 : decode cX0_fine 39 = .ok (.aload_n 0, 1) := by decide +kernel
theorem dX0_fine_40 : decode cX0_fine 40 = .ok (.getfield 36, 3) := by decide +kernel
theorem dX0_fine_43 : decode cX0_fine 43 = .ok (.if_icmp .ge 91, 3) := by decide +kernel
theorem dX0_fine_46 : decode cX0_fine 46 = .ok (.iload 9, 2) := by decide +kernel
theorem dX0_fine_48 : decode cX0_fine 48 = .ok (.iload 4, 2) := by decide +kernel
theorem dX0_fine_50 : decode cX0_fine 50 = .ok (.if_icmp .eq 78, 3) := by decide +kernel
theorem dX0_fine_53 : decode cX0_fine 53 = .ok (.aload_n 0, 1) := by decide +kernel
theorem dX0_fine_54 : decode cX0_fine 54 = .ok (.getfield 9, 3) := by decide +kernel
theorem dX0_fine_57 : decode cX0_fine 57 = .ok (.aload_n 2, 1) := by decide +kernel
theorem dX0_fine_58 : decode cX0_fine 58 = .ok (.iload 9, 2) := by decide +kernel
theorem dX0_fine_60 : decode cX0_fine 60 = .ok (.iaload, 1) := by decide +kernel
theorem dX0_fine_61 : decode cX0_fine 61 = .ok (.iaload, 1) := by decide +kernel
theorem dX0_fine_62 : decode cX0_fine 62 = .ok (.aload_n 0, 1) := by decide +kernel
theorem dX0_fine_63 : decode cX0_fine 63 = .ok (.getfield 9, 3) := by decide +kernel
theorem dX0_fine_66 : decode cX0_fine 66 = .ok (.iload 5, 2) := by decide +kernel
theorem dX0_fine_68 : decode cX0_fine 68 = .ok (.iaload, 1) := by decide +kernel
theorem dX0_fine_69 : decode cX0_fine 69 = .ok (.if_icmp .ne 59, 3) := by decide +kernel
theorem dX0_fine_72 : decode cX0_fine 72 = .ok (.aload_n 0, 1) := by decide +kernel
theorem dX0_fine_73 : decode cX0_fine 73 = .ok (.iload_n 1, 1) := by decide +kernel
theorem dX0_fine_74 : decode cX0_fine 74 = .ok (.aload_n 2, 1) := by decide +kernel
theorem dX0_fine_75 : decode cX0_fine 75 = .ok (.iload 9, 2) := by decide +kernel
theorem dX0_fine_77 : decode cX0_fine 77 = .ok (.iaload, 1) := by decide +kernel
theorem dX0_fine_78 : decode cX0_fine 78 = .ok (.invokevirtual 81, 3) := by decide +kernel
theorem dX0_fine_81 : decode cX0_fine 81 = .ok (.ifCond .ne 6, 3) := by decide +kernel
theorem dX0_fine_84 : decode cX0_fine 84 = .ok (.goto 44, 3) := by decide +kernel
theorem dX0_fine_87 : decode cX0_fine 87 = .ok (.iinc 6 1, 3) := by decide +kernel
theorem dX0_fine_90 : decode cX0_fine 90 = .ok (.iload 7, 2) := by decide +kernel
theorem dX0_fine_92 : decode cX0_fine 92 = .ok (.iload 9, 2) := by decide +kernel
theorem dX0_fine_94 : decode cX0_fine 94 = .ok (.iload 4, 2) := by decide +kernel
theorem dX0_fine_96 : decode cX0_fine 96 = .ok (.if_icmp .ge 7, 3) := by decide +kernel
theorem dX0_fine_99 : decode cX0_fine 99 = .ok (.iconst 1, 1) := by decide +kernel
theorem dX0_fine_100 : decode cX0_fine 100 = .ok (.goto 4, 3) := by decide +kernel
theorem dX0_fine_103 : decode cX0_fine 103 = .ok (.iconst 0, 1) := by decide +kernel
theorem dX0_fine_104 : decode cX0_fine 104 = .ok (.iadd, 1) := by decide +kernel
theorem dX0_fine_105 : decode cX0_fine 105 = .ok (.istore 7, 2) := by decide +kernel
theorem dX0_fine_107 : decode cX0_fine 107 = .ok (.iload 8, 2) := by decide +kernel
theorem dX0_fine_109 : decode cX0_fine 109 = .ok (.ifCond .ne 12, 3) := by decide +kernel
theorem dX0_fine_112 : decode cX0_fine 112 = .ok (.iload 9, 2) := by decide +kernel
theorem dX0_fine_114 : decode cX0_fine 114 = .ok (.aload_n 0, 1) := by decide +kernel
theorem dX0_fine_115 : decode cX0_fine 115 = .ok (.getfield 40, 3) := by decide +kernel
theorem dX0_fine_118 : decode cX0_fine 118 = .ok (.if_icmp .ne 7, 3) := by decide +kernel
theorem dX0_fine_121 : decode cX0_fine 121 = .ok (.iconst 1, 1) := by decide +kernel
theorem dX0_fine_122 : decode cX0_fine 122 = .ok (.goto 4, 3) := by decide +kernel
theorem dX0_fine_125 : decode cX0_fine 125 = .ok (.iconst 0, 1) := by decide +kernel
theorem dX0_fine_126 : decode cX0_fine 126 = .ok (.istore 8, 2) := by decide +kernel
theorem dX0_fine_128 : decode cX0_fine 128 = .ok (.iinc 9 1, 3) := by decide +kernel
theorem dX0_fine_131 : decode cX0_fine 131 = .ok (.goto (-94), 3) := by decide +kernel
theorem dX0_fine_134 : decode cX0_fine 134 = .ok (.iload_n 1, 1) := by decide +kernel
theorem dX0_fine_135 : decode cX0_fine 135 = .ok (.tableswitch 82 1 5 #[33, 38, 57, 33, 60], 33) := by decide +kernel
theorem dX0_fine_168 : decode cX0_fine 168 = .ok (.iconst 2, 1) := by decide +kernel
theorem dX0_fine_169 : decode cX0_fine 169 = .ok (.iload 6, 2) := by decide +kernel
theorem dX0_fine_171 : decode cX0_fine 171 = .ok (.imul, 1) := by decide +kernel
theorem dX0_fine_172 : decode cX0_fine 172 = .ok (.ireturn, 1) := by decide +kernel
theorem dX0_fine_173 : decode cX0_fine 173 = .ok (.iload 8, 2) := by decide +kernel
theorem dX0_fine_175 : decode cX0_fine 175 = .ok (.ifCond .eq 14, 3) := by decide +kernel
theorem dX0_fine_178 : decode cX0_fine 178 = .ok (.aload_n 0, 1) := by decide +kernel
theorem dX0_fine_179 : decode cX0_fine 179 = .ok (.iload 4, 2) := by decide +kernel
theorem dX0_fine_181 : decode cX0_fine 181 = .ok (.iload 6, 2) := by decide +kernel
theorem dX0_fine_183 : decode cX0_fine 183 = .ok (.invokevirtual 85, 3) := by decide +kernel
theorem dX0_fine_186 : decode cX0_fine 186 = .ok (.goto 5, 3) := by decide +kernel
theorem dX0_fine_189 : decode cX0_fine 189 = .ok (.iload 6, 2) := by decide +kernel
theorem dX0_fine_191 : decode cX0_fine 191 = .ok (.ireturn, 1) := by decide +kernel
theorem dX0_fine_192 : decode cX0_fine 192 = .ok (.iload 7, 2) := by decide +kernel
theorem dX0_fine_194 : decode cX0_fine 194 = .ok (.ireturn, 1) := by decide +kernel
theorem dX0_fine_195 : decode cX0_fine 195 = .ok (.aload_n 0, 1) := by decide +kernel
theorem dX0_fine_196 : decode cX0_fine 196 = .ok (.aload_n 3, 1) := by decide +kernel
theorem dX0_fine_197 : decode cX0_fine 197 = .ok (.iload 4, 2) := by decide +kernel
theorem dX0_fine_199 : decode cX0_fine 199 = .ok (.iload 5, 2) := by decide +kernel
theorem dX0_fine_201 : decode cX0_fine 201 = .ok (.invokevirtual 88, 3) := by decide +kernel
theorem dX0_fine_204 : decode cX0_fine 204 = .ok (.ifCond .eq 10, 3) := by decide +kernel
theorem dX0_fine_207 : decode cX0_fine 207 = .ok (.iload 7, 2) := by decide +kernel
theorem dX0_fine_209 : decode cX0_fine 209 = .ok (.iconst 2, 1) := by decide +kernel
theorem dX0_fine_210 : decode cX0_fine 210 = .ok (.iadd, 1) := by decide +kernel
theorem dX0_fine_211 : decode cX0_fine 211 = .ok (.goto 5, 3) := by decide +kernel
theorem dX0_fine_214 : decode cX0_fine 214 = .ok (.iload 7, 2) := by decide +kernel
theorem dX0_fine_216 : decode cX0_fine 216 = .ok (.ireturn, 1) := by decide +kernel
theorem dX0_fine_217 : decode cX0_fine 217 = .ok (.iload 6, 2) := by decide +kernel
theorem dX0_fine_219 : decode cX0_fine 219 = .ok (.ireturn, 1) := by decide +kernel
theorem dX0_added_0 : decode cX0_added 0 = .ok (.aload_n 1, 1) := by decide +kernel
theorem dX0_added_1 : decode cX0_added 1 = .ok (.iload_n 3, 1) := by decide +kernel
theorem dX0_added_2 : decode cX0_added 2 = .ok (.invokevirtual 51, 3) := by decide +kernel
theorem dX0_added_5 : decode cX0_added 5 = .ok (.istore 6, 2) := by decide +kernel
theorem dX0_added_7 : decode cX0_added 7 = .ok (.getstatic 92, 3) := by decide +kernel
theorem dX0_added_10 : decode cX0_added 10 = .ok (.iload 6, 2) := by decide +kernel
theorem dX0_added_12 : decode cX0_added 12 = .ok (.iaload, 1) := by decide +kernel
theorem dX0_added_13 : decode cX0_added 13 = .ok (.aload_n 0, 1) := by decide +kernel
theorem dX0_added_14 : decode cX0_added 14 = .ok (.iload 6, 2) := by decide +kernel
theorem dX0_added_16 : decode cX0_added 16 = .ok (.aload_n 2, 1) := by decide +kernel
theorem dX0_added_17 : decode cX0_added 17 = .ok (.iload_n 3, 1) := by decide +kernel
theorem dX0_added_18 : decode cX0_added 18 = .ok (.aaload, 1) := by decide +kernel
theorem dX0_added_19 : decode cX0_added 19 = .ok (.iload 4, 2) := by decide +kernel
theorem dX0_added_21 : decode cX0_added 21 = .ok (.iload 5, 2) := by decide +kernel
theorem dX0_added_23 : decode cX0_added 23 = .ok (.invokevirtual 95, 3) := by decide +kernel
theorem dX0_added_26 : decode cX0_added 26 = .ok (.imul, 1) := by decide +kernel
theorem dX0_added_27 : decode cX0_added 27 = .ok (.istore 7, 2) := by decide +kernel
theorem dX0_added_29 : decode cX0_added 29 = .ok (.iload 6, 2) := by decide +kernel
theorem dX0_added_31 : decode cX0_added 31 = .ok (.iconst 5, 1) := by decide +kernel
theorem dX0_added_32 : decode cX0_added 32 = .ok (.if_icmp .ne 23, 3) := by decide +kernel
theorem dX0_added_35 : decode cX0_added 35 = .ok (.aload_n 0, 1) := by decide +kernel
theorem dX0_added_36 : decode cX0_added 36 = .ok (.aload_n 0, 1) := by decide +kernel
theorem dX0_added_37 : decode cX0_added 37 = .ok (.aload_n 2, 1) := by decide +kernel
theorem dX0_added_38 : decode cX0_added 38 = .ok (.iload_n 3, 1) := by decide +kernel
theorem dX0_added_39 : decode cX0_added 39 = .ok (.invokevirtual 59, 3) := by decide +kernel
theorem dX0_added_42 : decode cX0_added 42 = .ok (.iload 4, 2) := by decide +kernel
theorem dX0_added_44 : decode cX0_added 44 = .ok (.iload 5, 2) := by decide +kernel
theorem dX0_added_46 : decode cX0_added 46 = .ok (.invokevirtual 88, 3) := by decide +kernel
theorem dX0_added_49 : decode cX0_added 49 = .ok (.ifCond .eq 6, 3) := by decide +kernel
theorem dX0_added_52 : decode cX0_added 52 = .ok (.iinc 7 2, 3) := by decide +kernel
theorem dX0_added_55 : decode cX0_added 55 = .ok (.aload_n 1, 1) := by decide +kernel
theorem dX0_added_56 : decode cX0_added 56 = .ok (.iload_n 3, 1) := by decide +kernel
theorem dX0_added_57 : decode cX0_added 57 = .ok (.iconst 1, 1) := by decide +kernel
theorem dX0_added_58 : decode cX0_added 58 = .ok (.iadd, 1) := by decide +kernel
theorem dX0_added_59 : decode cX0_added 59 = .ok (.invokevirtual 51, 3) := by decide +kernel
theorem dX0_added_62 : decode cX0_added 62 = .ok (.iconst 5, 1) := by decide +kernel
theorem dX0_added_63 : decode cX0_added 63 = .ok (.if_icmp .ne 24, 3) := by decide +kernel
theorem dX0_added_66 : decode cX0_added 66 = .ok (.iload 7, 2) := by decide +kernel
theorem dX0_added_68 : decode cX0_added 68 = .ok (.aload_n 0, 1) := by decide +kernel
theorem dX0_added_69 : decode cX0_added 69 = .ok (.aload_n 2, 1) := by decide +kernel
theorem dX0_added_70 : decode cX0_added 70 = .ok (.iload_n 3, 1) := by decide +kernel
theorem dX0_added_71 : decode cX0_added 71 = .ok (.aaload, 1) := by decide +kernel
theorem dX0_added_72 : decode cX0_added 72 = .ok (.aload_n 2, 1) := by decide +kernel
theorem dX0_added_73 : decode cX0_added 73 = .ok (.iload_n 3, 1) := by decide +kernel
theorem dX0_added_74 : decode cX0_added 74 = .ok (.iconst 1, 1) := by decide +kernel
theorem dX0_added_75 : decode cX0_added 75 = .ok (.iadd, 1) := by decide +kernel
theorem dX0_added_76 : decode cX0_added 76 = .ok (.aaload, 1) := by decide +kernel
theorem dX0_added_77 : decode cX0_added 77 = .ok (.iload 4, 2) := by decide +kernel
theorem dX0_added_79 : decode cX0_added 79 = .ok (.iload 5, 2) := by decide +kernel
theorem dX0_added_81 : decode cX0_added 81 = .ok (.invokevirtual 99, 3) := by decide +kernel
theorem dX0_added_84 : decode cX0_added 84 = .ok (.iadd, 1) := by decide +kernel
theorem dX0_added_85 : decode cX0_added 85 = .ok (.istore 7, 2) := by decide +kernel
theorem dX0_added_87 : decode cX0_added 87 = .ok (.iload 7, 2) := by decide +kernel
theorem dX0_added_89 : decode cX0_added 89 = .ok (.ireturn, 1) := by decide +kernel
theorem dX0_othersWith_0 : decode cX0_othersWith 0 = .ok (.iconst 0, 1) := by decide +kernel
theorem dX0_othersWith_1 : decode cX0_othersWith 1 = .ok (.istore 5, 2) := by decide +kernel
theorem dX0_othersWith_3 : decode cX0_othersWith 3 = .ok (.iconst 0, 1) := by decide +kernel
theorem dX0_othersWith_4 : decode cX0_othersWith 4 = .ok (.istore 6, 2) := by decide +kernel
theorem dX0_othersWith_6 : decode cX0_othersWith 6 = .ok (.iload 6, 2) := by decide +kernel
theorem dX0_othersWith_8 : decode cX0_othersWith 8 = .ok (.aload_n 0, 1) := by decide +kernel
theorem dX0_othersWith_9 : decode cX0_othersWith 9 = .ok (.getfield 36, 3) := by decide +kernel
theorem dX0_othersWith_12 : decode cX0_othersWith 12 = .ok (.if_icmp .ge 59, 3) := by decide +kernel
theorem dX0_othersWith_15 : decode cX0_othersWith 15 = .ok (.aload_n 0, 1) := by decide +kernel
theorem dX0_othersWith_16 : decode cX0_othersWith 16 = .ok (.iload_n 1, 1) := by decide +kernel
theorem dX0_othersWith_17 : decode cX0_othersWith 17 = .ok (.iload 4, 2) := by decide +kernel
theorem dX0_othersWith_19 : decode cX0_othersWith 19 = .ok (.invokevirtual 81, 3) := by decide +kernel
theorem dX0_othersWith_22 : decode cX0_othersWith 22 = .ok (.ifCond .eq 49, 3) := by decide +kernel
theorem dX0_othersWith_25 : decode cX0_othersWith 25 = .ok (.iload 6, 2) := by decide +kernel
theorem dX0_othersWith_27 : decode cX0_othersWith 27 = .ok (.iload_n 3, 1) := by decide +kernel
theorem dX0_othersWith_28 : decode cX0_othersWith 28 = .ok (.if_icmp .eq 37, 3) := by decide +kernel
theorem dX0_othersWith_31 : decode cX0_othersWith 31 = .ok (.aload_n 0, 1) := by decide +kernel
theorem dX0_othersWith_32 : decode cX0_othersWith 32 = .ok (.getfield 9, 3) := by decide +kernel
theorem dX0_othersWith_35 : decode cX0_othersWith 35 = .ok (.aload_n 2, 1) := by decide +kernel
theorem dX0_othersWith_36 : decode cX0_othersWith 36 = .ok (.iload 6, 2) := by decide +kernel
theorem dX0_othersWith_38 : decode cX0_othersWith 38 = .ok (.iaload, 1) := by decide +kernel
theorem dX0_othersWith_39 : decode cX0_othersWith 39 = .ok (.iaload, 1) := by decide +kernel
theorem dX0_othersWith_40 : decode cX0_othersWith 40 = .ok (.aload_n 0, 1) := by decide +kernel
theorem dX0_othersWith_41 : decode cX0_othersWith 41 = .ok (.getfield 9, 3) := by decide +kernel
theorem dX0_othersWith_44 : decode cX0_othersWith 44 = .ok (.iload 4, 2) := by decide +kernel
theorem dX0_othersWith_46 : decode cX0_othersWith 46 = .ok (.iaload, 1) := by decide +kernel
theorem dX0_othersWith_47 : decode cX0_othersWith 47 = .ok (.if_icmp .ne 18, 3) := by decide +kernel
theorem dX0_othersWith_50 : decode cX0_othersWith 50 = .ok (.aload_n 0, 1) := by decide +kernel
theorem dX0_othersWith_51 : decode cX0_othersWith 51 = .ok (.iload_n 1, 1) := by decide +kernel
theorem dX0_othersWith_52 : decode cX0_othersWith 52 = .ok (.aload_n 2, 1) := by decide +kernel
theorem dX0_othersWith_53 : decode cX0_othersWith 53 = .ok (.iload 6, 2) := by decide +kernel
theorem dX0_othersWith_55 : decode cX0_othersWith 55 = .ok (.iaload, 1) := by decide +kernel
theorem dX0_othersWith_56 : decode cX0_othersWith 56 = .ok (.invokevirtual 81, 3) := by decide +kernel
theorem dX0_othersWith_59 : decode cX0_othersWith 59 = .ok (.ifCond .eq 6, 3) := by decide +kernel
theorem dX0_othersWith_62 : decode cX0_othersWith 62 = .ok (.iinc 5 1, 3) := by decide +kernel
theorem dX0_othersWith_65 : decode cX0_othersWith 65 = .ok (.iinc 6 1, 3) := by decide +kernel
theorem dX0_othersWith_68 : decode cX0_othersWith 68 = .ok (.goto (-62), 3) := by decide +kernel
theorem dX0_othersWith_71 : decode cX0_othersWith 71 = .ok (.iload 5, 2) := by decide +kernel
theorem dX0_othersWith_73 : decode cX0_othersWith 73 = .ok (.ireturn, 1) := by decide +kernel
theorem dX0_addedToCopies_0 : decode cX0_addedToCopies 0 = .ok (.iconst 0, 1) := by decide +kernel
theorem dX0_addedToCopies_1 : decode cX0_addedToCopies 1 = .ok (.istore 5, 2) := by decide +kernel
theorem dX0_addedToCopies_3 : decode cX0_addedToCopies 3 = .ok (.iconst 0, 1) := by decide +kernel
theorem dX0_addedToCopies_4 : decode cX0_addedToCopies 4 = .ok (.istore 6, 2) := by decide +kernel
theorem dX0_addedToCopies_6 : decode cX0_addedToCopies 6 = .ok (.iload 6, 2) := by decide +kernel
theorem dX0_addedToCopies_8 : decode cX0_addedToCopies 8 = .ok (.aload_n 0, 1) := by decide +kernel
theorem dX0_addedToCopies_9 : decode cX0_addedToCopies 9 = .ok (.getfield 36, 3) := by decide +kernel
theorem dX0_addedToCopies_12 : decode cX0_addedToCopies 12 = .ok (.if_icmp .ge 49, 3) := by decide +kernel
theorem dX0_addedToCopies_15 : decode cX0_addedToCopies 15 = .ok (.iload 6, 2) := by decide +kernel
theorem dX0_addedToCopies_17 : decode cX0_addedToCopies 17 = .ok (.iload_n 3, 1) := by decide +kernel
theorem dX0_addedToCopies_18 : decode cX0_addedToCopies 18 = .ok (.if_icmp .eq 37, 3) := by decide +kernel
theorem dX0_addedToCopies_21 : decode cX0_addedToCopies 21 = .ok (.aload_n 0, 1) := by decide +kernel
theorem dX0_addedToCopies_22 : decode cX0_addedToCopies 22 = .ok (.getfield 9, 3) := by decide +kernel
theorem dX0_addedToCopies_25 : decode cX0_addedToCopies 25 = .ok (.aload_n 2, 1) := by decide +kernel
theorem dX0_addedToCopies_26 : decode cX0_addedToCopies 26 = .ok (.iload 6, 2) := by decide +kernel
theorem dX0_addedToCopies_28 : decode cX0_addedToCopies 28 = .ok (.iaload, 1) := by decide +kernel
theorem dX0_addedToCopies_29 : decode cX0_addedToCopies 29 = .ok (.iaload, 1) := by decide +kernel
theorem dX0_addedToCopies_30 : decode cX0_addedToCopies 30 = .ok (.aload_n 0, 1) := by decide +kernel
theorem dX0_addedToCopies_31 : decode cX0_addedToCopies 31 = .ok (.getfield 9, 3) := by decide +kernel
theorem dX0_addedToCopies_34 : decode cX0_addedToCopies 34 = .ok (.iload 4, 2) := by decide +kernel
theorem dX0_addedToCopies_36 : decode cX0_addedToCopies 36 = .ok (.iaload, 1) := by decide +kernel
theorem dX0_addedToCopies_37 : decode cX0_addedToCopies 37 = .ok (.if_icmp .ne 18, 3) := by decide +kernel
theorem dX0_addedToCopies_40 : decode cX0_addedToCopies 40 = .ok (.aload_n 0, 1) := by decide +kernel
theorem dX0_addedToCopies_41 : decode cX0_addedToCopies 41 = .ok (.aload_n 1, 1) := by decide +kernel
theorem dX0_addedToCopies_42 : decode cX0_addedToCopies 42 = .ok (.iload 6, 2) := by decide +kernel
theorem dX0_addedToCopies_44 : decode cX0_addedToCopies 44 = .ok (.iload 4, 2) := by decide +kernel
theorem dX0_addedToCopies_46 : decode cX0_addedToCopies 46 = .ok (.invokevirtual 88, 3) := by decide +kernel
theorem dX0_addedToCopies_49 : decode cX0_addedToCopies 49 = .ok (.ifCond .ne 6, 3) := by decide +kernel
theorem dX0_addedToCopies_52 : decode cX0_addedToCopies 52 = .ok (.iinc 5 2, 3) := by decide +kernel
theorem dX0_addedToCopies_55 : decode cX0_addedToCopies 55 = .ok (.iinc 6 1, 3) := by decide +kernel
theorem dX0_addedToCopies_58 : decode cX0_addedToCopies 58 = .ok (.goto (-52), 3) := by decide +kernel
theorem dX0_addedToCopies_61 : decode cX0_addedToCopies 61 = .ok (.iload 5, 2) := by decide +kernel
theorem dX0_addedToCopies_63 : decode cX0_addedToCopies 63 = .ok (.ireturn, 1) := by decide +kernel
theorem dX0_isFined_0 : decode cX0_isFined 0 = .ok (.iload_n 2, 1) := by decide +kernel
theorem dX0_isFined_1 : decode cX0_isFined 1 = .ok (.ifCond .lt 22, 3) := by decide +kernel
theorem dX0_isFined_4 : decode cX0_isFined 4 = .ok (.iload_n 2, 1) := by decide +kernel
theorem dX0_isFined_5 : decode cX0_isFined 5 = .ok (.bipush 9, 2) := by decide +kernel
theorem dX0_isFined_7 : decode cX0_isFined 7 = .ok (.if_icmp .ge 16, 3) := by decide +kernel
theorem dX0_isFined_10 : decode cX0_isFined 10 = .ok (.iload_n 2, 1) := by decide +kernel
theorem dX0_isFined_11 : decode cX0_isFined 11 = .ok (.ifCond .gt 8, 3) := by decide +kernel
theorem dX0_isFined_14 : decode cX0_isFined 14 = .ok (.iload_n 1, 1) := by decide +kernel
theorem dX0_isFined_15 : decode cX0_isFined 15 = .ok (.iconst 4, 1) := by decide +kernel
theorem dX0_isFined_16 : decode cX0_isFined 16 = .ok (.if_icmp .eq 7, 3) := by decide +kernel
theorem dX0_isFined_19 : decode cX0_isFined 19 = .ok (.iconst 1, 1) := by decide +kernel
theorem dX0_isFined_20 : decode cX0_isFined 20 = .ok (.goto 4, 3) := by decide +kernel
theorem dX0_isFined_23 : decode cX0_isFined 23 = .ok (.iconst 0, 1) := by decide +kernel
theorem dX0_isFined_24 : decode cX0_isFined 24 = .ok (.ireturn, 1) := by decide +kernel
theorem dX0_boughtBy_0 : decode cX0_boughtBy 0 = .ok (.iload_n 1, 1) := by decide +kernel
theorem dX0_boughtBy_1 : decode cX0_boughtBy 1 = .ok (.aload_n 0, 1) := by decide +kernel
theorem dX0_boughtBy_2 : decode cX0_boughtBy 2 = .ok (.getfield 40, 3) := by decide +kernel
theorem dX0_boughtBy_5 : decode cX0_boughtBy 5 = .ok (.if_icmp .ne 11, 3) := by decide +kernel
theorem dX0_boughtBy_8 : decode cX0_boughtBy 8 = .ok (.iload_n 2, 1) := by decide +kernel
theorem dX0_boughtBy_9 : decode cX0_boughtBy 9 = .ok (.iconst 1, 1) := by decide +kernel
theorem dX0_boughtBy_10 : decode cX0_boughtBy 10 = .ok (.iadd, 1) := by decide +kernel
theorem dX0_boughtBy_11 : decode cX0_boughtBy 11 = .ok (.iload_n 2, 1) := by decide +kernel
theorem dX0_boughtBy_12 : decode cX0_boughtBy 12 = .ok (.imul, 1) := by decide +kernel
theorem dX0_boughtBy_13 : decode cX0_boughtBy 13 = .ok (.goto 4, 3) := by decide +kernel
theorem dX0_boughtBy_16 : decode cX0_boughtBy 16 = .ok (.iconst 0, 1) := by decide +kernel
theorem dX0_boughtBy_17 : decode cX0_boughtBy 17 = .ok (.ireturn, 1) := by decide +kernel
theorem dX0_wasDone_0 : decode cX0_wasDone 0 = .ok (.iconst 0, 1) := by decide +kernel
theorem dX0_wasDone_1 : decode cX0_wasDone 1 = .ok (.istore 4, 2) := by decide +kernel
theorem dX0_wasDone_3 : decode cX0_wasDone 3 = .ok (.iload 4, 2) := by decide +kernel
theorem dX0_wasDone_5 : decode cX0_wasDone 5 = .ok (.aload_n 0, 1) := by decide +kernel
theorem dX0_wasDone_6 : decode cX0_wasDone 6 = .ok (.getfield 36, 3) := by decide +kernel
theorem dX0_wasDone_9 : decode cX0_wasDone 9 = .ok (.if_icmp .ge 35, 3) := by decide +kernel
theorem dX0_wasDone_12 : decode cX0_wasDone 12 = .ok (.iload 4, 2) := by decide +kernel
theorem dX0_wasDone_14 : decode cX0_wasDone 14 = .ok (.iload_n 2, 1) := by decide +kernel
theorem dX0_wasDone_15 : decode cX0_wasDone 15 = .ok (.if_icmp .eq 23, 3) := by decide +kernel
theorem dX0_wasDone_18 : decode cX0_wasDone 18 = .ok (.aload_n 0, 1) := by decide +kernel
theorem dX0_wasDone_19 : decode cX0_wasDone 19 = .ok (.getfield 9, 3) := by decide +kernel
theorem dX0_wasDone_22 : decode cX0_wasDone 22 = .ok (.aload_n 1, 1) := by decide +kernel
theorem dX0_wasDone_23 : decode cX0_wasDone 23 = .ok (.iload 4, 2) := by decide +kernel
theorem dX0_wasDone_25 : decode cX0_wasDone 25 = .ok (.iaload, 1) := by decide +kernel
theorem dX0_wasDone_26 : decode cX0_wasDone 26 = .ok (.iaload, 1) := by decide +kernel
theorem dX0_wasDone_27 : decode cX0_wasDone 27 = .ok (.aload_n 0, 1) := by decide +kernel
theorem dX0_wasDone_28 : decode cX0_wasDone 28 = .ok (.getfield 9, 3) := by decide +kernel
theorem dX0_wasDone_31 : decode cX0_wasDone 31 = .ok (.iload_n 3, 1) := by decide +kernel
theorem dX0_wasDone_32 : decode cX0_wasDone 32 = .ok (.iaload, 1) := by decide +kernel
theorem dX0_wasDone_33 : decode cX0_wasDone 33 = .ok (.if_icmp .ne 5, 3) := by decide +kernel
theorem dX0_wasDone_36 : decode cX0_wasDone 36 = .ok (.iconst 1, 1) := by decide +kernel
theorem dX0_wasDone_37 : decode cX0_wasDone 37 = .ok (.ireturn, 1) := by decide +kernel
theorem dX0_wasDone_38 : decode cX0_wasDone 38 = .ok (.iinc 4 1, 3) := by decide +kernel
theorem dX0_wasDone_41 : decode cX0_wasDone 41 = .ok (.goto (-38), 3) := by decide +kernel
theorem dX0_wasDone_44 : decode cX0_wasDone 44 = .ok (.iconst 0, 1) := by decide +kernel
theorem dX0_wasDone_45 : decode cX0_wasDone 45 = .ok (.ireturn, 1) := by decide +kernel
theorem dX1_init_0 : decode cX1_init 0 = .ok (.aload_n 0, 1) := by decide +kernel
theorem dX1_init_1 : decode cX1_init 1 = .ok (.invokespecial 3, 3) := by decide +kernel
theorem dX1_init_4 : decode cX1_init 4 = .ok (.aload_n 0, 1) := by decide +kernel
theorem dX1_init_5 : decode cX1_init 5 = .ok (.iconst 5, 1) := by decide +kernel
theorem dX1_init_6 : decode cX1_init 6 = .ok (.iconst 5, 1) := by decide +kernel
theorem dX1_init_7 : decode cX1_init 7 = .ok (.multianewarray 9 2, 4) := by decide +kernel
theorem dX1_init_11 : decode cX1_init 11 = .ok (.putfield 11, 3) := by decide +kernel
theorem dX1_init_14 : decode cX1_init 14 = .ok (.aload_n 0, 1) := by decide +kernel
theorem dX1_init_15 : decode cX1_init 15 = .ok (.iconst 5, 1) := by decide +kernel
theorem dX1_init_16 : decode cX1_init 16 = .ok (.iconst 5, 1) := by decide +kernel
theorem dX1_init_17 : decode cX1_init 17 = .ok (.multianewarray 9 2, 4) := by decide +kernel
theorem dX1_init_21 : decode cX1_init 21 = .ok (.putfield 16, 3) := by decide +kernel
theorem dX1_init_24 : decode cX1_init 24 = .ok (.aload_n 0, 1) := by decide +kernel
theorem dX1_init_25 : decode cX1_init 25 = .ok (.iconst 5, 1) := by decide +kernel
theorem dX1_init_26 : decode cX1_init 26 = .ok (.iconst 5, 1) := by decide +kernel
theorem dX1_init_27 : decode cX1_init 27 = .ok (.multianewarray 9 2, 4) := by decide +kernel
theorem dX1_init_31 : decode cX1_init 31 = .ok (.putfield 19, 3) := by decide +kernel
theorem dX1_init_34 : decode cX1_init 34 = .ok (.aload_n 0, 1) := by decide +kernel
theorem dX1_init_35 : decode cX1_init 35 = .ok (.iconst (-1), 1) := by decide +kernel
theorem dX1_init_36 : decode cX1_init 36 = .ok (.putfield 22, 3) := by decide +kernel
theorem dX1_init_39 : decode cX1_init 39 = .ok (.aload_n 0, 1) := by decide +kernel
theorem dX1_init_40 : decode cX1_init 40 = .ok (.iconst 5, 1) := by decide +kernel
theorem dX1_init_41 : decode cX1_init 41 = .ok (.sipush 600, 3) := by decide +kernel
theorem dX1_init_44 : decode cX1_init 44 = .ok (.multianewarray 9 2, 4) := by decide +kernel
theorem dX1_init_48 : decode cX1_init 48 = .ok (.putfield 26, 3) := by decide +kernel
theorem dX1_init_51 : decode cX1_init 51 = .ok (.aload_n 0, 1) := by decide +kernel
theorem dX1_init_52 : decode cX1_init 52 = .ok (.iconst 5, 1) := by decide +kernel
theorem dX1_init_53 : decode cX1_init 53 = .ok (.newarray .int, 2) := by decide +kernel
theorem dX1_init_55 : decode cX1_init 55 = .ok (.putfield 29, 3) := by decide +kernel
theorem dX1_init_58 : decode cX1_init 58 = .ok (.aload_n 0, 1) := by decide +kernel
theorem dX1_init_59 : decode cX1_init 59 = .ok (.iconst 5, 1) := by decide +kernel
theorem dX1_init_60 : decode cX1_init 60 = .ok (.newarray .int, 2) := by decide +kernel
theorem dX1_init_62 : decode cX1_init 62 = .ok (.putfield 33, 3) := by decide +kernel
theorem dX1_init_65 : decode cX1_init 65 = .ok (.aload_n 0, 1) := by decide +kernel
theorem dX1_init_66 : decode cX1_init 66 = .ok (.iconst 5, 1) := by decide +kernel
theorem dX1_init_67 : decode cX1_init 67 = .ok (.newarray .int, 2) := by decide +kernel
theorem dX1_init_69 : decode cX1_init 69 = .ok (.putfield 36, 3) := by decide +kernel
theorem dX1_init_72 : decode cX1_init 72 = .ok (.aload_n 0, 1) := by decide +kernel
theorem dX1_init_73 : decode cX1_init 73 = .ok (.iconst 5, 1) := by decide +kernel
theorem dX1_init_74 : decode cX1_init 74 = .ok (.newarray .int, 2) := by decide +kernel
theorem dX1_init_76 : decode cX1_init 76 = .ok (.putfield 39, 3) := by decide +kernel
theorem dX1_init_79 : decode cX1_init 79 = .ok (.aload_n 0, 1) := by decide +kernel
theorem dX1_init_80 : decode cX1_init 80 = .ok (.iconst 5, 1) := by decide +kernel
theorem dX1_init_81 : decode cX1_init 81 = .ok (.newarray .int, 2) := by decide +kernel
theorem dX1_init_83 : decode cX1_init 83 = .ok (.putfield 42, 3) := by decide +kernel
theorem dX1_init_86 : decode cX1_init 86 = .ok (.aload_n 0, 1) := by decide +kernel
theorem dX1_init_87 : decode cX1_init 87 = .ok (.iconst 5, 1) := by decide +kernel
theorem dX1_init_88 : decode cX1_init 88 = .ok (.bipush 50, 2) := by decide +kernel
theorem dX1_init_90 : decode cX1_init 90 = .ok (.multianewarray 9 2, 4) := by decide +kernel
theorem dX1_init_94 : decode cX1_init 94 = .ok (.putfield 45, 3) := by decide +kernel
theorem dX1_init_97 : decode cX1_init 97 = .ok (.return_, 1) := by decide +kernel
theorem dX1_findLeast_0 : decode cX1_findLeast 0 = .ok (.aload_n 0, 1) := by decide +kernel
theorem dX1_findLeast_1 : decode cX1_findLeast 1 = .ok (.getfield 22, 3) := by decide +kernel
theorem dX1_findLeast_4 : decode cX1_findLeast 4 = .ok (.iload_n 3, 1) := by decide +kernel
theorem dX1_findLeast_5 : decode cX1_findLeast 5 = .ok (.if_icmp .ne 8, 3) := by decide +kernel
theorem dX1_findLeast_8 : decode cX1_findLeast 8 = .ok (.aload_n 0, 1) := by decide +kernel
theorem dX1_findLeast_9 : decode cX1_findLeast 9 = .ok (.getfield 48, 3) := by decide +kernel
theorem dX1_findLeast_12 : decode cX1_findLeast 12 = .ok (.ireturn, 1) := by decide +kernel
theorem dX1_findLeast_13 : decode cX1_findLeast 13 = .ok (.aload_n 0, 1) := by decide +kernel
theorem dX1_findLeast_14 : decode cX1_findLeast 14 = .ok (.iload_n 3, 1) := by decide +kernel
theorem dX1_findLeast_15 : decode cX1_findLeast 15 = .ok (.putfield 22, 3) := by decide +kernel
theorem dX1_findLeast_18 : decode cX1_findLeast 18 = .ok (.aload_n 0, 1) := by decide +kernel
theorem dX1_findLeast_19 : decode cX1_findLeast 19 = .ok (.aload_n 1, 1) := by decide +kernel
theorem dX1_findLeast_20 : decode cX1_findLeast 20 = .ok (.aload_n 1, 1) := by decide +kernel
theorem dX1_findLeast_21 : decode cX1_findLeast 21 = .ok (.getfield 52, 3) := by decide +kernel
theorem dX1_findLeast_24 : decode cX1_findLeast 24 = .ok (.invokevirtual 57, 3) := by decide +kernel
theorem dX1_findLeast_27 : decode cX1_findLeast 27 = .ok (.aload_n 0, 1) := by decide +kernel
theorem dX1_findLeast_28 : decode cX1_findLeast 28 = .ok (.aload_n 0, 1) := by decide +kernel
theorem dX1_findLeast_29 : decode cX1_findLeast 29 = .ok (.aload_n 1, 1) := by decide +kernel
theorem dX1_findLeast_30 : decode cX1_findLeast 30 = .ok (.invokevirtual 61, 3) := by decide +kernel
theorem dX1_findLeast_33 : decode cX1_findLeast 33 = .ok (.ldc2_w 65, 3) := by decide +kernel
theorem dX1_findLeast_36 : decode cX1_findLeast 36 = .ok (.lcmp, 1) := by decide +kernel
theorem dX1_findLeast_37 : decode cX1_findLeast 37 = .ok (.ifCond .gt 7, 3) := by decide +kernel
theorem dX1_findLeast_40 : decode cX1_findLeast 40 = .ok (.iconst 1, 1) := by decide +kernel
theorem dX1_findLeast_41 : decode cX1_findLeast 41 = .ok (.goto 4, 3) := by decide +kernel
theorem dX1_findLeast_44 : decode cX1_findLeast 44 = .ok (.iconst 0, 1) := by decide +kernel
theorem dX1_findLeast_45 : decode cX1_findLeast 45 = .ok (.putfield 48, 3) := by decide +kernel
theorem dX1_findLeast_48 : decode cX1_findLeast 48 = .ok (.aload_n 0, 1) := by decide +kernel
theorem dX1_findLeast_49 : decode cX1_findLeast 49 = .ok (.getfield 48, 3) := by decide +kernel
theorem dX1_findLeast_52 : decode cX1_findLeast 52 = .ok (.ifCond .eq 30, 3) := by decide +kernel
theorem dX1_findLeast_55 : decode cX1_findLeast 55 = .ok (.aload_n 0, 1) := by decide +kernel
theorem dX1_findLeast_56 : decode cX1_findLeast 56 = .ok (.aload_n 0, 1) := by decide +kernel
theorem dX1_findLeast_57 : decode cX1_findLeast 57 = .ok (.aload_n 1, 1) := by decide +kernel
theorem dX1_findLeast_58 : decode cX1_findLeast 58 = .ok (.aload_n 2, 1) := by decide +kernel
theorem dX1_findLeast_59 : decode cX1_findLeast 59 = .ok (.aload_n 1, 1) := by decide +kernel
theorem dX1_findLeast_60 : decode cX1_findLeast 60 = .ok (.getfield 52, 3) := by decide +kernel
theorem dX1_findLeast_63 : decode cX1_findLeast 63 = .ok (.ldc 67, 2) := by decide +kernel
theorem dX1_findLeast_65 : decode cX1_findLeast 65 = .ok (.invokevirtual 68, 3) := by decide +kernel
theorem dX1_findLeast_68 : decode cX1_findLeast 68 = .ok (.putfield 72, 3) := by decide +kernel
theorem dX1_findLeast_71 : decode cX1_findLeast 71 = .ok (.aload_n 0, 1) := by decide +kernel
theorem dX1_findLeast_72 : decode cX1_findLeast 72 = .ok (.getfield 19, 3) := by decide +kernel
theorem dX1_findLeast_75 : decode cX1_findLeast 75 = .ok (.aload_n 0, 1) := by decide +kernel
theorem dX1_findLeast_76 : decode cX1_findLeast 76 = .ok (.getfield 16, 3) := by decide +kernel
theorem dX1_findLeast_79 : decode cX1_findLeast 79 = .ok (.invokestatic 75, 3) := by decide +kernel
theorem dX1_findLeast_82 : decode cX1_findLeast 82 = .ok (.aload_n 0, 1) := by decide +kernel
theorem dX1_findLeast_83 : decode cX1_findLeast 83 = .ok (.getfield 48, 3) := by decide +kernel
theorem dX1_findLeast_86 : decode cX1_findLeast 86 = .ok (.ireturn, 1) := by decide +kernel
theorem dX1_fewestHours_0 : decode cX1_fewestHours 0 = .ok (.iconst 1, 1) := by decide +kernel
theorem dX1_fewestHours_1 : decode cX1_fewestHours 1 = .ok (.istore_n 3, 1) := by decide +kernel
theorem dX1_fewestHours_2 : decode cX1_fewestHours 2 = .ok (.iload_n 3, 1) := by decide +kernel
theorem dX1_fewestHours_3 : decode cX1_fewestHours 3 = .ok (.iconst 5, 1) := by decide +kernel
theorem dX1_fewestHours_4 : decode cX1_fewestHours 4 = .ok (.if_icmp .gt 43, 3) := by decide +kernel
theorem dX1_fewestHours_7 : decode cX1_fewestHours 7 = .ok (.aload_n 0, 1) := by decide +kernel
theorem dX1_fewestHours_8 : decode cX1_fewestHours 8 = .ok (.aload_n 1, 1) := by decide +kernel
theorem dX1_fewestHours_9 : decode cX1_fewestHours 9 = .ok (.iload_n 3, 1) := by decide +kernel
theorem dX1_fewestHours_10 : decode cX1_fewestHours 10 = .ok (.invokevirtual 57, 3) := by decide +kernel
theorem dX1_fewestHours_13 : decode cX1_fewestHours 13 = .ok (.aload_n 0, 1) := by decide +kernel
theorem dX1_fewestHours_14 : decode cX1_fewestHours 14 = .ok (.aload_n 1, 1) := by decide +kernel
theorem dX1_fewestHours_15 : decode cX1_fewestHours 15 = .ok (.invokevirtual 61, 3) := by decide +kernel
theorem dX1_fewestHours_18 : decode cX1_fewestHours 18 = .ok (.ldc2_w 65, 3) := by decide +kernel
theorem dX1_fewestHours_21 : decode cX1_fewestHours 21 = .ok (.lcmp, 1) := by decide +kernel
theorem dX1_fewestHours_22 : decode cX1_fewestHours 22 = .ok (.ifCond .le 6, 3) := by decide +kernel
theorem dX1_fewestHours_25 : decode cX1_fewestHours 25 = .ok (.bipush (-3), 2) := by decide +kernel
theorem dX1_fewestHours_27 : decode cX1_fewestHours 27 = .ok (.ireturn, 1) := by decide +kernel
theorem dX1_fewestHours_28 : decode cX1_fewestHours 28 = .ok (.aload_n 0, 1) := by decide +kernel
theorem dX1_fewestHours_29 : decode cX1_fewestHours 29 = .ok (.aload_n 1, 1) := by decide +kernel
theorem dX1_fewestHours_30 : decode cX1_fewestHours 30 = .ok (.aload_n 2, 1) := by decide +kernel
theorem dX1_fewestHours_31 : decode cX1_fewestHours 31 = .ok (.iload_n 3, 1) := by decide +kernel
theorem dX1_fewestHours_32 : decode cX1_fewestHours 32 = .ok (.iconst 1, 1) := by decide +kernel
theorem dX1_fewestHours_33 : decode cX1_fewestHours 33 = .ok (.invokevirtual 68, 3) := by decide +kernel
theorem dX1_fewestHours_36 : decode cX1_fewestHours 36 = .ok (.ifCond .ne 5, 3) := by decide +kernel
theorem dX1_fewestHours_39 : decode cX1_fewestHours 39 = .ok (.iload_n 3, 1) := by decide +kernel
theorem dX1_fewestHours_40 : decode cX1_fewestHours 40 = .ok (.ireturn, 1) := by decide +kernel
theorem dX1_fewestHours_41 : decode cX1_fewestHours 41 = .ok (.iinc 3 1, 3) := by decide +kernel
theorem dX1_fewestHours_44 : decode cX1_fewestHours 44 = .ok (.goto (-42), 3) := by decide +kernel
theorem dX1_fewestHours_47 : decode cX1_fewestHours 47 = .ok (.iconst (-1), 1) := by decide +kernel
theorem dX1_fewestHours_48 : decode cX1_fewestHours 48 = .ok (.ireturn, 1) := by decide +kernel
theorem dX1_finesByNumber_0 : decode cX1_finesByNumber 0 = .ok (.aload_n 0, 1) := by decide +kernel
theorem dX1_finesByNumber_1 : decode cX1_finesByNumber 1 = .ok (.aload_n 1, 1) := by decide +kernel
theorem dX1_finesByNumber_2 : decode cX1_finesByNumber 2 = .ok (.invokevirtual 79, 3) := by decide +kernel
theorem dX1_finesByNumber_5 : decode cX1_finesByNumber 5 = .ok (.aload_n 0, 1) := by decide +kernel
theorem dX1_finesByNumber_6 : decode cX1_finesByNumber 6 = .ok (.aload_n 1, 1) := by decide +kernel
theorem dX1_finesByNumber_7 : decode cX1_finesByNumber 7 = .ok (.aload_n 2, 1) := by decide +kernel
theorem dX1_finesByNumber_8 : decode cX1_finesByNumber 8 = .ok (.invokevirtual 83, 3) := by decide +kernel
theorem dX1_finesByNumber_11 : decode cX1_finesByNumber 11 = .ok (.ireturn, 1) := by decide +kernel
theorem dX1_finesByWorstOrder_0 : decode cX1_finesByWorstOrder 0 = .ok (.aload_n 0, 1) := by decide +kernel
theorem dX1_finesByWorstOrder_1 : decode cX1_finesByWorstOrder 1 = .ok (.aload_n 1, 1) := by decide +kernel
theorem dX1_finesByWorstOrder_2 : decode cX1_finesByWorstOrder 2 = .ok (.invokevirtual 79, 3) := by decide +kernel
theorem dX1_finesByWorstOrder_5 : decode cX1_finesByWorstOrder 5 = .ok (.aload_n 0, 1) := by decide +kernel
theorem dX1_finesByWorstOrder_6 : decode cX1_finesByWorstOrder 6 = .ok (.aload_n 1, 1) := by decide +kernel
theorem dX1_finesByWorstOrder_7 : decode cX1_finesByWorstOrder 7 = .ok (.aload_n 2, 1) := by decide +kernel
theorem dX1_finesByWorstOrder_8 : decode cX1_finesByWorstOrder 8 = .ok (.invokevirtual 83, 3) := by decide +kernel
theorem dX1_finesByWorstOrder_11 : decode cX1_finesByWorstOrder 11 = .ok (.istore_n 3, 1) := by decide +kernel
theorem dX1_finesByWorstOrder_12 : decode cX1_finesByWorstOrder 12 = .ok (.iconst 0, 1) := by decide +kernel
theorem dX1_finesByWorstOrder_13 : decode cX1_finesByWorstOrder 13 = .ok (.istore 4, 2) := by decide +kernel
theorem dX1_finesByWorstOrder_15 : decode cX1_finesByWorstOrder 15 = .ok (.iload 4, 2) := by decide +kernel
theorem dX1_finesByWorstOrder_17 : decode cX1_finesByWorstOrder 17 = .ok (.bipush 120, 2) := by decide +kernel
theorem dX1_finesByWorstOrder_19 : decode cX1_finesByWorstOrder 19 = .ok (.if_icmp .ge 34, 3) := by decide +kernel
theorem dX1_finesByWorstOrder_22 : decode cX1_finesByWorstOrder 22 = .ok (.aload_n 0, 1) := by decide +kernel
theorem dX1_finesByWorstOrder_23 : decode cX1_finesByWorstOrder 23 = .ok (.getfield 42, 3) := by decide +kernel
theorem dX1_finesByWorstOrder_26 : decode cX1_finesByWorstOrder 26 = .ok (.aload_n 1, 1) := by decide +kernel
theorem dX1_finesByWorstOrder_27 : decode cX1_finesByWorstOrder 27 = .ok (.getfield 87, 3) := by decide +kernel
theorem dX1_finesByWorstOrder_30 : decode cX1_finesByWorstOrder 30 = .ok (.invokestatic 90, 3) := by decide +kernel
theorem dX1_finesByWorstOrder_33 : decode cX1_finesByWorstOrder 33 = .ok (.ifCond .eq 20, 3) := by decide +kernel
theorem dX1_finesByWorstOrder_36 : decode cX1_finesByWorstOrder 36 = .ok (.iload_n 3, 1) := by decide +kernel
theorem dX1_finesByWorstOrder_37 : decode cX1_finesByWorstOrder 37 = .ok (.aload_n 0, 1) := by decide +kernel
theorem dX1_finesByWorstOrder_38 : decode cX1_finesByWorstOrder 38 = .ok (.aload_n 1, 1) := by decide +kernel
theorem dX1_finesByWorstOrder_39 : decode cX1_finesByWorstOrder 39 = .ok (.aload_n 2, 1) := by decide +kernel
theorem dX1_finesByWorstOrder_40 : decode cX1_finesByWorstOrder 40 = .ok (.invokevirtual 83, 3) := by decide +kernel
theorem dX1_finesByWorstOrder_43 : decode cX1_finesByWorstOrder 43 = .ok (.invokestatic 94, 3) := by decide +kernel
theorem dX1_finesByWorstOrder_46 : decode cX1_finesByWorstOrder 46 = .ok (.istore_n 3, 1) := by decide +kernel
theorem dX1_finesByWorstOrder_47 : decode cX1_finesByWorstOrder 47 = .ok (.iinc 4 1, 3) := by decide +kernel
theorem dX1_finesByWorstOrder_50 : decode cX1_finesByWorstOrder 50 = .ok (.goto (-35), 3) := by decide +kernel
theorem dX1_finesByWorstOrder_53 : decode cX1_finesByWorstOrder 53 = .ok (.iload_n 3, 1) := by decide +kernel
theorem dX1_finesByWorstOrder_54 : decode cX1_finesByWorstOrder 54 = .ok (.ireturn, 1) := by decide +kernel
theorem dX1_startOrders_0 : decode cX1_startOrders 0 = .ok (.aload_n 0, 1) := by decide +kernel
theorem dX1_startOrders_1 : decode cX1_startOrders 1 = .ok (.aload_n 1, 1) := by decide +kernel
theorem dX1_startOrders_2 : decode cX1_startOrders 2 = .ok (.aload_n 1, 1) := by decide +kernel
theorem dX1_startOrders_3 : decode cX1_startOrders 3 = .ok (.getfield 52, 3) := by decide +kernel
theorem dX1_startOrders_6 : decode cX1_startOrders 6 = .ok (.invokevirtual 57, 3) := by decide +kernel
theorem dX1_startOrders_9 : decode cX1_startOrders 9 = .ok (.iconst 0, 1) := by decide +kernel
theorem dX1_startOrders_10 : decode cX1_startOrders 10 = .ok (.istore_n 2, 1) := by decide +kernel
theorem dX1_startOrders_11 : decode cX1_startOrders 11 = .ok (.iload_n 2, 1) := by decide +kernel
theorem dX1_startOrders_12 : decode cX1_startOrders 12 = .ok (.iconst 5, 1) := by decide +kernel
theorem dX1_startOrders_13 : decode cX1_startOrders 13 = .ok (.if_icmp .ge 16, 3) := by decide +kernel
theorem dX1_startOrders_16 : decode cX1_startOrders 16 = .ok (.aload_n 0, 1) := by decide +kernel
theorem dX1_startOrders_17 : decode cX1_startOrders 17 = .ok (.getfield 42, 3) := by decide +kernel
theorem dX1_startOrders_20 : decode cX1_startOrders 20 = .ok (.iload_n 2, 1) := by decide +kernel
theorem dX1_startOrders_21 : decode cX1_startOrders 21 = .ok (.iload_n 2, 1) := by decide +kernel
theorem dX1_startOrders_22 : decode cX1_startOrders 22 = .ok (.iastore, 1) := by decide +kernel
theorem dX1_startOrders_23 : decode cX1_startOrders 23 = .ok (.iinc 2 1, 3) := by decide +kernel
theorem dX1_startOrders_26 : decode cX1_startOrders 26 = .ok (.goto (-15), 3) := by decide +kernel
theorem dX1_startOrders_29 : decode cX1_startOrders 29 = .ok (.return_, 1) := by decide +kernel
theorem dX1_roundOfRest_0 : decode cX1_roundOfRest 0 = .ok (.aload_n 0, 1) := by decide +kernel
theorem dX1_roundOfRest_1 : decode cX1_roundOfRest 1 = .ok (.aload_n 1, 1) := by decide +kernel
theorem dX1_roundOfRest_2 : decode cX1_roundOfRest 2 = .ok (.aload_n 1, 1) := by decide +kernel
theorem dX1_roundOfRest_3 : decode cX1_roundOfRest 3 = .ok (.getfield 52, 3) := by decide +kernel
theorem dX1_roundOfRest_6 : decode cX1_roundOfRest 6 = .ok (.invokevirtual 57, 3) := by decide +kernel
theorem dX1_roundOfRest_9 : decode cX1_roundOfRest 9 = .ok (.aload_n 1, 1) := by decide +kernel
theorem dX1_roundOfRest_10 : decode cX1_roundOfRest 10 = .ok (.getfield 100, 3) := by decide +kernel
theorem dX1_roundOfRest_13 : decode cX1_roundOfRest 13 = .ok (.aload_n 0, 1) := by decide +kernel
theorem dX1_roundOfRest_14 : decode cX1_roundOfRest 14 = .ok (.getfield 11, 3) := by decide +kernel
theorem dX1_roundOfRest_17 : decode cX1_roundOfRest 17 = .ok (.invokestatic 75, 3) := by decide +kernel
theorem dX1_roundOfRest_20 : decode cX1_roundOfRest 20 = .ok (.iconst 0, 1) := by decide +kernel
theorem dX1_roundOfRest_21 : decode cX1_roundOfRest 21 = .ok (.istore_n 3, 1) := by decide +kernel
theorem dX1_roundOfRest_22 : decode cX1_roundOfRest 22 = .ok (.iload_n 3, 1) := by decide +kernel
theorem dX1_roundOfRest_23 : decode cX1_roundOfRest 23 = .ok (.bipush 20, 2) := by decide +kernel
theorem dX1_roundOfRest_25 : decode cX1_roundOfRest 25 = .ok (.if_icmp .gt 20, 3) := by decide +kernel
theorem dX1_roundOfRest_28 : decode cX1_roundOfRest 28 = .ok (.aload_n 0, 1) := by decide +kernel
theorem dX1_roundOfRest_29 : decode cX1_roundOfRest 29 = .ok (.aload_n 1, 1) := by decide +kernel
theorem dX1_roundOfRest_30 : decode cX1_roundOfRest 30 = .ok (.aload_n 2, 1) := by decide +kernel
theorem dX1_roundOfRest_31 : decode cX1_roundOfRest 31 = .ok (.invokevirtual 103, 3) := by decide +kernel
theorem dX1_roundOfRest_34 : decode cX1_roundOfRest 34 = .ok (.ifCond .ne 5, 3) := by decide +kernel
theorem dX1_roundOfRest_37 : decode cX1_roundOfRest 37 = .ok (.iload_n 3, 1) := by decide +kernel
theorem dX1_roundOfRest_38 : decode cX1_roundOfRest 38 = .ok (.ireturn, 1) := by decide +kernel
theorem dX1_roundOfRest_39 : decode cX1_roundOfRest 39 = .ok (.iinc 3 1, 3) := by decide +kernel
theorem dX1_roundOfRest_42 : decode cX1_roundOfRest 42 = .ok (.goto (-20), 3) := by decide +kernel
theorem dX1_roundOfRest_45 : decode cX1_roundOfRest 45 = .ok (.iconst (-1), 1) := by decide +kernel
theorem dX1_roundOfRest_46 : decode cX1_roundOfRest 46 = .ok (.ireturn, 1) := by decide +kernel
theorem dX1_anyoneChanges_0 : decode cX1_anyoneChanges 0 = .ok (.iconst 0, 1) := by decide +kernel
theorem dX1_anyoneChanges_1 : decode cX1_anyoneChanges 1 = .ok (.istore_n 3, 1) := by decide +kernel
theorem dX1_anyoneChanges_2 : decode cX1_anyoneChanges 2 = .ok (.iconst 0, 1) := by decide +kernel
theorem dX1_anyoneChanges_3 : decode cX1_anyoneChanges 3 = .ok (.istore 4, 2) := by decide +kernel
theorem dX1_anyoneChanges_5 : decode cX1_anyoneChanges 5 = .ok (.iload 4, 2) := by decide +kernel
theorem dX1_anyoneChanges_7 : decode cX1_anyoneChanges 7 = .ok (.aload_n 1, 1) := by decide +kernel
theorem dX1_anyoneChanges_8 : decode cX1_anyoneChanges 8 = .ok (.getfield 87, 3) := by decide +kernel
theorem dX1_anyoneChanges_11 : decode cX1_anyoneChanges 11 = .ok (.if_icmp .ge 68, 3) := by decide +kernel
theorem dX1_anyoneChanges_14 : decode cX1_anyoneChanges 14 = .ok (.aload_n 0, 1) := by decide +kernel
theorem dX1_anyoneChanges_15 : decode cX1_anyoneChanges 15 = .ok (.aload_n 1, 1) := by decide +kernel
theorem dX1_anyoneChanges_16 : decode cX1_anyoneChanges 16 = .ok (.aload_n 2, 1) := by decide +kernel
theorem dX1_anyoneChanges_17 : decode cX1_anyoneChanges 17 = .ok (.iload 4, 2) := by decide +kernel
theorem dX1_anyoneChanges_19 : decode cX1_anyoneChanges 19 = .ok (.invokevirtual 107, 3) := by decide +kernel
theorem dX1_anyoneChanges_22 : decode cX1_anyoneChanges 22 = .ok (.aload_n 0, 1) := by decide +kernel
theorem dX1_anyoneChanges_23 : decode cX1_anyoneChanges 23 = .ok (.iload 4, 2) := by decide +kernel
theorem dX1_anyoneChanges_25 : decode cX1_anyoneChanges 25 = .ok (.aload_n 1, 1) := by decide +kernel
theorem dX1_anyoneChanges_26 : decode cX1_anyoneChanges 26 = .ok (.getfield 52, 3) := by decide +kernel
theorem dX1_anyoneChanges_29 : decode cX1_anyoneChanges 29 = .ok (.invokevirtual 111, 3) := by decide +kernel
theorem dX1_anyoneChanges_32 : decode cX1_anyoneChanges 32 = .ok (.istore 5, 2) := by decide +kernel
theorem dX1_anyoneChanges_34 : decode cX1_anyoneChanges 34 = .ok (.aload_n 0, 1) := by decide +kernel
theorem dX1_anyoneChanges_35 : decode cX1_anyoneChanges 35 = .ok (.iload 4, 2) := by decide +kernel
theorem dX1_anyoneChanges_37 : decode cX1_anyoneChanges 37 = .ok (.iload 5, 2) := by decide +kernel
theorem dX1_anyoneChanges_39 : decode cX1_anyoneChanges 39 = .ok (.aload_n 1, 1) := by decide +kernel
theorem dX1_anyoneChanges_40 : decode cX1_anyoneChanges 40 = .ok (.getfield 52, 3) := by decide +kernel
theorem dX1_anyoneChanges_43 : decode cX1_anyoneChanges 43 = .ok (.invokevirtual 114, 3) := by decide +kernel
theorem dX1_anyoneChanges_46 : decode cX1_anyoneChanges 46 = .ok (.aload_n 0, 1) := by decide +kernel
theorem dX1_anyoneChanges_47 : decode cX1_anyoneChanges 47 = .ok (.iload 4, 2) := by decide +kernel
theorem dX1_anyoneChanges_49 : decode cX1_anyoneChanges 49 = .ok (.aload_n 1, 1) := by decide +kernel
theorem dX1_anyoneChanges_50 : decode cX1_anyoneChanges 50 = .ok (.getfield 52, 3) := by decide +kernel
theorem dX1_anyoneChanges_53 : decode cX1_anyoneChanges 53 = .ok (.invokevirtual 118, 3) := by decide +kernel
theorem dX1_anyoneChanges_56 : decode cX1_anyoneChanges 56 = .ok (.if_icmp .ge 17, 3) := by decide +kernel
theorem dX1_anyoneChanges_59 : decode cX1_anyoneChanges 59 = .ok (.aload_n 0, 1) := by decide +kernel
theorem dX1_anyoneChanges_60 : decode cX1_anyoneChanges 60 = .ok (.iload 4, 2) := by decide +kernel
theorem dX1_anyoneChanges_62 : decode cX1_anyoneChanges 62 = .ok (.iload 5, 2) := by decide +kernel
theorem dX1_anyoneChanges_64 : decode cX1_anyoneChanges 64 = .ok (.aload_n 1, 1) := by decide +kernel
theorem dX1_anyoneChanges_65 : decode cX1_anyoneChanges 65 = .ok (.getfield 52, 3) := by decide +kernel
theorem dX1_anyoneChanges_68 : decode cX1_anyoneChanges 68 = .ok (.invokevirtual 121, 3) := by decide +kernel
theorem dX1_anyoneChanges_71 : decode cX1_anyoneChanges 71 = .ok (.iconst 1, 1) := by decide +kernel
theorem dX1_anyoneChanges_72 : decode cX1_anyoneChanges 72 = .ok (.istore_n 3, 1) := by decide +kernel
theorem dX1_anyoneChanges_73 : decode cX1_anyoneChanges 73 = .ok (.iinc 4 1, 3) := by decide +kernel
theorem dX1_anyoneChanges_76 : decode cX1_anyoneChanges 76 = .ok (.goto (-71), 3) := by decide +kernel
theorem dX1_anyoneChanges_79 : decode cX1_anyoneChanges 79 = .ok (.iload_n 3, 1) := by decide +kernel
theorem dX1_anyoneChanges_80 : decode cX1_anyoneChanges 80 = .ok (.ireturn, 1) := by decide +kernel
theorem dX1_finesInOrder_0 : decode cX1_finesInOrder 0 = .ok (.aload_n 0, 1) := by decide +kernel
theorem dX1_finesInOrder_1 : decode cX1_finesInOrder 1 = .ok (.invokevirtual 125, 3) := by decide +kernel
theorem dX1_finesInOrder_4 : decode cX1_finesInOrder 4 = .ok (.iconst 0, 1) := by decide +kernel
theorem dX1_finesInOrder_5 : decode cX1_finesInOrder 5 = .ok (.istore_n 3, 1) := by decide +kernel
theorem dX1_finesInOrder_6 : decode cX1_finesInOrder 6 = .ok (.iload_n 3, 1) := by decide +kernel
theorem dX1_finesInOrder_7 : decode cX1_finesInOrder 7 = .ok (.aload_n 1, 1) := by decide +kernel
theorem dX1_finesInOrder_8 : decode cX1_finesInOrder 8 = .ok (.getfield 87, 3) := by decide +kernel
theorem dX1_finesInOrder_11 : decode cX1_finesInOrder 11 = .ok (.if_icmp .ge 49, 3) := by decide +kernel
theorem dX1_finesInOrder_14 : decode cX1_finesInOrder 14 = .ok (.aload_n 0, 1) := by decide +kernel
theorem dX1_finesInOrder_15 : decode cX1_finesInOrder 15 = .ok (.aload_n 1, 1) := by decide +kernel
theorem dX1_finesInOrder_16 : decode cX1_finesInOrder 16 = .ok (.aload_n 2, 1) := by decide +kernel
theorem dX1_finesInOrder_17 : decode cX1_finesInOrder 17 = .ok (.aload_n 0, 1) := by decide +kernel
theorem dX1_finesInOrder_18 : decode cX1_finesInOrder 18 = .ok (.getfield 42, 3) := by decide +kernel
theorem dX1_finesInOrder_21 : decode cX1_finesInOrder 21 = .ok (.iload_n 3, 1) := by decide +kernel
theorem dX1_finesInOrder_22 : decode cX1_finesInOrder 22 = .ok (.iaload, 1) := by decide +kernel
theorem dX1_finesInOrder_23 : decode cX1_finesInOrder 23 = .ok (.invokevirtual 107, 3) := by decide +kernel
theorem dX1_finesInOrder_26 : decode cX1_finesInOrder 26 = .ok (.aload_n 0, 1) := by decide +kernel
theorem dX1_finesInOrder_27 : decode cX1_finesInOrder 27 = .ok (.aload_n 0, 1) := by decide +kernel
theorem dX1_finesInOrder_28 : decode cX1_finesInOrder 28 = .ok (.getfield 42, 3) := by decide +kernel
theorem dX1_finesInOrder_31 : decode cX1_finesInOrder 31 = .ok (.iload_n 3, 1) := by decide +kernel
theorem dX1_finesInOrder_32 : decode cX1_finesInOrder 32 = .ok (.iaload, 1) := by decide +kernel
theorem dX1_finesInOrder_33 : decode cX1_finesInOrder 33 = .ok (.aload_n 0, 1) := by decide +kernel
theorem dX1_finesInOrder_34 : decode cX1_finesInOrder 34 = .ok (.aload_n 0, 1) := by decide +kernel
theorem dX1_finesInOrder_35 : decode cX1_finesInOrder 35 = .ok (.getfield 42, 3) := by decide +kernel
theorem dX1_finesInOrder_38 : decode cX1_finesInOrder 38 = .ok (.iload_n 3, 1) := by decide +kernel
theorem dX1_finesInOrder_39 : decode cX1_finesInOrder 39 = .ok (.iaload, 1) := by decide +kernel
theorem dX1_finesInOrder_40 : decode cX1_finesInOrder 40 = .ok (.aload_n 1, 1) := by decide +kernel
theorem dX1_finesInOrder_41 : decode cX1_finesInOrder 41 = .ok (.getfield 52, 3) := by decide +kernel
theorem dX1_finesInOrder_44 : decode cX1_finesInOrder 44 = .ok (.invokevirtual 111, 3) := by decide +kernel
theorem dX1_finesInOrder_47 : decode cX1_finesInOrder 47 = .ok (.aload_n 1, 1) := by decide +kernel
theorem dX1_finesInOrder_48 : decode cX1_finesInOrder 48 = .ok (.getfield 52, 3) := by decide +kernel
theorem dX1_finesInOrder_51 : decode cX1_finesInOrder 51 = .ok (.invokevirtual 121, 3) := by decide +kernel
theorem dX1_finesInOrder_54 : decode cX1_finesInOrder 54 = .ok (.iinc 3 1, 3) := by decide +kernel
theorem dX1_finesInOrder_57 : decode cX1_finesInOrder 57 = .ok (.goto (-51), 3) := by decide +kernel
theorem dX1_finesInOrder_60 : decode cX1_finesInOrder 60 = .ok (.aload_n 2, 1) := by decide +kernel
theorem dX1_finesInOrder_61 : decode cX1_finesInOrder 61 = .ok (.aload_n 1, 1) := by decide +kernel
theorem dX1_finesInOrder_62 : decode cX1_finesInOrder 62 = .ok (.aload_n 0, 1) := by decide +kernel
theorem dX1_finesInOrder_63 : decode cX1_finesInOrder 63 = .ok (.getfield 11, 3) := by decide +kernel
theorem dX1_finesInOrder_66 : decode cX1_finesInOrder 66 = .ok (.aload_n 1, 1) := by decide +kernel
theorem dX1_finesInOrder_67 : decode cX1_finesInOrder 67 = .ok (.getfield 52, 3) := by decide +kernel
theorem dX1_finesInOrder_70 : decode cX1_finesInOrder 70 = .ok (.invokevirtual 128, 3) := by decide +kernel
theorem dX1_finesInOrder_73 : decode cX1_finesInOrder 73 = .ok (.ireturn, 1) := by decide +kernel
theorem dX1_setPrices_0 : decode cX1_setPrices 0 = .ok (.iconst 0, 1) := by decide +kernel
theorem dX1_setPrices_1 : decode cX1_setPrices 1 = .ok (.istore 4, 2) := by decide +kernel
theorem dX1_setPrices_3 : decode cX1_setPrices 3 = .ok (.iload 4, 2) := by decide +kernel
theorem dX1_setPrices_5 : decode cX1_setPrices 5 = .ok (.aload_n 1, 1) := by decide +kernel
theorem dX1_setPrices_6 : decode cX1_setPrices 6 = .ok (.getfield 52, 3) := by decide +kernel
theorem dX1_setPrices_9 : decode cX1_setPrices 9 = .ok (.if_icmp .ge 80, 3) := by decide +kernel
theorem dX1_setPrices_12 : decode cX1_setPrices 12 = .ok (.aload_n 1, 1) := by decide +kernel
theorem dX1_setPrices_13 : decode cX1_setPrices 13 = .ok (.iload 4, 2) := by decide +kernel
theorem dX1_setPrices_15 : decode cX1_setPrices 15 = .ok (.invokevirtual 134, 3) := by decide +kernel
theorem dX1_setPrices_18 : decode cX1_setPrices 18 = .ok (.istore 5, 2) := by decide +kernel
theorem dX1_setPrices_20 : decode cX1_setPrices 20 = .ok (.aload_n 2, 1) := by decide +kernel
theorem dX1_setPrices_21 : decode cX1_setPrices 21 = .ok (.aload_n 0, 1) := by decide +kernel
theorem dX1_setPrices_22 : decode cX1_setPrices 22 = .ok (.getfield 11, 3) := by decide +kernel
theorem dX1_setPrices_25 : decode cX1_setPrices 25 = .ok (.iload 4, 2) := by decide +kernel
theorem dX1_setPrices_27 : decode cX1_setPrices 27 = .ok (.invokevirtual 138, 3) := by decide +kernel
theorem dX1_setPrices_30 : decode cX1_setPrices 30 = .ok (.astore 6, 2) := by decide +kernel
theorem dX1_setPrices_32 : decode cX1_setPrices 32 = .ok (.iconst 0, 1) := by decide +kernel
theorem dX1_setPrices_33 : decode cX1_setPrices 33 = .ok (.istore 7, 2) := by decide +kernel
theorem dX1_setPrices_35 : decode cX1_setPrices 35 = .ok (.iload 7, 2) := by decide +kernel
theorem dX1_setPrices_37 : decode cX1_setPrices 37 = .ok (.aload_n 1, 1) := by decide +kernel
theorem dX1_setPrices_38 : decode cX1_setPrices 38 = .ok (.getfield 142, 3) := by decide +kernel
theorem dX1_setPrices_41 : decode cX1_setPrices 41 = .ok (.if_icmp .ge 42, 3) := by decide +kernel
theorem dX1_setPrices_44 : decode cX1_setPrices 44 = .ok (.aload_n 0, 1) := by decide +kernel
theorem dX1_setPrices_45 : decode cX1_setPrices 45 = .ok (.getfield 45, 3) := by decide +kernel
theorem dX1_setPrices_48 : decode cX1_setPrices 48 = .ok (.iload_n 3, 1) := by decide +kernel
theorem dX1_setPrices_49 : decode cX1_setPrices 49 = .ok (.aaload, 1) := by decide +kernel
theorem dX1_setPrices_50 : decode cX1_setPrices 50 = .ok (.iload 4, 2) := by decide +kernel
theorem dX1_setPrices_52 : decode cX1_setPrices 52 = .ok (.bipush 10, 2) := by decide +kernel
theorem dX1_setPrices_54 : decode cX1_setPrices 54 = .ok (.imul, 1) := by decide +kernel
theorem dX1_setPrices_55 : decode cX1_setPrices 55 = .ok (.iload 7, 2) := by decide +kernel
theorem dX1_setPrices_57 : decode cX1_setPrices 57 = .ok (.iadd, 1) := by decide +kernel
theorem dX1_setPrices_58 : decode cX1_setPrices 58 = .ok (.aload_n 2, 1) := by decide +kernel
theorem dX1_setPrices_59 : decode cX1_setPrices 59 = .ok (.iload 5, 2) := by decide +kernel
theorem dX1_setPrices_61 : decode cX1_setPrices 61 = .ok (.aload_n 0, 1) := by decide +kernel
theorem dX1_setPrices_62 : decode cX1_setPrices 62 = .ok (.getfield 11, 3) := by decide +kernel
theorem dX1_setPrices_65 : decode cX1_setPrices 65 = .ok (.iload 4, 2) := by decide +kernel
theorem dX1_setPrices_67 : decode cX1_setPrices 67 = .ok (.aaload, 1) := by decide +kernel
theorem dX1_setPrices_68 : decode cX1_setPrices 68 = .ok (.aload 6, 2) := by decide +kernel
theorem dX1_setPrices_70 : decode cX1_setPrices 70 = .ok (.iload_n 3, 1) := by decide +kernel
theorem dX1_setPrices_71 : decode cX1_setPrices 71 = .ok (.iload 7, 2) := by decide +kernel
theorem dX1_setPrices_73 : decode cX1_setPrices 73 = .ok (.invokevirtual 145, 3) := by decide +kernel
theorem dX1_setPrices_76 : decode cX1_setPrices 76 = .ok (.iastore, 1) := by decide +kernel
theorem dX1_setPrices_77 : decode cX1_setPrices 77 = .ok (.iinc 7 1, 3) := by decide +kernel
theorem dX1_setPrices_80 : decode cX1_setPrices 80 = .ok (.goto (-45), 3) := by decide +kernel
theorem dX1_setPrices_83 : decode cX1_setPrices 83 = .ok (.iinc 4 1, 3) := by decide +kernel
theorem dX1_setPrices_86 : decode cX1_setPrices 86 = .ok (.goto (-83), 3) := by decide +kernel
theorem dX1_setPrices_89 : decode cX1_setPrices 89 = .ok (.return_, 1) := by decide +kernel
theorem dX1_bestRow_0 : decode cX1_bestRow 0 = .ok (.iconst 0, 1) := by decide +kernel
theorem dX1_bestRow_1 : decode cX1_bestRow 1 = .ok (.istore_n 3, 1) := by decide +kernel
theorem dX1_bestRow_2 : decode cX1_bestRow 2 = .ok (.ldc 67, 2) := by decide +kernel
theorem dX1_bestRow_4 : decode cX1_bestRow 4 = .ok (.istore 4, 2) := by decide +kernel
theorem dX1_bestRow_6 : decode cX1_bestRow 6 = .ok (.iconst 0, 1) := by decide +kernel
theorem dX1_bestRow_7 : decode cX1_bestRow 7 = .ok (.istore 5, 2) := by decide +kernel
theorem dX1_bestRow_9 : decode cX1_bestRow 9 = .ok (.iload 5, 2) := by decide +kernel
theorem dX1_bestRow_11 : decode cX1_bestRow 11 = .ok (.aload_n 0, 1) := by decide +kernel
theorem dX1_bestRow_12 : decode cX1_bestRow 12 = .ok (.getfield 29, 3) := by decide +kernel
theorem dX1_bestRow_15 : decode cX1_bestRow 15 = .ok (.iload_n 1, 1) := by decide +kernel
theorem dX1_bestRow_16 : decode cX1_bestRow 16 = .ok (.iaload, 1) := by decide +kernel
theorem dX1_bestRow_17 : decode cX1_bestRow 17 = .ok (.if_icmp .ge 33, 3) := by decide +kernel
theorem dX1_bestRow_20 : decode cX1_bestRow 20 = .ok (.aload_n 0, 1) := by decide +kernel
theorem dX1_bestRow_21 : decode cX1_bestRow 21 = .ok (.iload_n 1, 1) := by decide +kernel
theorem dX1_bestRow_22 : decode cX1_bestRow 22 = .ok (.iload 5, 2) := by decide +kernel
theorem dX1_bestRow_24 : decode cX1_bestRow 24 = .ok (.iload_n 2, 1) := by decide +kernel
theorem dX1_bestRow_25 : decode cX1_bestRow 25 = .ok (.invokevirtual 114, 3) := by decide +kernel
theorem dX1_bestRow_28 : decode cX1_bestRow 28 = .ok (.istore 6, 2) := by decide +kernel
theorem dX1_bestRow_30 : decode cX1_bestRow 30 = .ok (.iload 6, 2) := by decide +kernel
theorem dX1_bestRow_32 : decode cX1_bestRow 32 = .ok (.iload 4, 2) := by decide +kernel
theorem dX1_bestRow_34 : decode cX1_bestRow 34 = .ok (.if_icmp .ge 10, 3) := by decide +kernel
theorem dX1_bestRow_37 : decode cX1_bestRow 37 = .ok (.iload 6, 2) := by decide +kernel
theorem dX1_bestRow_39 : decode cX1_bestRow 39 = .ok (.istore 4, 2) := by decide +kernel
theorem dX1_bestRow_41 : decode cX1_bestRow 41 = .ok (.iload 5, 2) := by decide +kernel
theorem dX1_bestRow_43 : decode cX1_bestRow 43 = .ok (.istore_n 3, 1) := by decide +kernel
theorem dX1_bestRow_44 : decode cX1_bestRow 44 = .ok (.iinc 5 1, 3) := by decide +kernel
theorem dX1_bestRow_47 : decode cX1_bestRow 47 = .ok (.goto (-38), 3) := by decide +kernel
theorem dX1_bestRow_50 : decode cX1_bestRow 50 = .ok (.iload_n 3, 1) := by decide +kernel
theorem dX1_bestRow_51 : decode cX1_bestRow 51 = .ok (.ireturn, 1) := by decide +kernel
theorem dX1_priceOfRow_0 : decode cX1_priceOfRow 0 = .ok (.iconst 0, 1) := by decide +kernel
theorem dX1_priceOfRow_1 : decode cX1_priceOfRow 1 = .ok (.istore 4, 2) := by decide +kernel
theorem dX1_priceOfRow_3 : decode cX1_priceOfRow 3 = .ok (.iconst 0, 1) := by decide +kernel
theorem dX1_priceOfRow_4 : decode cX1_priceOfRow 4 = .ok (.istore 5, 2) := by decide +kernel
theorem dX1_priceOfRow_6 : decode cX1_priceOfRow 6 = .ok (.iload 5, 2) := by decide +kernel
theorem dX1_priceOfRow_8 : decode cX1_priceOfRow 8 = .ok (.iload_n 3, 1) := by decide +kernel
theorem dX1_priceOfRow_9 : decode cX1_priceOfRow 9 = .ok (.if_icmp .ge 40, 3) := by decide +kernel
theorem dX1_priceOfRow_12 : decode cX1_priceOfRow 12 = .ok (.iload 4, 2) := by decide +kernel
theorem dX1_priceOfRow_14 : decode cX1_priceOfRow 14 = .ok (.aload_n 0, 1) := by decide +kernel
theorem dX1_priceOfRow_15 : decode cX1_priceOfRow 15 = .ok (.getfield 45, 3) := by decide +kernel
theorem dX1_priceOfRow_18 : decode cX1_priceOfRow 18 = .ok (.iload_n 1, 1) := by decide +kernel
theorem dX1_priceOfRow_19 : decode cX1_priceOfRow 19 = .ok (.aaload, 1) := by decide +kernel
theorem dX1_priceOfRow_20 : decode cX1_priceOfRow 20 = .ok (.iload 5, 2) := by decide +kernel
theorem dX1_priceOfRow_22 : decode cX1_priceOfRow 22 = .ok (.bipush 10, 2) := by decide +kernel
theorem dX1_priceOfRow_24 : decode cX1_priceOfRow 24 = .ok (.imul, 1) := by decide +kernel
theorem dX1_priceOfRow_25 : decode cX1_priceOfRow 25 = .ok (.aload_n 0, 1) := by decide +kernel
theorem dX1_priceOfRow_26 : decode cX1_priceOfRow 26 = .ok (.getfield 26, 3) := by decide +kernel
theorem dX1_priceOfRow_29 : decode cX1_priceOfRow 29 = .ok (.iload_n 1, 1) := by decide +kernel
theorem dX1_priceOfRow_30 : decode cX1_priceOfRow 30 = .ok (.aaload, 1) := by decide +kernel
theorem dX1_priceOfRow_31 : decode cX1_priceOfRow 31 = .ok (.iload_n 2, 1) := by decide +kernel
theorem dX1_priceOfRow_32 : decode cX1_priceOfRow 32 = .ok (.iconst 5, 1) := by decide +kernel
theorem dX1_priceOfRow_33 : decode cX1_priceOfRow 33 = .ok (.imul, 1) := by decide +kernel
theorem dX1_priceOfRow_34 : decode cX1_priceOfRow 34 = .ok (.iload 5, 2) := by decide +kernel
theorem dX1_priceOfRow_36 : decode cX1_priceOfRow 36 = .ok (.iadd, 1) := by decide +kernel
theorem dX1_priceOfRow_37 : decode cX1_priceOfRow 37 = .ok (.iaload, 1) := by decide +kernel
theorem dX1_priceOfRow_38 : decode cX1_priceOfRow 38 = .ok (.iadd, 1) := by decide +kernel
theorem dX1_priceOfRow_39 : decode cX1_priceOfRow 39 = .ok (.iaload, 1) := by decide +kernel
theorem dX1_priceOfRow_40 : decode cX1_priceOfRow 40 = .ok (.iadd, 1) := by decide +kernel
theorem dX1_priceOfRow_41 : decode cX1_priceOfRow 41 = .ok (.istore 4, 2) := by decide +kernel
theorem dX1_priceOfRow_43 : decode cX1_priceOfRow 43 = .ok (.iinc 5 1, 3) := by decide +kernel
theorem dX1_priceOfRow_46 : decode cX1_priceOfRow 46 = .ok (.goto (-40), 3) := by decide +kernel
theorem dX1_priceOfRow_49 : decode cX1_priceOfRow 49 = .ok (.iload 4, 2) := by decide +kernel
theorem dX1_priceOfRow_51 : decode cX1_priceOfRow 51 = .ok (.ireturn, 1) := by decide +kernel
theorem dX1_priceOfNow_0 : decode cX1_priceOfNow 0 = .ok (.iconst 0, 1) := by decide +kernel
theorem dX1_priceOfNow_1 : decode cX1_priceOfNow 1 = .ok (.istore_n 3, 1) := by decide +kernel
theorem dX1_priceOfNow_2 : decode cX1_priceOfNow 2 = .ok (.iconst 0, 1) := by decide +kernel
theorem dX1_priceOfNow_3 : decode cX1_priceOfNow 3 = .ok (.istore 4, 2) := by decide +kernel
theorem dX1_priceOfNow_5 : decode cX1_priceOfNow 5 = .ok (.iload 4, 2) := by decide +kernel
theorem dX1_priceOfNow_7 : decode cX1_priceOfNow 7 = .ok (.iload_n 2, 1) := by decide +kernel
theorem dX1_priceOfNow_8 : decode cX1_priceOfNow 8 = .ok (.if_icmp .ge 34, 3) := by decide +kernel
theorem dX1_priceOfNow_11 : decode cX1_priceOfNow 11 = .ok (.iload_n 3, 1) := by decide +kernel
theorem dX1_priceOfNow_12 : decode cX1_priceOfNow 12 = .ok (.aload_n 0, 1) := by decide +kernel
theorem dX1_priceOfNow_13 : decode cX1_priceOfNow 13 = .ok (.getfield 45, 3) := by decide +kernel
theorem dX1_priceOfNow_16 : decode cX1_priceOfNow 16 = .ok (.iload_n 1, 1) := by decide +kernel
theorem dX1_priceOfNow_17 : decode cX1_priceOfNow 17 = .ok (.aaload, 1) := by decide +kernel
theorem dX1_priceOfNow_18 : decode cX1_priceOfNow 18 = .ok (.iload 4, 2) := by decide +kernel
theorem dX1_priceOfNow_20 : decode cX1_priceOfNow 20 = .ok (.bipush 10, 2) := by decide +kernel
theorem dX1_priceOfNow_22 : decode cX1_priceOfNow 22 = .ok (.imul, 1) := by decide +kernel
theorem dX1_priceOfNow_23 : decode cX1_priceOfNow 23 = .ok (.aload_n 0, 1) := by decide +kernel
theorem dX1_priceOfNow_24 : decode cX1_priceOfNow 24 = .ok (.getfield 11, 3) := by decide +kernel
theorem dX1_priceOfNow_27 : decode cX1_priceOfNow 27 = .ok (.iload 4, 2) := by decide +kernel
theorem dX1_priceOfNow_29 : decode cX1_priceOfNow 29 = .ok (.aaload, 1) := by decide +kernel
theorem dX1_priceOfNow_30 : decode cX1_priceOfNow 30 = .ok (.iload_n 1, 1) := by decide +kernel
theorem dX1_priceOfNow_31 : decode cX1_priceOfNow 31 = .ok (.iaload, 1) := by decide +kernel
theorem dX1_priceOfNow_32 : decode cX1_priceOfNow 32 = .ok (.iadd, 1) := by decide +kernel
theorem dX1_priceOfNow_33 : decode cX1_priceOfNow 33 = .ok (.iaload, 1) := by decide +kernel
theorem dX1_priceOfNow_34 : decode cX1_priceOfNow 34 = .ok (.iadd, 1) := by decide +kernel
theorem dX1_priceOfNow_35 : decode cX1_priceOfNow 35 = .ok (.istore_n 3, 1) := by decide +kernel
theorem dX1_priceOfNow_36 : decode cX1_priceOfNow 36 = .ok (.iinc 4 1, 3) := by decide +kernel
theorem dX1_priceOfNow_39 : decode cX1_priceOfNow 39 = .ok (.goto (-34), 3) := by decide +kernel
theorem dX1_priceOfNow_42 : decode cX1_priceOfNow 42 = .ok (.iload_n 3, 1) := by decide +kernel
theorem dX1_priceOfNow_43 : decode cX1_priceOfNow 43 = .ok (.ireturn, 1) := by decide +kernel
theorem dX1_search_0 : decode cX1_search 0 = .ok (.iload 4, 2) := by decide +kernel
theorem dX1_search_2 : decode cX1_search 2 = .ok (.istore 5, 2) := by decide +kernel
theorem dX1_search_4 : decode cX1_search 4 = .ok (.iconst 0, 1) := by decide +kernel
theorem dX1_search_5 : decode cX1_search 5 = .ok (.istore 6, 2) := by decide +kernel
theorem dX1_search_7 : decode cX1_search 7 = .ok (.aload_n 0, 1) := by decide +kernel
theorem dX1_search_8 : decode cX1_search 8 = .ok (.invokevirtual 125, 3) := by decide +kernel
theorem dX1_search_11 : decode cX1_search 11 = .ok (.aload_n 0, 1) := by decide +kernel
theorem dX1_search_12 : decode cX1_search 12 = .ok (.aload_n 1, 1) := by decide +kernel
theorem dX1_search_13 : decode cX1_search 13 = .ok (.aload_n 2, 1) := by decide +kernel
theorem dX1_search_14 : decode cX1_search 14 = .ok (.iconst 0, 1) := by decide +kernel
theorem dX1_search_15 : decode cX1_search 15 = .ok (.iconst 0, 1) := by decide +kernel
theorem dX1_search_16 : decode cX1_search 16 = .ok (.iload_n 3, 1) := by decide +kernel
theorem dX1_search_17 : decode cX1_search 17 = .ok (.invokevirtual 149, 3) := by decide +kernel
theorem dX1_search_20 : decode cX1_search 20 = .ok (.iconst 0, 1) := by decide +kernel
theorem dX1_search_21 : decode cX1_search 21 = .ok (.istore 7, 2) := by decide +kernel
theorem dX1_search_23 : decode cX1_search 23 = .ok (.iload 7, 2) := by decide +kernel
theorem dX1_search_25 : decode cX1_search 25 = .ok (.ldc 67, 2) := by decide +kernel
theorem dX1_search_27 : decode cX1_search 27 = .ok (.if_icmp .ge 150, 3) := by decide +kernel
theorem dX1_search_30 : decode cX1_search 30 = .ok (.iload 6, 2) := by decide +kernel
theorem dX1_search_32 : decode cX1_search 32 = .ok (.ifCond .lt 145, 3) := by decide +kernel
theorem dX1_search_35 : decode cX1_search 35 = .ok (.iload 5, 2) := by decide +kernel
theorem dX1_search_37 : decode cX1_search 37 = .ok (.ifCond .le 140, 3) := by decide +kernel
theorem dX1_search_40 : decode cX1_search 40 = .ok (.aload_n 0, 1) := by decide +kernel
theorem dX1_search_41 : decode cX1_search 41 = .ok (.getfield 36, 3) := by decide +kernel
theorem dX1_search_44 : decode cX1_search 44 = .ok (.iload 6, 2) := by decide +kernel
theorem dX1_search_46 : decode cX1_search 46 = .ok (.dup2, 1) := by decide +kernel
theorem dX1_search_47 : decode cX1_search 47 = .ok (.iaload, 1) := by decide +kernel
theorem dX1_search_48 : decode cX1_search 48 = .ok (.iconst 1, 1) := by decide +kernel
theorem dX1_search_49 : decode cX1_search 49 = .ok (.iadd, 1) := by decide +kernel
theorem dX1_search_50 : decode cX1_search 50 = .ok (.iastore, 1) := by decide +kernel
theorem dX1_search_51 : decode cX1_search 51 = .ok (.aload_n 0, 1) := by decide +kernel
theorem dX1_search_52 : decode cX1_search 52 = .ok (.getfield 36, 3) := by decide +kernel
theorem dX1_search_55 : decode cX1_search 55 = .ok (.iload 6, 2) := by decide +kernel
theorem dX1_search_57 : decode cX1_search 57 = .ok (.iaload, 1) := by decide +kernel
theorem dX1_search_58 : decode cX1_search 58 = .ok (.aload_n 0, 1) := by decide +kernel
theorem dX1_search_59 : decode cX1_search 59 = .ok (.getfield 29, 3) := by decide +kernel
theorem dX1_search_62 : decode cX1_search 62 = .ok (.iload 6, 2) := by decide +kernel
theorem dX1_search_64 : decode cX1_search 64 = .ok (.iaload, 1) := by decide +kernel
theorem dX1_search_65 : decode cX1_search 65 = .ok (.if_icmp .lt 15, 3) := by decide +kernel
theorem dX1_search_68 : decode cX1_search 68 = .ok (.aload_n 0, 1) := by decide +kernel
theorem dX1_search_69 : decode cX1_search 69 = .ok (.iload 6, 2) := by decide +kernel
theorem dX1_search_71 : decode cX1_search 71 = .ok (.invokevirtual 153, 3) := by decide +kernel
theorem dX1_search_74 : decode cX1_search 74 = .ok (.iinc 6 (-1), 3) := by decide +kernel
theorem dX1_search_77 : decode cX1_search 77 = .ok (.goto 94, 3) := by decide +kernel
theorem dX1_search_80 : decode cX1_search 80 = .ok (.aload_n 0, 1) := by decide +kernel
theorem dX1_search_81 : decode cX1_search 81 = .ok (.getfield 39, 3) := by decide +kernel
theorem dX1_search_84 : decode cX1_search 84 = .ok (.iload 6, 2) := by decide +kernel
theorem dX1_search_86 : decode cX1_search 86 = .ok (.iaload, 1) := by decide +kernel
theorem dX1_search_87 : decode cX1_search 87 = .ok (.aload_n 0, 1) := by decide +kernel
theorem dX1_search_88 : decode cX1_search 88 = .ok (.iload 6, 2) := by decide +kernel
theorem dX1_search_90 : decode cX1_search 90 = .ok (.aload_n 0, 1) := by decide +kernel
theorem dX1_search_91 : decode cX1_search 91 = .ok (.getfield 36, 3) := by decide +kernel
theorem dX1_search_94 : decode cX1_search 94 = .ok (.iload 6, 2) := by decide +kernel
theorem dX1_search_96 : decode cX1_search 96 = .ok (.iaload, 1) := by decide +kernel
theorem dX1_search_97 : decode cX1_search 97 = .ok (.iload_n 3, 1) := by decide +kernel
theorem dX1_search_98 : decode cX1_search 98 = .ok (.invokevirtual 114, 3) := by decide +kernel
theorem dX1_search_101 : decode cX1_search 101 = .ok (.iadd, 1) := by decide +kernel
theorem dX1_search_102 : decode cX1_search 102 = .ok (.istore 8, 2) := by decide +kernel
theorem dX1_search_104 : decode cX1_search 104 = .ok (.iload 8, 2) := by decide +kernel
theorem dX1_search_106 : decode cX1_search 106 = .ok (.iload 5, 2) := by decide +kernel
theorem dX1_search_108 : decode cX1_search 108 = .ok (.if_icmp .lt 6, 3) := by decide +kernel
theorem dX1_search_111 : decode cX1_search 111 = .ok (.goto 60, 3) := by decide +kernel
theorem dX1_search_114 : decode cX1_search 114 = .ok (.aload_n 0, 1) := by decide +kernel
theorem dX1_search_115 : decode cX1_search 115 = .ok (.iload 6, 2) := by decide +kernel
theorem dX1_search_117 : decode cX1_search 117 = .ok (.aload_n 0, 1) := by decide +kernel
theorem dX1_search_118 : decode cX1_search 118 = .ok (.getfield 36, 3) := by decide +kernel
theorem dX1_search_121 : decode cX1_search 121 = .ok (.iload 6, 2) := by decide +kernel
theorem dX1_search_123 : decode cX1_search 123 = .ok (.iaload, 1) := by decide +kernel
theorem dX1_search_124 : decode cX1_search 124 = .ok (.iload_n 3, 1) := by decide +kernel
theorem dX1_search_125 : decode cX1_search 125 = .ok (.invokevirtual 121, 3) := by decide +kernel
theorem dX1_search_128 : decode cX1_search 128 = .ok (.iload 6, 2) := by decide +kernel
theorem dX1_search_130 : decode cX1_search 130 = .ok (.aload_n 1, 1) := by decide +kernel
theorem dX1_search_131 : decode cX1_search 131 = .ok (.getfield 87, 3) := by decide +kernel
theorem dX1_search_134 : decode cX1_search 134 = .ok (.iconst 1, 1) := by decide +kernel
theorem dX1_search_135 : decode cX1_search 135 = .ok (.isub, 1) := by decide +kernel
theorem dX1_search_136 : decode cX1_search 136 = .ok (.if_icmp .ge 20, 3) := by decide +kernel
theorem dX1_search_139 : decode cX1_search 139 = .ok (.iinc 6 1, 3) := by decide +kernel
theorem dX1_search_142 : decode cX1_search 142 = .ok (.aload_n 0, 1) := by decide +kernel
theorem dX1_search_143 : decode cX1_search 143 = .ok (.aload_n 1, 1) := by decide +kernel
theorem dX1_search_144 : decode cX1_search 144 = .ok (.aload_n 2, 1) := by decide +kernel
theorem dX1_search_145 : decode cX1_search 145 = .ok (.iload 6, 2) := by decide +kernel
theorem dX1_search_147 : decode cX1_search 147 = .ok (.iload 8, 2) := by decide +kernel
theorem dX1_search_149 : decode cX1_search 149 = .ok (.iload_n 3, 1) := by decide +kernel
theorem dX1_search_150 : decode cX1_search 150 = .ok (.invokevirtual 149, 3) := by decide +kernel
theorem dX1_search_153 : decode cX1_search 153 = .ok (.goto 18, 3) := by decide +kernel
theorem dX1_search_156 : decode cX1_search 156 = .ok (.iload 8, 2) := by decide +kernel
theorem dX1_search_158 : decode cX1_search 158 = .ok (.istore 5, 2) := by decide +kernel
theorem dX1_search_160 : decode cX1_search 160 = .ok (.aload_n 0, 1) := by decide +kernel
theorem dX1_search_161 : decode cX1_search 161 = .ok (.getfield 11, 3) := by decide +kernel
theorem dX1_search_164 : decode cX1_search 164 = .ok (.aload_n 0, 1) := by decide +kernel
theorem dX1_search_165 : decode cX1_search 165 = .ok (.getfield 19, 3) := by decide +kernel
theorem dX1_search_168 : decode cX1_search 168 = .ok (.invokestatic 75, 3) := by decide +kernel
theorem dX1_search_171 : decode cX1_search 171 = .ok (.iinc 7 1, 3) := by decide +kernel
theorem dX1_search_174 : decode cX1_search 174 = .ok (.goto (-151), 3) := by decide +kernel
theorem dX1_search_177 : decode cX1_search 177 = .ok (.iload 5, 2) := by decide +kernel
theorem dX1_search_179 : decode cX1_search 179 = .ok (.ireturn, 1) := by decide +kernel
theorem dX1_startPerson_0 : decode cX1_startPerson 0 = .ok (.aload_n 0, 1) := by decide +kernel
theorem dX1_startPerson_1 : decode cX1_startPerson 1 = .ok (.getfield 36, 3) := by decide +kernel
theorem dX1_startPerson_4 : decode cX1_startPerson 4 = .ok (.iload_n 3, 1) := by decide +kernel
theorem dX1_startPerson_5 : decode cX1_startPerson 5 = .ok (.iconst (-1), 1) := by decide +kernel
theorem dX1_startPerson_6 : decode cX1_startPerson 6 = .ok (.iastore, 1) := by decide +kernel
theorem dX1_startPerson_7 : decode cX1_startPerson 7 = .ok (.aload_n 0, 1) := by decide +kernel
theorem dX1_startPerson_8 : decode cX1_startPerson 8 = .ok (.getfield 39, 3) := by decide +kernel
theorem dX1_startPerson_11 : decode cX1_startPerson 11 = .ok (.iload_n 3, 1) := by decide +kernel
theorem dX1_startPerson_12 : decode cX1_startPerson 12 = .ok (.iload 4, 2) := by decide +kernel
theorem dX1_startPerson_14 : decode cX1_startPerson 14 = .ok (.iastore, 1) := by decide +kernel
theorem dX1_startPerson_15 : decode cX1_startPerson 15 = .ok (.iconst 0, 1) := by decide +kernel
theorem dX1_startPerson_16 : decode cX1_startPerson 16 = .ok (.istore 6, 2) := by decide +kernel
theorem dX1_startPerson_18 : decode cX1_startPerson 18 = .ok (.iload 6, 2) := by decide +kernel
theorem dX1_startPerson_20 : decode cX1_startPerson 20 = .ok (.iload 5, 2) := by decide +kernel
theorem dX1_startPerson_22 : decode cX1_startPerson 22 = .ok (.if_icmp .ge 68, 3) := by decide +kernel
theorem dX1_startPerson_25 : decode cX1_startPerson 25 = .ok (.iconst 0, 1) := by decide +kernel
theorem dX1_startPerson_26 : decode cX1_startPerson 26 = .ok (.istore 7, 2) := by decide +kernel
theorem dX1_startPerson_28 : decode cX1_startPerson 28 = .ok (.iload 7, 2) := by decide +kernel
theorem dX1_startPerson_30 : decode cX1_startPerson 30 = .ok (.aload_n 1, 1) := by decide +kernel
theorem dX1_startPerson_31 : decode cX1_startPerson 31 = .ok (.getfield 142, 3) := by decide +kernel
theorem dX1_startPerson_34 : decode cX1_startPerson 34 = .ok (.if_icmp .ge 50, 3) := by decide +kernel
theorem dX1_startPerson_37 : decode cX1_startPerson 37 = .ok (.aload_n 1, 1) := by decide +kernel
theorem dX1_startPerson_38 : decode cX1_startPerson 38 = .ok (.getfield 157, 3) := by decide +kernel
theorem dX1_startPerson_41 : decode cX1_startPerson 41 = .ok (.iload_n 3, 1) := by decide +kernel
theorem dX1_startPerson_42 : decode cX1_startPerson 42 = .ok (.aaload, 1) := by decide +kernel
theorem dX1_startPerson_43 : decode cX1_startPerson 43 = .ok (.iload 7, 2) := by decide +kernel
theorem dX1_startPerson_45 : decode cX1_startPerson 45 = .ok (.iaload, 1) := by decide +kernel
theorem dX1_startPerson_46 : decode cX1_startPerson 46 = .ok (.ifCond .le 32, 3) := by decide +kernel
theorem dX1_startPerson_49 : decode cX1_startPerson 49 = .ok (.aload_n 0, 1) := by decide +kernel
theorem dX1_startPerson_50 : decode cX1_startPerson 50 = .ok (.getfield 45, 3) := by decide +kernel
theorem dX1_startPerson_53 : decode cX1_startPerson 53 = .ok (.iload_n 3, 1) := by decide +kernel
theorem dX1_startPerson_54 : decode cX1_startPerson 54 = .ok (.aaload, 1) := by decide +kernel
theorem dX1_startPerson_55 : decode cX1_startPerson 55 = .ok (.iload 6, 2) := by decide +kernel
theorem dX1_startPerson_57 : decode cX1_startPerson 57 = .ok (.bipush 10, 2) := by decide +kernel
theorem dX1_startPerson_59 : decode cX1_startPerson 59 = .ok (.imul, 1) := by decide +kernel
theorem dX1_startPerson_60 : decode cX1_startPerson 60 = .ok (.iload 7, 2) := by decide +kernel
theorem dX1_startPerson_62 : decode cX1_startPerson 62 = .ok (.iadd, 1) := by decide +kernel
theorem dX1_startPerson_63 : decode cX1_startPerson 63 = .ok (.aload_n 2, 1) := by decide +kernel
theorem dX1_startPerson_64 : decode cX1_startPerson 64 = .ok (.aload_n 1, 1) := by decide +kernel
theorem dX1_startPerson_65 : decode cX1_startPerson 65 = .ok (.aload_n 0, 1) := by decide +kernel
theorem dX1_startPerson_66 : decode cX1_startPerson 66 = .ok (.getfield 11, 3) := by decide +kernel
theorem dX1_startPerson_69 : decode cX1_startPerson 69 = .ok (.iload 6, 2) := by decide +kernel
theorem dX1_startPerson_71 : decode cX1_startPerson 71 = .ok (.iload_n 3, 1) := by decide +kernel
theorem dX1_startPerson_72 : decode cX1_startPerson 72 = .ok (.iload 7, 2) := by decide +kernel
theorem dX1_startPerson_74 : decode cX1_startPerson 74 = .ok (.invokevirtual 160, 3) := by decide +kernel
theorem dX1_startPerson_77 : decode cX1_startPerson 77 = .ok (.iastore, 1) := by decide +kernel
theorem dX1_startPerson_78 : decode cX1_startPerson 78 = .ok (.iinc 7 1, 3) := by decide +kernel
theorem dX1_startPerson_81 : decode cX1_startPerson 81 = .ok (.goto (-53), 3) := by decide +kernel
theorem dX1_startPerson_84 : decode cX1_startPerson 84 = .ok (.iinc 6 1, 3) := by decide +kernel
theorem dX1_startPerson_87 : decode cX1_startPerson 87 = .ok (.goto (-69), 3) := by decide +kernel
theorem dX1_startPerson_90 : decode cX1_startPerson 90 = .ok (.return_, 1) := by decide +kernel
theorem dX1_copyDay_0 : decode cX1_copyDay 0 = .ok (.iconst 0, 1) := by decide +kernel
theorem dX1_copyDay_1 : decode cX1_copyDay 1 = .ok (.istore_n 2, 1) := by decide +kernel
theorem dX1_copyDay_2 : decode cX1_copyDay 2 = .ok (.iload_n 2, 1) := by decide +kernel
theorem dX1_copyDay_3 : decode cX1_copyDay 3 = .ok (.iconst 5, 1) := by decide +kernel
theorem dX1_copyDay_4 : decode cX1_copyDay 4 = .ok (.if_icmp .ge 21, 3) := by decide +kernel
theorem dX1_copyDay_7 : decode cX1_copyDay 7 = .ok (.aload_n 0, 1) := by decide +kernel
theorem dX1_copyDay_8 : decode cX1_copyDay 8 = .ok (.iload_n 2, 1) := by decide +kernel
theorem dX1_copyDay_9 : decode cX1_copyDay 9 = .ok (.aaload, 1) := by decide +kernel
theorem dX1_copyDay_10 : decode cX1_copyDay 10 = .ok (.iconst 0, 1) := by decide +kernel
theorem dX1_copyDay_11 : decode cX1_copyDay 11 = .ok (.aload_n 1, 1) := by decide +kernel
theorem dX1_copyDay_12 : decode cX1_copyDay 12 = .ok (.iload_n 2, 1) := by decide +kernel
theorem dX1_copyDay_13 : decode cX1_copyDay 13 = .ok (.aaload, 1) := by decide +kernel
theorem dX1_copyDay_14 : decode cX1_copyDay 14 = .ok (.iconst 0, 1) := by decide +kernel
theorem dX1_copyDay_15 : decode cX1_copyDay 15 = .ok (.iconst 5, 1) := by decide +kernel
theorem dX1_copyDay_16 : decode cX1_copyDay 16 = .ok (.invokestatic 164, 3) := by decide +kernel
theorem dX1_copyDay_19 : decode cX1_copyDay 19 = .ok (.iinc 2 1, 3) := by decide +kernel
theorem dX1_copyDay_22 : decode cX1_copyDay 22 = .ok (.goto (-20), 3) := by decide +kernel
theorem dX1_copyDay_25 : decode cX1_copyDay 25 = .ok (.return_, 1) := by decide +kernel
theorem dX1_clearDay_0 : decode cX1_clearDay 0 = .ok (.iconst 0, 1) := by decide +kernel
theorem dX1_clearDay_1 : decode cX1_clearDay 1 = .ok (.istore_n 1, 1) := by decide +kernel
theorem dX1_clearDay_2 : decode cX1_clearDay 2 = .ok (.iload_n 1, 1) := by decide +kernel
theorem dX1_clearDay_3 : decode cX1_clearDay 3 = .ok (.iconst 5, 1) := by decide +kernel
theorem dX1_clearDay_4 : decode cX1_clearDay 4 = .ok (.if_icmp .ge 14, 3) := by decide +kernel
theorem dX1_clearDay_7 : decode cX1_clearDay 7 = .ok (.aload_n 0, 1) := by decide +kernel
theorem dX1_clearDay_8 : decode cX1_clearDay 8 = .ok (.iload_n 1, 1) := by decide +kernel
theorem dX1_clearDay_9 : decode cX1_clearDay 9 = .ok (.invokevirtual 153, 3) := by decide +kernel
theorem dX1_clearDay_12 : decode cX1_clearDay 12 = .ok (.iinc 1 1, 3) := by decide +kernel
theorem dX1_clearDay_15 : decode cX1_clearDay 15 = .ok (.goto (-13), 3) := by decide +kernel
theorem dX1_clearDay_18 : decode cX1_clearDay 18 = .ok (.return_, 1) := by decide +kernel
theorem dX1_liftRow_0 : decode cX1_liftRow 0 = .ok (.iconst 0, 1) := by decide +kernel
theorem dX1_liftRow_1 : decode cX1_liftRow 1 = .ok (.istore_n 2, 1) := by decide +kernel
theorem dX1_liftRow_2 : decode cX1_liftRow 2 = .ok (.iload_n 2, 1) := by decide +kernel
theorem dX1_liftRow_3 : decode cX1_liftRow 3 = .ok (.iconst 5, 1) := by decide +kernel
theorem dX1_liftRow_4 : decode cX1_liftRow 4 = .ok (.if_icmp .ge 19, 3) := by decide +kernel
theorem dX1_liftRow_7 : decode cX1_liftRow 7 = .ok (.aload_n 0, 1) := by decide +kernel
theorem dX1_liftRow_8 : decode cX1_liftRow 8 = .ok (.getfield 11, 3) := by decide +kernel
theorem dX1_liftRow_11 : decode cX1_liftRow 11 = .ok (.iload_n 2, 1) := by decide +kernel
theorem dX1_liftRow_12 : decode cX1_liftRow 12 = .ok (.aaload, 1) := by decide +kernel
theorem dX1_liftRow_13 : decode cX1_liftRow 13 = .ok (.iload_n 1, 1) := by decide +kernel
theorem dX1_liftRow_14 : decode cX1_liftRow 14 = .ok (.bipush 9, 2) := by decide +kernel
theorem dX1_liftRow_16 : decode cX1_liftRow 16 = .ok (.iastore, 1) := by decide +kernel
theorem dX1_liftRow_17 : decode cX1_liftRow 17 = .ok (.iinc 2 1, 3) := by decide +kernel
theorem dX1_liftRow_20 : decode cX1_liftRow 20 = .ok (.goto (-18), 3) := by decide +kernel
theorem dX1_liftRow_23 : decode cX1_liftRow 23 = .ok (.return_, 1) := by decide +kernel
theorem dX1_layRow_0 : decode cX1_layRow 0 = .ok (.iconst 0, 1) := by decide +kernel
theorem dX1_layRow_1 : decode cX1_layRow 1 = .ok (.istore 4, 2) := by decide +kernel
theorem dX1_layRow_3 : decode cX1_layRow 3 = .ok (.iload 4, 2) := by decide +kernel
theorem dX1_layRow_5 : decode cX1_layRow 5 = .ok (.iload_n 3, 1) := by decide +kernel
theorem dX1_layRow_6 : decode cX1_layRow 6 = .ok (.if_icmp .ge 31, 3) := by decide +kernel
theorem dX1_layRow_9 : decode cX1_layRow 9 = .ok (.aload_n 0, 1) := by decide +kernel
theorem dX1_layRow_10 : decode cX1_layRow 10 = .ok (.getfield 11, 3) := by decide +kernel
theorem dX1_layRow_13 : decode cX1_layRow 13 = .ok (.iload 4, 2) := by decide +kernel
theorem dX1_layRow_15 : decode cX1_layRow 15 = .ok (.aaload, 1) := by decide +kernel
theorem dX1_layRow_16 : decode cX1_layRow 16 = .ok (.iload_n 1, 1) := by decide +kernel
theorem dX1_layRow_17 : decode cX1_layRow 17 = .ok (.aload_n 0, 1) := by decide +kernel
theorem dX1_layRow_18 : decode cX1_layRow 18 = .ok (.getfield 26, 3) := by decide +kernel
theorem dX1_layRow_21 : decode cX1_layRow 21 = .ok (.iload_n 1, 1) := by decide +kernel
theorem dX1_layRow_22 : decode cX1_layRow 22 = .ok (.aaload, 1) := by decide +kernel
theorem dX1_layRow_23 : decode cX1_layRow 23 = .ok (.iload_n 2, 1) := by decide +kernel
theorem dX1_layRow_24 : decode cX1_layRow 24 = .ok (.iconst 5, 1) := by decide +kernel
theorem dX1_layRow_25 : decode cX1_layRow 25 = .ok (.imul, 1) := by decide +kernel
theorem dX1_layRow_26 : decode cX1_layRow 26 = .ok (.iload 4, 2) := by decide +kernel
theorem dX1_layRow_28 : decode cX1_layRow 28 = .ok (.iadd, 1) := by decide +kernel
theorem dX1_layRow_29 : decode cX1_layRow 29 = .ok (.iaload, 1) := by decide +kernel
theorem dX1_layRow_30 : decode cX1_layRow 30 = .ok (.iastore, 1) := by decide +kernel
theorem dX1_layRow_31 : decode cX1_layRow 31 = .ok (.iinc 4 1, 3) := by decide +kernel
theorem dX1_layRow_34 : decode cX1_layRow 34 = .ok (.goto (-31), 3) := by decide +kernel
theorem dX1_layRow_37 : decode cX1_layRow 37 = .ok (.return_, 1) := by decide +kernel
theorem dX1_waysTogether_0 : decode cX1_waysTogether 0 = .ok (.lconst 1, 1) := by decide +kernel
theorem dX1_waysTogether_1 : decode cX1_waysTogether 1 = .ok (.lstore_n 2, 1) := by decide +kernel
theorem dX1_waysTogether_2 : decode cX1_waysTogether 2 = .ok (.iconst 0, 1) := by decide +kernel
theorem dX1_waysTogether_3 : decode cX1_waysTogether 3 = .ok (.istore 4, 2) := by decide +kernel
theorem dX1_waysTogether_5 : decode cX1_waysTogether 5 = .ok (.iload 4, 2) := by decide +kernel
theorem dX1_waysTogether_7 : decode cX1_waysTogether 7 = .ok (.aload_n 1, 1) := by decide +kernel
theorem dX1_waysTogether_8 : decode cX1_waysTogether 8 = .ok (.getfield 87, 3) := by decide +kernel
theorem dX1_waysTogether_11 : decode cX1_waysTogether 11 = .ok (.if_icmp .ge 20, 3) := by decide +kernel
theorem dX1_waysTogether_14 : decode cX1_waysTogether 14 = .ok (.lload_n 2, 1) := by decide +kernel
theorem dX1_waysTogether_15 : decode cX1_waysTogether 15 = .ok (.aload_n 0, 1) := by decide +kernel
theorem dX1_waysTogether_16 : decode cX1_waysTogether 16 = .ok (.getfield 29, 3) := by decide +kernel
theorem dX1_waysTogether_19 : decode cX1_waysTogether 19 = .ok (.iload 4, 2) := by decide +kernel
theorem dX1_waysTogether_21 : decode cX1_waysTogether 21 = .ok (.iaload, 1) := by decide +kernel
theorem dX1_waysTogether_22 : decode cX1_waysTogether 22 = .ok (.i2l, 1) := by decide +kernel
theorem dX1_waysTogether_23 : decode cX1_waysTogether 23 = .ok (.lmul, 1) := by decide +kernel
theorem dX1_waysTogether_24 : decode cX1_waysTogether 24 = .ok (.lstore_n 2, 1) := by decide +kernel
theorem dX1_waysTogether_25 : decode cX1_waysTogether 25 = .ok (.iinc 4 1, 3) := by decide +kernel
theorem dX1_waysTogether_28 : decode cX1_waysTogether 28 = .ok (.goto (-23), 3) := by decide +kernel
theorem dX1_waysTogether_31 : decode cX1_waysTogether 31 = .ok (.lload_n 2, 1) := by decide +kernel
theorem dX1_waysTogether_32 : decode cX1_waysTogether 32 = .ok (.lreturn, 1) := by decide +kernel
theorem dX1_writeRows_0 : decode cX1_writeRows 0 = .ok (.iconst 0, 1) := by decide +kernel
theorem dX1_writeRows_1 : decode cX1_writeRows 1 = .ok (.istore_n 3, 1) := by decide +kernel
theorem dX1_writeRows_2 : decode cX1_writeRows 2 = .ok (.iload_n 3, 1) := by decide +kernel
theorem dX1_writeRows_3 : decode cX1_writeRows 3 = .ok (.aload_n 1, 1) := by decide +kernel
theorem dX1_writeRows_4 : decode cX1_writeRows 4 = .ok (.getfield 87, 3) := by decide +kernel
theorem dX1_writeRows_7 : decode cX1_writeRows 7 = .ok (.if_icmp .ge 32, 3) := by decide +kernel
theorem dX1_writeRows_10 : decode cX1_writeRows 10 = .ok (.aload_n 0, 1) := by decide +kernel
theorem dX1_writeRows_11 : decode cX1_writeRows 11 = .ok (.getfield 29, 3) := by decide +kernel
theorem dX1_writeRows_14 : decode cX1_writeRows 14 = .ok (.iload_n 3, 1) := by decide +kernel
theorem dX1_writeRows_15 : decode cX1_writeRows 15 = .ok (.iconst 0, 1) := by decide +kernel
theorem dX1_writeRows_16 : decode cX1_writeRows 16 = .ok (.iastore, 1) := by decide +kernel
theorem dX1_writeRows_17 : decode cX1_writeRows 17 = .ok (.aload_n 1, 1) := by decide +kernel
theorem dX1_writeRows_18 : decode cX1_writeRows 18 = .ok (.iload_n 3, 1) := by decide +kernel
theorem dX1_writeRows_19 : decode cX1_writeRows 19 = .ok (.invokevirtual 170, 3) := by decide +kernel
theorem dX1_writeRows_22 : decode cX1_writeRows 22 = .ok (.iload_n 2, 1) := by decide +kernel
theorem dX1_writeRows_23 : decode cX1_writeRows 23 = .ok (.if_icmp .gt 10, 3) := by decide +kernel
theorem dX1_writeRows_26 : decode cX1_writeRows 26 = .ok (.aload_n 0, 1) := by decide +kernel
theorem dX1_writeRows_27 : decode cX1_writeRows 27 = .ok (.aload_n 1, 1) := by decide +kernel
theorem dX1_writeRows_28 : decode cX1_writeRows 28 = .ok (.iload_n 3, 1) := by decide +kernel
theorem dX1_writeRows_29 : decode cX1_writeRows 29 = .ok (.iload_n 2, 1) := by decide +kernel
theorem dX1_writeRows_30 : decode cX1_writeRows 30 = .ok (.invokevirtual 173, 3) := by decide +kernel
theorem dX1_writeRows_33 : decode cX1_writeRows 33 = .ok (.iinc 3 1, 3) := by decide +kernel
theorem dX1_writeRows_36 : decode cX1_writeRows 36 = .ok (.goto (-34), 3) := by decide +kernel
theorem dX1_writeRows_39 : decode cX1_writeRows 39 = .ok (.return_, 1) := by decide +kernel
theorem dX1_writeRowsOf_0 : decode cX1_writeRowsOf 0 = .ok (.aload_n 0, 1) := by decide +kernel
theorem dX1_writeRowsOf_1 : decode cX1_writeRowsOf 1 = .ok (.aload_n 1, 1) := by decide +kernel
theorem dX1_writeRowsOf_2 : decode cX1_writeRowsOf 2 = .ok (.iload_n 2, 1) := by decide +kernel
theorem dX1_writeRowsOf_3 : decode cX1_writeRowsOf 3 = .ok (.iload_n 3, 1) := by decide +kernel
theorem dX1_writeRowsOf_4 : decode cX1_writeRowsOf 4 = .ok (.invokevirtual 177, 3) := by decide +kernel
theorem dX1_writeRowsOf_7 : decode cX1_writeRowsOf 7 = .ok (.iconst 0, 1) := by decide +kernel
theorem dX1_writeRowsOf_8 : decode cX1_writeRowsOf 8 = .ok (.istore 4, 2) := by decide +kernel
theorem dX1_writeRowsOf_10 : decode cX1_writeRowsOf 10 = .ok (.iload 4, 2) := by decide +kernel
theorem dX1_writeRowsOf_12 : decode cX1_writeRowsOf 12 = .ok (.bipush 120, 2) := by decide +kernel
theorem dX1_writeRowsOf_14 : decode cX1_writeRowsOf 14 = .ok (.if_icmp .ge 50, 3) := by decide +kernel
theorem dX1_writeRowsOf_17 : decode cX1_writeRowsOf 17 = .ok (.aload_n 0, 1) := by decide +kernel
theorem dX1_writeRowsOf_18 : decode cX1_writeRowsOf 18 = .ok (.getfield 33, 3) := by decide +kernel
theorem dX1_writeRowsOf_21 : decode cX1_writeRowsOf 21 = .ok (.iconst 0, 1) := by decide +kernel
theorem dX1_writeRowsOf_22 : decode cX1_writeRowsOf 22 = .ok (.aload_n 0, 1) := by decide +kernel
theorem dX1_writeRowsOf_23 : decode cX1_writeRowsOf 23 = .ok (.getfield 26, 3) := by decide +kernel
theorem dX1_writeRowsOf_26 : decode cX1_writeRowsOf 26 = .ok (.iload_n 2, 1) := by decide +kernel
theorem dX1_writeRowsOf_27 : decode cX1_writeRowsOf 27 = .ok (.aaload, 1) := by decide +kernel
theorem dX1_writeRowsOf_28 : decode cX1_writeRowsOf 28 = .ok (.iload 4, 2) := by decide +kernel
theorem dX1_writeRowsOf_30 : decode cX1_writeRowsOf 30 = .ok (.iconst 5, 1) := by decide +kernel
theorem dX1_writeRowsOf_31 : decode cX1_writeRowsOf 31 = .ok (.imul, 1) := by decide +kernel
theorem dX1_writeRowsOf_32 : decode cX1_writeRowsOf 32 = .ok (.iload_n 3, 1) := by decide +kernel
theorem dX1_writeRowsOf_33 : decode cX1_writeRowsOf 33 = .ok (.invokestatic 164, 3) := by decide +kernel
theorem dX1_writeRowsOf_36 : decode cX1_writeRowsOf 36 = .ok (.aload_n 0, 1) := by decide +kernel
theorem dX1_writeRowsOf_37 : decode cX1_writeRowsOf 37 = .ok (.getfield 29, 3) := by decide +kernel
theorem dX1_writeRowsOf_40 : decode cX1_writeRowsOf 40 = .ok (.iload_n 2, 1) := by decide +kernel
theorem dX1_writeRowsOf_41 : decode cX1_writeRowsOf 41 = .ok (.dup2, 1) := by decide +kernel
theorem dX1_writeRowsOf_42 : decode cX1_writeRowsOf 42 = .ok (.iaload, 1) := by decide +kernel
theorem dX1_writeRowsOf_43 : decode cX1_writeRowsOf 43 = .ok (.iconst 1, 1) := by decide +kernel
theorem dX1_writeRowsOf_44 : decode cX1_writeRowsOf 44 = .ok (.iadd, 1) := by decide +kernel
theorem dX1_writeRowsOf_45 : decode cX1_writeRowsOf 45 = .ok (.iastore, 1) := by decide +kernel
theorem dX1_writeRowsOf_46 : decode cX1_writeRowsOf 46 = .ok (.aload_n 0, 1) := by decide +kernel
theorem dX1_writeRowsOf_47 : decode cX1_writeRowsOf 47 = .ok (.getfield 33, 3) := by decide +kernel
theorem dX1_writeRowsOf_50 : decode cX1_writeRowsOf 50 = .ok (.iload_n 3, 1) := by decide +kernel
theorem dX1_writeRowsOf_51 : decode cX1_writeRowsOf 51 = .ok (.invokestatic 90, 3) := by decide +kernel
theorem dX1_writeRowsOf_54 : decode cX1_writeRowsOf 54 = .ok (.ifCond .ne 4, 3) := by decide +kernel
theorem dX1_writeRowsOf_57 : decode cX1_writeRowsOf 57 = .ok (.return_, 1) := by decide +kernel
theorem dX1_writeRowsOf_58 : decode cX1_writeRowsOf 58 = .ok (.iinc 4 1, 3) := by decide +kernel
theorem dX1_writeRowsOf_61 : decode cX1_writeRowsOf 61 = .ok (.goto (-51), 3) := by decide +kernel
theorem dX1_writeRowsOf_64 : decode cX1_writeRowsOf 64 = .ok (.return_, 1) := by decide +kernel
theorem dX1_writeFirstRow_0 : decode cX1_writeFirstRow 0 = .ok (.aload_n 0, 1) := by decide +kernel
theorem dX1_writeFirstRow_1 : decode cX1_writeFirstRow 1 = .ok (.getfield 33, 3) := by decide +kernel
theorem dX1_writeFirstRow_4 : decode cX1_writeFirstRow 4 = .ok (.bipush 9, 2) := by decide +kernel
theorem dX1_writeFirstRow_6 : decode cX1_writeFirstRow 6 = .ok (.invokestatic 180, 3) := by decide +kernel
theorem dX1_writeFirstRow_9 : decode cX1_writeFirstRow 9 = .ok (.iconst 0, 1) := by decide +kernel
theorem dX1_writeFirstRow_10 : decode cX1_writeFirstRow 10 = .ok (.istore 4, 2) := by decide +kernel
theorem dX1_writeFirstRow_12 : decode cX1_writeFirstRow 12 = .ok (.iconst 0, 1) := by decide +kernel
theorem dX1_writeFirstRow_13 : decode cX1_writeFirstRow 13 = .ok (.istore 5, 2) := by decide +kernel
theorem dX1_writeFirstRow_15 : decode cX1_writeFirstRow 15 = .ok (.iload 5, 2) := by decide +kernel
theorem dX1_writeFirstRow_17 : decode cX1_writeFirstRow 17 = .ok (.aload_n 1, 1) := by decide +kernel
theorem dX1_writeFirstRow_18 : decode cX1_writeFirstRow 18 = .ok (.getfield 142, 3) := by decide +kernel
theorem dX1_writeFirstRow_21 : decode cX1_writeFirstRow 21 = .ok (.if_icmp .ge 50, 3) := by decide +kernel
theorem dX1_writeFirstRow_24 : decode cX1_writeFirstRow 24 = .ok (.iconst 0, 1) := by decide +kernel
theorem dX1_writeFirstRow_25 : decode cX1_writeFirstRow 25 = .ok (.istore 6, 2) := by decide +kernel
theorem dX1_writeFirstRow_27 : decode cX1_writeFirstRow 27 = .ok (.iload 6, 2) := by decide +kernel
theorem dX1_writeFirstRow_29 : decode cX1_writeFirstRow 29 = .ok (.aload_n 1, 1) := by decide +kernel
theorem dX1_writeFirstRow_30 : decode cX1_writeFirstRow 30 = .ok (.getfield 157, 3) := by decide +kernel
theorem dX1_writeFirstRow_33 : decode cX1_writeFirstRow 33 = .ok (.iload_n 2, 1) := by decide +kernel
theorem dX1_writeFirstRow_34 : decode cX1_writeFirstRow 34 = .ok (.aaload, 1) := by decide +kernel
theorem dX1_writeFirstRow_35 : decode cX1_writeFirstRow 35 = .ok (.iload 5, 2) := by decide +kernel
theorem dX1_writeFirstRow_37 : decode cX1_writeFirstRow 37 = .ok (.iaload, 1) := by decide +kernel
theorem dX1_writeFirstRow_38 : decode cX1_writeFirstRow 38 = .ok (.if_icmp .ge 27, 3) := by decide +kernel
theorem dX1_writeFirstRow_41 : decode cX1_writeFirstRow 41 = .ok (.iload 4, 2) := by decide +kernel
theorem dX1_writeFirstRow_43 : decode cX1_writeFirstRow 43 = .ok (.iload_n 3, 1) := by decide +kernel
theorem dX1_writeFirstRow_44 : decode cX1_writeFirstRow 44 = .ok (.if_icmp .ge 21, 3) := by decide +kernel
theorem dX1_writeFirstRow_47 : decode cX1_writeFirstRow 47 = .ok (.aload_n 0, 1) := by decide +kernel
theorem dX1_writeFirstRow_48 : decode cX1_writeFirstRow 48 = .ok (.getfield 33, 3) := by decide +kernel
theorem dX1_writeFirstRow_51 : decode cX1_writeFirstRow 51 = .ok (.iload 4, 2) := by decide +kernel
theorem dX1_writeFirstRow_53 : decode cX1_writeFirstRow 53 = .ok (.iload 5, 2) := by decide +kernel
theorem dX1_writeFirstRow_55 : decode cX1_writeFirstRow 55 = .ok (.iastore, 1) := by decide +kernel
theorem dX1_writeFirstRow_56 : decode cX1_writeFirstRow 56 = .ok (.iinc 4 1, 3) := by decide +kernel
theorem dX1_writeFirstRow_59 : decode cX1_writeFirstRow 59 = .ok (.iinc 6 1, 3) := by decide +kernel
theorem dX1_writeFirstRow_62 : decode cX1_writeFirstRow 62 = .ok (.goto (-35), 3) := by decide +kernel
theorem dX1_writeFirstRow_65 : decode cX1_writeFirstRow 65 = .ok (.iinc 5 1, 3) := by decide +kernel
theorem dX1_writeFirstRow_68 : decode cX1_writeFirstRow 68 = .ok (.goto (-53), 3) := by decide +kernel
theorem dX1_writeFirstRow_71 : decode cX1_writeFirstRow 71 = .ok (.return_, 1) := by decide +kernel
theorem dX2_init_0 : decode cX2_init 0 = .ok (.aload_n 0, 1) := by decide +kernel
theorem dX2_init_1 : decode cX2_init 1 = .ok (.invokespecial 3, 3) := by decide +kernel
theorem dX2_init_4 : decode cX2_init 4 = .ok (.aload_n 0, 1) := by decide +kernel
theorem dX2_init_5 : decode cX2_init 5 = .ok (.iconst 5, 1) := by decide +kernel
theorem dX2_init_6 : decode cX2_init 6 = .ok (.newarray .int, 2) := by decide +kernel
theorem dX2_init_8 : decode cX2_init 8 = .ok (.putfield 9, 3) := by decide +kernel
theorem dX2_init_11 : decode cX2_init 11 = .ok (.aload_n 0, 1) := by decide +kernel
theorem dX2_init_12 : decode cX2_init 12 = .ok (.iconst 5, 1) := by decide +kernel
theorem dX2_init_13 : decode cX2_init 13 = .ok (.newarray .int, 2) := by decide +kernel
theorem dX2_init_15 : decode cX2_init 15 = .ok (.putfield 15, 3) := by decide +kernel
theorem dX2_init_18 : decode cX2_init 18 = .ok (.aload_n 0, 1) := by decide +kernel
theorem dX2_init_19 : decode cX2_init 19 = .ok (.iconst 5, 1) := by decide +kernel
theorem dX2_init_20 : decode cX2_init 20 = .ok (.newarray .int, 2) := by decide +kernel
theorem dX2_init_22 : decode cX2_init 22 = .ok (.putfield 18, 3) := by decide +kernel
theorem dX2_init_25 : decode cX2_init 25 = .ok (.aload_n 0, 1) := by decide +kernel
theorem dX2_init_26 : decode cX2_init 26 = .ok (.iconst (-1), 1) := by decide +kernel
theorem dX2_init_27 : decode cX2_init 27 = .ok (.putfield 21, 3) := by decide +kernel
theorem dX2_init_30 : decode cX2_init 30 = .ok (.return_, 1) := by decide +kernel
theorem dX2_findWays_0 : decode cX2_findWays 0 = .ok (.aload_n 0, 1) := by decide +kernel
theorem dX2_findWays_1 : decode cX2_findWays 1 = .ok (.getfield 21, 3) := by decide +kernel
theorem dX2_findWays_4 : decode cX2_findWays 4 = .ok (.iload 4, 2) := by decide +kernel
theorem dX2_findWays_6 : decode cX2_findWays 6 = .ok (.if_icmp .ne 12, 3) := by decide +kernel
theorem dX2_findWays_9 : decode cX2_findWays 9 = .ok (.aload_n 0, 1) := by decide +kernel
theorem dX2_findWays_10 : decode cX2_findWays 10 = .ok (.getfield 25, 3) := by decide +kernel
theorem dX2_findWays_13 : decode cX2_findWays 13 = .ok (.iload_n 3, 1) := by decide +kernel
theorem dX2_findWays_14 : decode cX2_findWays 14 = .ok (.if_icmp .ne 4, 3) := by decide +kernel
theorem dX2_findWays_17 : decode cX2_findWays 17 = .ok (.return_, 1) := by decide +kernel
theorem dX2_findWays_18 : decode cX2_findWays 18 = .ok (.aload_n 0, 1) := by decide +kernel
theorem dX2_findWays_19 : decode cX2_findWays 19 = .ok (.iload 4, 2) := by decide +kernel
theorem dX2_findWays_21 : decode cX2_findWays 21 = .ok (.putfield 21, 3) := by decide +kernel
theorem dX2_findWays_24 : decode cX2_findWays 24 = .ok (.aload_n 0, 1) := by decide +kernel
theorem dX2_findWays_25 : decode cX2_findWays 25 = .ok (.iload_n 3, 1) := by decide +kernel
theorem dX2_findWays_26 : decode cX2_findWays 26 = .ok (.putfield 25, 3) := by decide +kernel
theorem dX2_findWays_29 : decode cX2_findWays 29 = .ok (.aload_n 0, 1) := by decide +kernel
theorem dX2_findWays_30 : decode cX2_findWays 30 = .ok (.iconst 0, 1) := by decide +kernel
theorem dX2_findWays_31 : decode cX2_findWays 31 = .ok (.putfield 28, 3) := by decide +kernel
theorem dX2_findWays_34 : decode cX2_findWays 34 = .ok (.iconst 0, 1) := by decide +kernel
theorem dX2_findWays_35 : decode cX2_findWays 35 = .ok (.istore 5, 2) := by decide +kernel
theorem dX2_findWays_37 : decode cX2_findWays 37 = .ok (.aload_n 0, 1) := by decide +kernel
theorem dX2_findWays_38 : decode cX2_findWays 38 = .ok (.getfield 15, 3) := by decide +kernel
theorem dX2_findWays_41 : decode cX2_findWays 41 = .ok (.bipush 9, 2) := by decide +kernel
theorem dX2_findWays_43 : decode cX2_findWays 43 = .ok (.invokestatic 31, 3) := by decide +kernel
theorem dX2_findWays_46 : decode cX2_findWays 46 = .ok (.aload_n 0, 1) := by decide +kernel
theorem dX2_findWays_47 : decode cX2_findWays 47 = .ok (.getfield 18, 3) := by decide +kernel
theorem dX2_findWays_50 : decode cX2_findWays 50 = .ok (.iconst 0, 1) := by decide +kernel
theorem dX2_findWays_51 : decode cX2_findWays 51 = .ok (.iconst (-1), 1) := by decide +kernel
theorem dX2_findWays_52 : decode cX2_findWays 52 = .ok (.iastore, 1) := by decide +kernel
theorem dX2_findWays_53 : decode cX2_findWays 53 = .ok (.iconst 0, 1) := by decide +kernel
theorem dX2_findWays_54 : decode cX2_findWays 54 = .ok (.istore 6, 2) := by decide +kernel
theorem dX2_findWays_56 : decode cX2_findWays 56 = .ok (.iload 6, 2) := by decide +kernel
theorem dX2_findWays_58 : decode cX2_findWays 58 = .ok (.ldc 37, 2) := by decide +kernel
theorem dX2_findWays_60 : decode cX2_findWays 60 = .ok (.if_icmp .ge 131, 3) := by decide +kernel
theorem dX2_findWays_63 : decode cX2_findWays 63 = .ok (.iload 5, 2) := by decide +kernel
theorem dX2_findWays_65 : decode cX2_findWays 65 = .ok (.ifCond .lt 126, 3) := by decide +kernel
theorem dX2_findWays_68 : decode cX2_findWays 68 = .ok (.aload_n 0, 1) := by decide +kernel
theorem dX2_findWays_69 : decode cX2_findWays 69 = .ok (.getfield 18, 3) := by decide +kernel
theorem dX2_findWays_72 : decode cX2_findWays 72 = .ok (.iload 5, 2) := by decide +kernel
theorem dX2_findWays_74 : decode cX2_findWays 74 = .ok (.dup2, 1) := by decide +kernel
theorem dX2_findWays_75 : decode cX2_findWays 75 = .ok (.iaload, 1) := by decide +kernel
theorem dX2_findWays_76 : decode cX2_findWays 76 = .ok (.iconst 1, 1) := by decide +kernel
theorem dX2_findWays_77 : decode cX2_findWays 77 = .ok (.iadd, 1) := by decide +kernel
theorem dX2_findWays_78 : decode cX2_findWays 78 = .ok (.iastore, 1) := by decide +kernel
theorem dX2_findWays_79 : decode cX2_findWays 79 = .ok (.aload_n 0, 1) := by decide +kernel
theorem dX2_findWays_80 : decode cX2_findWays 80 = .ok (.getfield 18, 3) := by decide +kernel
theorem dX2_findWays_83 : decode cX2_findWays 83 = .ok (.iload 5, 2) := by decide +kernel
theorem dX2_findWays_85 : decode cX2_findWays 85 = .ok (.iaload, 1) := by decide +kernel
theorem dX2_findWays_86 : decode cX2_findWays 86 = .ok (.aload_n 1, 1) := by decide +kernel
theorem dX2_findWays_87 : decode cX2_findWays 87 = .ok (.getfield 38, 3) := by decide +kernel
theorem dX2_findWays_90 : decode cX2_findWays 90 = .ok (.if_icmp .le 18, 3) := by decide +kernel
theorem dX2_findWays_93 : decode cX2_findWays 93 = .ok (.aload_n 0, 1) := by decide +kernel
theorem dX2_findWays_94 : decode cX2_findWays 94 = .ok (.getfield 15, 3) := by decide +kernel
theorem dX2_findWays_97 : decode cX2_findWays 97 = .ok (.iload 5, 2) := by decide +kernel
theorem dX2_findWays_99 : decode cX2_findWays 99 = .ok (.bipush 9, 2) := by decide +kernel
theorem dX2_findWays_101 : decode cX2_findWays 101 = .ok (.iastore, 1) := by decide +kernel
theorem dX2_findWays_102 : decode cX2_findWays 102 = .ok (.iinc 5 (-1), 3) := by decide +kernel
theorem dX2_findWays_105 : decode cX2_findWays 105 = .ok (.goto 80, 3) := by decide +kernel
theorem dX2_findWays_108 : decode cX2_findWays 108 = .ok (.aload_n 0, 1) := by decide +kernel
theorem dX2_findWays_109 : decode cX2_findWays 109 = .ok (.getfield 15, 3) := by decide +kernel
theorem dX2_findWays_112 : decode cX2_findWays 112 = .ok (.iload 5, 2) := by decide +kernel
theorem dX2_findWays_114 : decode cX2_findWays 114 = .ok (.aload_n 0, 1) := by decide +kernel
theorem dX2_findWays_115 : decode cX2_findWays 115 = .ok (.getfield 18, 3) := by decide +kernel
theorem dX2_findWays_118 : decode cX2_findWays 118 = .ok (.iload 5, 2) := by decide +kernel
theorem dX2_findWays_120 : decode cX2_findWays 120 = .ok (.iaload, 1) := by decide +kernel
theorem dX2_findWays_121 : decode cX2_findWays 121 = .ok (.aload_n 1, 1) := by decide +kernel
theorem dX2_findWays_122 : decode cX2_findWays 122 = .ok (.getfield 38, 3) := by decide +kernel
theorem dX2_findWays_125 : decode cX2_findWays 125 = .ok (.if_icmp .ne 8, 3) := by decide +kernel
theorem dX2_findWays_128 : decode cX2_findWays 128 = .ok (.bipush 9, 2) := by decide +kernel
theorem dX2_findWays_130 : decode cX2_findWays 130 = .ok (.goto 10, 3) := by decide +kernel
theorem dX2_findWays_133 : decode cX2_findWays 133 = .ok (.aload_n 0, 1) := by decide +kernel
theorem dX2_findWays_134 : decode cX2_findWays 134 = .ok (.getfield 18, 3) := by decide +kernel
theorem dX2_findWays_137 : decode cX2_findWays 137 = .ok (.iload 5, 2) := by decide +kernel
theorem dX2_findWays_139 : decode cX2_findWays 139 = .ok (.iaload, 1) := by decide +kernel
theorem dX2_findWays_140 : decode cX2_findWays 140 = .ok (.iastore, 1) := by decide +kernel
theorem dX2_findWays_141 : decode cX2_findWays 141 = .ok (.aload_n 0, 1) := by decide +kernel
theorem dX2_findWays_142 : decode cX2_findWays 142 = .ok (.aload_n 1, 1) := by decide +kernel
theorem dX2_findWays_143 : decode cX2_findWays 143 = .ok (.aload_n 2, 1) := by decide +kernel
theorem dX2_findWays_144 : decode cX2_findWays 144 = .ok (.iload_n 3, 1) := by decide +kernel
theorem dX2_findWays_145 : decode cX2_findWays 145 = .ok (.iload 5, 2) := by decide +kernel
theorem dX2_findWays_147 : decode cX2_findWays 147 = .ok (.invokevirtual 43, 3) := by decide +kernel
theorem dX2_findWays_150 : decode cX2_findWays 150 = .ok (.ifCond .ne 6, 3) := by decide +kernel
theorem dX2_findWays_153 : decode cX2_findWays 153 = .ok (.goto 32, 3) := by decide +kernel
theorem dX2_findWays_156 : decode cX2_findWays 156 = .ok (.iload 5, 2) := by decide +kernel
theorem dX2_findWays_158 : decode cX2_findWays 158 = .ok (.aload_n 1, 1) := by decide +kernel
theorem dX2_findWays_159 : decode cX2_findWays 159 = .ok (.getfield 47, 3) := by decide +kernel
theorem dX2_findWays_162 : decode cX2_findWays 162 = .ok (.iconst 1, 1) := by decide +kernel
theorem dX2_findWays_163 : decode cX2_findWays 163 = .ok (.isub, 1) := by decide +kernel
theorem dX2_findWays_164 : decode cX2_findWays 164 = .ok (.if_icmp .ge 17, 3) := by decide +kernel
theorem dX2_findWays_167 : decode cX2_findWays 167 = .ok (.iinc 5 1, 3) := by decide +kernel
theorem dX2_findWays_170 : decode cX2_findWays 170 = .ok (.aload_n 0, 1) := by decide +kernel
theorem dX2_findWays_171 : decode cX2_findWays 171 = .ok (.getfield 18, 3) := by decide +kernel
theorem dX2_findWays_174 : decode cX2_findWays 174 = .ok (.iload 5, 2) := by decide +kernel
theorem dX2_findWays_176 : decode cX2_findWays 176 = .ok (.iconst (-1), 1) := by decide +kernel
theorem dX2_findWays_177 : decode cX2_findWays 177 = .ok (.iastore, 1) := by decide +kernel
theorem dX2_findWays_178 : decode cX2_findWays 178 = .ok (.goto 7, 3) := by decide +kernel
theorem dX2_findWays_181 : decode cX2_findWays 181 = .ok (.aload_n 0, 1) := by decide +kernel
theorem dX2_findWays_182 : decode cX2_findWays 182 = .ok (.invokevirtual 50, 3) := by decide +kernel
theorem dX2_findWays_185 : decode cX2_findWays 185 = .ok (.iinc 6 1, 3) := by decide +kernel
theorem dX2_findWays_188 : decode cX2_findWays 188 = .ok (.goto (-132), 3) := by decide +kernel
theorem dX2_findWays_191 : decode cX2_findWays 191 = .ok (.return_, 1) := by decide +kernel
theorem dX2_mayHavePaid_0 : decode cX2_mayHavePaid 0 = .ok (.aload_n 1, 1) := by decide +kernel
theorem dX2_mayHavePaid_1 : decode cX2_mayHavePaid 1 = .ok (.iload_n 3, 1) := by decide +kernel
theorem dX2_mayHavePaid_2 : decode cX2_mayHavePaid 2 = .ok (.invokevirtual 53, 3) := by decide +kernel
theorem dX2_mayHavePaid_5 : decode cX2_mayHavePaid 5 = .ok (.istore 5, 2) := by decide +kernel
theorem dX2_mayHavePaid_7 : decode cX2_mayHavePaid 7 = .ok (.aload_n 2, 1) := by decide +kernel
theorem dX2_mayHavePaid_8 : decode cX2_mayHavePaid 8 = .ok (.aload_n 1, 1) := by decide +kernel
theorem dX2_mayHavePaid_9 : decode cX2_mayHavePaid 9 = .ok (.getfield 57, 3) := by decide +kernel
theorem dX2_mayHavePaid_12 : decode cX2_mayHavePaid 12 = .ok (.iload_n 3, 1) := by decide +kernel
theorem dX2_mayHavePaid_13 : decode cX2_mayHavePaid 13 = .ok (.invokevirtual 61, 3) := by decide +kernel
theorem dX2_mayHavePaid_16 : decode cX2_mayHavePaid 16 = .ok (.astore 6, 2) := by decide +kernel
theorem dX2_mayHavePaid_18 : decode cX2_mayHavePaid 18 = .ok (.aload_n 1, 1) := by decide +kernel
theorem dX2_mayHavePaid_19 : decode cX2_mayHavePaid 19 = .ok (.getfield 47, 3) := by decide +kernel
theorem dX2_mayHavePaid_22 : decode cX2_mayHavePaid 22 = .ok (.iconst 1, 1) := by decide +kernel
theorem dX2_mayHavePaid_23 : decode cX2_mayHavePaid 23 = .ok (.isub, 1) := by decide +kernel
theorem dX2_mayHavePaid_24 : decode cX2_mayHavePaid 24 = .ok (.iload 4, 2) := by decide +kernel
theorem dX2_mayHavePaid_26 : decode cX2_mayHavePaid 26 = .ok (.isub, 1) := by decide +kernel
theorem dX2_mayHavePaid_27 : decode cX2_mayHavePaid 27 = .ok (.istore 7, 2) := by decide +kernel
theorem dX2_mayHavePaid_29 : decode cX2_mayHavePaid 29 = .ok (.iload 5, 2) := by decide +kernel
theorem dX2_mayHavePaid_31 : decode cX2_mayHavePaid 31 = .ok (.iconst 2, 1) := by decide +kernel
theorem dX2_mayHavePaid_32 : decode cX2_mayHavePaid 32 = .ok (.if_icmp .ne 12, 3) := by decide +kernel
theorem dX2_mayHavePaid_35 : decode cX2_mayHavePaid 35 = .ok (.iload 7, 2) := by decide +kernel
theorem dX2_mayHavePaid_37 : decode cX2_mayHavePaid 37 = .ok (.ifCond .le 7, 3) := by decide +kernel
theorem dX2_mayHavePaid_40 : decode cX2_mayHavePaid 40 = .ok (.iconst 1, 1) := by decide +kernel
theorem dX2_mayHavePaid_41 : decode cX2_mayHavePaid 41 = .ok (.goto 4, 3) := by decide +kernel
theorem dX2_mayHavePaid_44 : decode cX2_mayHavePaid 44 = .ok (.iconst 0, 1) := by decide +kernel
theorem dX2_mayHavePaid_45 : decode cX2_mayHavePaid 45 = .ok (.istore 8, 2) := by decide +kernel
theorem dX2_mayHavePaid_47 : decode cX2_mayHavePaid 47 = .ok (.iconst 0, 1) := by decide +kernel
theorem dX2_mayHavePaid_48 : decode cX2_mayHavePaid 48 = .ok (.istore 9, 2) := by decide +kernel
theorem dX2_mayHavePaid_50 : decode cX2_mayHavePaid 50 = .ok (.iload 9, 2) := by decide +kernel
theorem dX2_mayHavePaid_52 : decode cX2_mayHavePaid 52 = .ok (.iload 4, 2) := by decide +kernel
theorem dX2_mayHavePaid_54 : decode cX2_mayHavePaid 54 = .ok (.if_icmp .gt 77, 3) := by decide +kernel
theorem dX2_mayHavePaid_57 : decode cX2_mayHavePaid 57 = .ok (.aload_n 2, 1) := by decide +kernel
theorem dX2_mayHavePaid_58 : decode cX2_mayHavePaid 58 = .ok (.iload 5, 2) := by decide +kernel
theorem dX2_mayHavePaid_60 : decode cX2_mayHavePaid 60 = .ok (.aload_n 0, 1) := by decide +kernel
theorem dX2_mayHavePaid_61 : decode cX2_mayHavePaid 61 = .ok (.getfield 15, 3) := by decide +kernel
theorem dX2_mayHavePaid_64 : decode cX2_mayHavePaid 64 = .ok (.aload 6, 2) := by decide +kernel
theorem dX2_mayHavePaid_66 : decode cX2_mayHavePaid 66 = .ok (.iload 9, 2) := by decide +kernel
theorem dX2_mayHavePaid_68 : decode cX2_mayHavePaid 68 = .ok (.aload_n 0, 1) := by decide +kernel
theorem dX2_mayHavePaid_69 : decode cX2_mayHavePaid 69 = .ok (.getfield 15, 3) := by decide +kernel
theorem dX2_mayHavePaid_72 : decode cX2_mayHavePaid 72 = .ok (.iload 9, 2) := by decide +kernel
theorem dX2_mayHavePaid_74 : decode cX2_mayHavePaid 74 = .ok (.iaload, 1) := by decide +kernel
theorem dX2_mayHavePaid_75 : decode cX2_mayHavePaid 75 = .ok (.invokevirtual 67, 3) := by decide +kernel
theorem dX2_mayHavePaid_78 : decode cX2_mayHavePaid 78 = .ok (.istore 10, 2) := by decide +kernel
theorem dX2_mayHavePaid_80 : decode cX2_mayHavePaid 80 = .ok (.iload 10, 2) := by decide +kernel
theorem dX2_mayHavePaid_82 : decode cX2_mayHavePaid 82 = .ok (.iload 7, 2) := by decide +kernel
theorem dX2_mayHavePaid_84 : decode cX2_mayHavePaid 84 = .ok (.getstatic 71, 3) := by decide +kernel
theorem dX2_mayHavePaid_87 : decode cX2_mayHavePaid 87 = .ok (.iload 5, 2) := by decide +kernel
theorem dX2_mayHavePaid_89 : decode cX2_mayHavePaid 89 = .ok (.iaload, 1) := by decide +kernel
theorem dX2_mayHavePaid_90 : decode cX2_mayHavePaid 90 = .ok (.imul, 1) := by decide +kernel
theorem dX2_mayHavePaid_91 : decode cX2_mayHavePaid 91 = .ok (.iadd, 1) := by decide +kernel
theorem dX2_mayHavePaid_92 : decode cX2_mayHavePaid 92 = .ok (.istore 11, 2) := by decide +kernel
theorem dX2_mayHavePaid_94 : decode cX2_mayHavePaid 94 = .ok (.aload_n 1, 1) := by decide +kernel
theorem dX2_mayHavePaid_95 : decode cX2_mayHavePaid 95 = .ok (.getfield 74, 3) := by decide +kernel
theorem dX2_mayHavePaid_98 : decode cX2_mayHavePaid 98 = .ok (.iload 9, 2) := by decide +kernel
theorem dX2_mayHavePaid_100 : decode cX2_mayHavePaid 100 = .ok (.iaload, 1) := by decide +kernel
theorem dX2_mayHavePaid_101 : decode cX2_mayHavePaid 101 = .ok (.iload 11, 2) := by decide +kernel
theorem dX2_mayHavePaid_103 : decode cX2_mayHavePaid 103 = .ok (.if_icmp .gt 20, 3) := by decide +kernel
theorem dX2_mayHavePaid_106 : decode cX2_mayHavePaid 106 = .ok (.aload_n 1, 1) := by decide +kernel
theorem dX2_mayHavePaid_107 : decode cX2_mayHavePaid 107 = .ok (.getfield 74, 3) := by decide +kernel
theorem dX2_mayHavePaid_110 : decode cX2_mayHavePaid 110 = .ok (.iload 9, 2) := by decide +kernel
theorem dX2_mayHavePaid_112 : decode cX2_mayHavePaid 112 = .ok (.iaload, 1) := by decide +kernel
theorem dX2_mayHavePaid_113 : decode cX2_mayHavePaid 113 = .ok (.iload 10, 2) := by decide +kernel
theorem dX2_mayHavePaid_115 : decode cX2_mayHavePaid 115 = .ok (.if_icmp .ge 10, 3) := by decide +kernel
theorem dX2_mayHavePaid_118 : decode cX2_mayHavePaid 118 = .ok (.iload 8, 2) := by decide +kernel
theorem dX2_mayHavePaid_120 : decode cX2_mayHavePaid 120 = .ok (.ifCond .ne 5, 3) := by decide +kernel
theorem dX2_mayHavePaid_123 : decode cX2_mayHavePaid 123 = .ok (.iconst 0, 1) := by decide +kernel
theorem dX2_mayHavePaid_124 : decode cX2_mayHavePaid 124 = .ok (.ireturn, 1) := by decide +kernel
theorem dX2_mayHavePaid_125 : decode cX2_mayHavePaid 125 = .ok (.iinc 9 1, 3) := by decide +kernel
theorem dX2_mayHavePaid_128 : decode cX2_mayHavePaid 128 = .ok (.goto (-78), 3) := by decide +kernel
theorem dX2_mayHavePaid_131 : decode cX2_mayHavePaid 131 = .ok (.iconst 1, 1) := by decide +kernel
theorem dX2_mayHavePaid_132 : decode cX2_mayHavePaid 132 = .ok (.ireturn, 1) := by decide +kernel
theorem dX2_countWay_0 : decode cX2_countWay 0 = .ok (.aload_n 0, 1) := by decide +kernel
theorem dX2_countWay_1 : decode cX2_countWay 1 = .ok (.getfield 28, 3) := by decide +kernel
theorem dX2_countWay_4 : decode cX2_countWay 4 = .ok (.ifCond .ne 17, 3) := by decide +kernel
theorem dX2_countWay_7 : decode cX2_countWay 7 = .ok (.aload_n 0, 1) := by decide +kernel
theorem dX2_countWay_8 : decode cX2_countWay 8 = .ok (.getfield 15, 3) := by decide +kernel
theorem dX2_countWay_11 : decode cX2_countWay 11 = .ok (.iconst 0, 1) := by decide +kernel
theorem dX2_countWay_12 : decode cX2_countWay 12 = .ok (.aload_n 0, 1) := by decide +kernel
theorem dX2_countWay_13 : decode cX2_countWay 13 = .ok (.getfield 9, 3) := by decide +kernel
theorem dX2_countWay_16 : decode cX2_countWay 16 = .ok (.iconst 0, 1) := by decide +kernel
theorem dX2_countWay_17 : decode cX2_countWay 17 = .ok (.iconst 5, 1) := by decide +kernel
theorem dX2_countWay_18 : decode cX2_countWay 18 = .ok (.invokestatic 77, 3) := by decide +kernel
theorem dX2_countWay_21 : decode cX2_countWay 21 = .ok (.aload_n 0, 1) := by decide +kernel
theorem dX2_countWay_22 : decode cX2_countWay 22 = .ok (.dup, 1) := by decide +kernel
theorem dX2_countWay_23 : decode cX2_countWay 23 = .ok (.getfield 28, 3) := by decide +kernel
theorem dX2_countWay_26 : decode cX2_countWay 26 = .ok (.iconst 1, 1) := by decide +kernel
theorem dX2_countWay_27 : decode cX2_countWay 27 = .ok (.iadd, 1) := by decide +kernel
theorem dX2_countWay_28 : decode cX2_countWay 28 = .ok (.putfield 28, 3) := by decide +kernel
theorem dX2_countWay_31 : decode cX2_countWay 31 = .ok (.return_, 1) := by decide +kernel
theorem dX3_init_0 : decode cX3_init 0 = .ok (.aload_n 0, 1) := by decide +kernel
theorem dX3_init_1 : decode cX3_init 1 = .ok (.invokespecial 3, 3) := by decide +kernel
theorem dX3_init_4 : decode cX3_init 4 = .ok (.aload_n 0, 1) := by decide +kernel
theorem dX3_init_5 : decode cX3_init 5 = .ok (.sipush 250, 3) := by decide +kernel
theorem dX3_init_8 : decode cX3_init 8 = .ok (.newarray .byte, 2) := by decide +kernel
theorem dX3_init_10 : decode cX3_init 10 = .ok (.putfield 9, 3) := by decide +kernel
theorem dX3_init_13 : decode cX3_init 13 = .ok (.return_, 1) := by decide +kernel
theorem dX3_append_0 : decode cX3_append 0 = .ok (.aload_n 0, 1) := by decide +kernel
theorem dX3_append_1 : decode cX3_append 1 = .ok (.getfield 15, 3) := by decide +kernel
theorem dX3_append_4 : decode cX3_append 4 = .ok (.sipush 250, 3) := by decide +kernel
theorem dX3_append_7 : decode cX3_append 7 = .ok (.if_icmp .ge 23, 3) := by decide +kernel
theorem dX3_append_10 : decode cX3_append 10 = .ok (.aload_n 0, 1) := by decide +kernel
theorem dX3_append_11 : decode cX3_append 11 = .ok (.getfield 9, 3) := by decide +kernel
theorem dX3_append_14 : decode cX3_append 14 = .ok (.aload_n 0, 1) := by decide +kernel
theorem dX3_append_15 : decode cX3_append 15 = .ok (.getfield 15, 3) := by decide +kernel
theorem dX3_append_18 : decode cX3_append 18 = .ok (.iload_n 1, 1) := by decide +kernel
theorem dX3_append_19 : decode cX3_append 19 = .ok (.bastore, 1) := by decide +kernel
theorem dX3_append_20 : decode cX3_append 20 = .ok (.aload_n 0, 1) := by decide +kernel
theorem dX3_append_21 : decode cX3_append 21 = .ok (.dup, 1) := by decide +kernel
theorem dX3_append_22 : decode cX3_append 22 = .ok (.getfield 15, 3) := by decide +kernel
theorem dX3_append_25 : decode cX3_append 25 = .ok (.iconst 1, 1) := by decide +kernel
theorem dX3_append_26 : decode cX3_append 26 = .ok (.iadd, 1) := by decide +kernel
theorem dX3_append_27 : decode cX3_append 27 = .ok (.putfield 15, 3) := by decide +kernel
theorem dX3_append_30 : decode cX3_append 30 = .ok (.return_, 1) := by decide +kernel
theorem dX3_readInto_0 : decode cX3_readInto 0 = .ok (.aload_n 1, 1) := by decide +kernel
theorem dX3_readInto_1 : decode cX3_readInto 1 = .ok (.invokevirtual 19, 3) := by decide +kernel
theorem dX3_readInto_4 : decode cX3_readInto 4 = .ok (.aload_n 0, 1) := by decide +kernel
theorem dX3_readInto_5 : decode cX3_readInto 5 = .ok (.iconst 0, 1) := by decide +kernel
theorem dX3_readInto_6 : decode cX3_readInto 6 = .ok (.putfield 24, 3) := by decide +kernel
theorem dX3_readInto_9 : decode cX3_readInto 9 = .ok (.aload_n 0, 1) := by decide +kernel
theorem dX3_readInto_10 : decode cX3_readInto 10 = .ok (.iconst (-1), 1) := by decide +kernel
theorem dX3_readInto_11 : decode cX3_readInto 11 = .ok (.putfield 27, 3) := by decide +kernel
theorem dX3_readInto_14 : decode cX3_readInto 14 = .ok (.aload_n 0, 1) := by decide +kernel
theorem dX3_readInto_15 : decode cX3_readInto 15 = .ok (.iconst 0, 1) := by decide +kernel
theorem dX3_readInto_16 : decode cX3_readInto 16 = .ok (.putfield 30, 3) := by decide +kernel
theorem dX3_readInto_19 : decode cX3_readInto 19 = .ok (.iconst 0, 1) := by decide +kernel
theorem dX3_readInto_20 : decode cX3_readInto 20 = .ok (.istore_n 2, 1) := by decide +kernel
theorem dX3_readInto_21 : decode cX3_readInto 21 = .ok (.aload_n 0, 1) := by decide +kernel
theorem dX3_readInto_22 : decode cX3_readInto 22 = .ok (.invokevirtual 34, 3) := by decide +kernel
theorem dX3_readInto_25 : decode cX3_readInto 25 = .ok (.iconst 0, 1) := by decide +kernel
theorem dX3_readInto_26 : decode cX3_readInto 26 = .ok (.istore_n 3, 1) := by decide +kernel
theorem dX3_readInto_27 : decode cX3_readInto 27 = .ok (.iload_n 3, 1) := by decide +kernel
theorem dX3_readInto_28 : decode cX3_readInto 28 = .ok (.sipush 250, 3) := by decide +kernel
theorem dX3_readInto_31 : decode cX3_readInto 31 = .ok (.if_icmp .ge 36, 3) := by decide +kernel
theorem dX3_readInto_34 : decode cX3_readInto 34 = .ok (.aload_n 0, 1) := by decide +kernel
theorem dX3_readInto_35 : decode cX3_readInto 35 = .ok (.getfield 37, 3) := by decide +kernel
theorem dX3_readInto_38 : decode cX3_readInto 38 = .ok (.ifCond .eq 29, 3) := by decide +kernel
theorem dX3_readInto_41 : decode cX3_readInto 41 = .ok (.aload_n 0, 1) := by decide +kernel
theorem dX3_readInto_42 : decode cX3_readInto 42 = .ok (.getfield 27, 3) := by decide +kernel
theorem dX3_readInto_45 : decode cX3_readInto 45 = .ok (.iconst (-1), 1) := by decide +kernel
theorem dX3_readInto_46 : decode cX3_readInto 46 = .ok (.if_icmp .ne 21, 3) := by decide +kernel
theorem dX3_readInto_49 : decode cX3_readInto 49 = .ok (.aload_n 0, 1) := by decide +kernel
theorem dX3_readInto_50 : decode cX3_readInto 50 = .ok (.aload_n 1, 1) := by decide +kernel
theorem dX3_readInto_51 : decode cX3_readInto 51 = .ok (.invokevirtual 40, 3) := by decide +kernel
theorem dX3_readInto_54 : decode cX3_readInto 54 = .ok (.iinc 2 1, 3) := by decide +kernel
theorem dX3_readInto_57 : decode cX3_readInto 57 = .ok (.aload_n 0, 1) := by decide +kernel
theorem dX3_readInto_58 : decode cX3_readInto 58 = .ok (.invokevirtual 34, 3) := by decide +kernel
theorem dX3_readInto_61 : decode cX3_readInto 61 = .ok (.iinc 3 1, 3) := by decide +kernel
theorem dX3_readInto_64 : decode cX3_readInto 64 = .ok (.goto (-37), 3) := by decide +kernel
theorem dX3_readInto_67 : decode cX3_readInto 67 = .ok (.aload_n 0, 1) := by decide +kernel
theorem dX3_readInto_68 : decode cX3_readInto 68 = .ok (.getfield 27, 3) := by decide +kernel
theorem dX3_readInto_71 : decode cX3_readInto 71 = .ok (.iconst (-1), 1) := by decide +kernel
theorem dX3_readInto_72 : decode cX3_readInto 72 = .ok (.if_icmp .ne 7, 3) := by decide +kernel
theorem dX3_readInto_75 : decode cX3_readInto 75 = .ok (.iload_n 2, 1) := by decide +kernel
theorem dX3_readInto_76 : decode cX3_readInto 76 = .ok (.goto 10, 3) := by decide +kernel
theorem dX3_readInto_79 : decode cX3_readInto 79 = .ok (.bipush (-10), 2) := by decide +kernel
theorem dX3_readInto_81 : decode cX3_readInto 81 = .ok (.aload_n 0, 1) := by decide +kernel
theorem dX3_readInto_82 : decode cX3_readInto 82 = .ok (.getfield 27, 3) := by decide +kernel
theorem dX3_readInto_85 : decode cX3_readInto 85 = .ok (.isub, 1) := by decide +kernel
theorem dX3_readInto_86 : decode cX3_readInto 86 = .ok (.ireturn, 1) := by decide +kernel
theorem dX3_readItem_0 : decode cX3_readItem 0 = .ok (.aload_n 0, 1) := by decide +kernel
theorem dX3_readItem_1 : decode cX3_readItem 1 = .ok (.getfield 37, 3) := by decide +kernel
theorem dX3_readItem_4 : decode cX3_readItem 4 = .ok (.iconst 1, 1) := by decide +kernel
theorem dX3_readItem_5 : decode cX3_readItem 5 = .ok (.if_icmp .eq 10, 3) := by decide +kernel
theorem dX3_readItem_8 : decode cX3_readItem 8 = .ok (.aload_n 0, 1) := by decide +kernel
theorem dX3_readItem_9 : decode cX3_readItem 9 = .ok (.invokevirtual 44, 3) := by decide +kernel
theorem dX3_readItem_12 : decode cX3_readItem 12 = .ok (.goto 143, 3) := by decide +kernel
theorem dX3_readItem_15 : decode cX3_readItem 15 = .ok (.aload_n 0, 1) := by decide +kernel
theorem dX3_readItem_16 : decode cX3_readItem 16 = .ok (.ldc 47, 2) := by decide +kernel
theorem dX3_readItem_18 : decode cX3_readItem 18 = .ok (.invokevirtual 49, 3) := by decide +kernel
theorem dX3_readItem_21 : decode cX3_readItem 21 = .ok (.ifCond .eq 11, 3) := by decide +kernel
theorem dX3_readItem_24 : decode cX3_readItem 24 = .ok (.aload_n 0, 1) := by decide +kernel
theorem dX3_readItem_25 : decode cX3_readItem 25 = .ok (.aload_n 1, 1) := by decide +kernel
theorem dX3_readItem_26 : decode cX3_readItem 26 = .ok (.invokevirtual 53, 3) := by decide +kernel
theorem dX3_readItem_29 : decode cX3_readItem 29 = .ok (.goto 126, 3) := by decide +kernel
theorem dX3_readItem_32 : decode cX3_readItem 32 = .ok (.aload_n 0, 1) := by decide +kernel
theorem dX3_readItem_33 : decode cX3_readItem 33 = .ok (.ldc 56, 2) := by decide +kernel
theorem dX3_readItem_35 : decode cX3_readItem 35 = .ok (.invokevirtual 49, 3) := by decide +kernel
theorem dX3_readItem_38 : decode cX3_readItem 38 = .ok (.ifCond .eq 11, 3) := by decide +kernel
theorem dX3_readItem_41 : decode cX3_readItem 41 = .ok (.aload_n 0, 1) := by decide +kernel
theorem dX3_readItem_42 : decode cX3_readItem 42 = .ok (.aload_n 1, 1) := by decide +kernel
theorem dX3_readItem_43 : decode cX3_readItem 43 = .ok (.invokevirtual 58, 3) := by decide +kernel
theorem dX3_readItem_46 : decode cX3_readItem 46 = .ok (.goto 109, 3) := by decide +kernel
theorem dX3_readItem_49 : decode cX3_readItem 49 = .ok (.aload_n 0, 1) := by decide +kernel
theorem dX3_readItem_50 : decode cX3_readItem 50 = .ok (.ldc 61, 2) := by decide +kernel
theorem dX3_readItem_52 : decode cX3_readItem 52 = .ok (.invokevirtual 49, 3) := by decide +kernel
theorem dX3_readItem_55 : decode cX3_readItem 55 = .ok (.ifCond .eq 11, 3) := by decide +kernel
theorem dX3_readItem_58 : decode cX3_readItem 58 = .ok (.aload_n 0, 1) := by decide +kernel
theorem dX3_readItem_59 : decode cX3_readItem 59 = .ok (.aload_n 1, 1) := by decide +kernel
theorem dX3_readItem_60 : decode cX3_readItem 60 = .ok (.invokevirtual 63, 3) := by decide +kernel
theorem dX3_readItem_63 : decode cX3_readItem 63 = .ok (.goto 92, 3) := by decide +kernel
theorem dX3_readItem_66 : decode cX3_readItem 66 = .ok (.aload_n 0, 1) := by decide +kernel
theorem dX3_readItem_67 : decode cX3_readItem 67 = .ok (.ldc 66, 2) := by decide +kernel
theorem dX3_readItem_69 : decode cX3_readItem 69 = .ok (.invokevirtual 49, 3) := by decide +kernel
theorem dX3_readItem_72 : decode cX3_readItem 72 = .ok (.ifCond .eq 11, 3) := by decide +kernel
theorem dX3_readItem_75 : decode cX3_readItem 75 = .ok (.aload_n 0, 1) := by decide +kernel
theorem dX3_readItem_76 : decode cX3_readItem 76 = .ok (.aload_n 1, 1) := by decide +kernel
theorem dX3_readItem_77 : decode cX3_readItem 77 = .ok (.invokevirtual 68, 3) := by decide +kernel
theorem dX3_readItem_80 : decode cX3_readItem 80 = .ok (.goto 75, 3) := by decide +kernel
theorem dX3_readItem_83 : decode cX3_readItem 83 = .ok (.aload_n 0, 1) := by decide +kernel
theorem dX3_readItem_84 : decode cX3_readItem 84 = .ok (.ldc 71, 2) := by decide +kernel
theorem dX3_readItem_86 : decode cX3_readItem 86 = .ok (.invokevirtual 49, 3) := by decide +kernel
theorem dX3_readItem_89 : decode cX3_readItem 89 = .ok (.ifCond .eq 11, 3) := by decide +kernel
theorem dX3_readItem_92 : decode cX3_readItem 92 = .ok (.aload_n 0, 1) := by decide +kernel
theorem dX3_readItem_93 : decode cX3_readItem 93 = .ok (.aload_n 1, 1) := by decide +kernel
theorem dX3_readItem_94 : decode cX3_readItem 94 = .ok (.invokevirtual 73, 3) := by decide +kernel
theorem dX3_readItem_97 : decode cX3_readItem 97 = .ok (.goto 58, 3) := by decide +kernel
theorem dX3_readItem_100 : decode cX3_readItem 100 = .ok (.aload_n 0, 1) := by decide +kernel
theorem dX3_readItem_101 : decode cX3_readItem 101 = .ok (.ldc 76, 2) := by decide +kernel
theorem dX3_readItem_103 : decode cX3_readItem 103 = .ok (.invokevirtual 49, 3) := by decide +kernel
theorem dX3_readItem_106 : decode cX3_readItem 106 = .ok (.ifCond .eq 11, 3) := by decide +kernel
theorem dX3_readItem_109 : decode cX3_readItem 109 = .ok (.aload_n 0, 1) := by decide +kernel
theorem dX3_readItem_110 : decode cX3_readItem 110 = .ok (.aload_n 1, 1) := by decide +kernel
theorem dX3_readItem_111 : decode cX3_readItem 111 = .ok (.invokevirtual 78, 3) := by decide +kernel
theorem dX3_readItem_114 : decode cX3_readItem 114 = .ok (.goto 41, 3) := by decide +kernel
theorem dX3_readItem_117 : decode cX3_readItem 117 = .ok (.aload_n 0, 1) := by decide +kernel
theorem dX3_readItem_118 : decode cX3_readItem 118 = .ok (.ldc 81, 2) := by decide +kernel
theorem dX3_readItem_120 : decode cX3_readItem 120 = .ok (.invokevirtual 49, 3) := by decide +kernel
theorem dX3_readItem_123 : decode cX3_readItem 123 = .ok (.ifCond .eq 11, 3) := by decide +kernel
theorem dX3_readItem_126 : decode cX3_readItem 126 = .ok (.aload_n 0, 1) := by decide +kernel
theorem dX3_readItem_127 : decode cX3_readItem 127 = .ok (.aload_n 1, 1) := by decide +kernel
theorem dX3_readItem_128 : decode cX3_readItem 128 = .ok (.invokevirtual 83, 3) := by decide +kernel
theorem dX3_readItem_131 : decode cX3_readItem 131 = .ok (.goto 24, 3) := by decide +kernel
theorem dX3_readItem_134 : decode cX3_readItem 134 = .ok (.aload_n 0, 1) := by decide +kernel
theorem dX3_readItem_135 : decode cX3_readItem 135 = .ok (.ldc 86, 2) := by decide +kernel
theorem dX3_readItem_137 : decode cX3_readItem 137 = .ok (.invokevirtual 49, 3) := by decide +kernel
theorem dX3_readItem_140 : decode cX3_readItem 140 = .ok (.ifCond .eq 11, 3) := by decide +kernel
theorem dX3_readItem_143 : decode cX3_readItem 143 = .ok (.aload_n 0, 1) := by decide +kernel
theorem dX3_readItem_144 : decode cX3_readItem 144 = .ok (.aload_n 1, 1) := by decide +kernel
theorem dX3_readItem_145 : decode cX3_readItem 145 = .ok (.invokevirtual 88, 3) := by decide +kernel
theorem dX3_readItem_148 : decode cX3_readItem 148 = .ok (.goto 7, 3) := by decide +kernel
theorem dX3_readItem_151 : decode cX3_readItem 151 = .ok (.aload_n 0, 1) := by decide +kernel
theorem dX3_readItem_152 : decode cX3_readItem 152 = .ok (.invokevirtual 44, 3) := by decide +kernel
theorem dX3_readItem_155 : decode cX3_readItem 155 = .ok (.return_, 1) := by decide +kernel
theorem dX3_readThing_0 : decode cX3_readThing 0 = .ok (.aload_n 1, 1) := by decide +kernel
theorem dX3_readThing_1 : decode cX3_readThing 1 = .ok (.getfield 91, 3) := by decide +kernel
theorem dX3_readThing_4 : decode cX3_readThing 4 = .ok (.bipush 9, 2) := by decide +kernel
theorem dX3_readThing_6 : decode cX3_readThing 6 = .ok (.if_icmp .lt 8, 3) := by decide +kernel
theorem dX3_readThing_9 : decode cX3_readThing 9 = .ok (.aload_n 0, 1) := by decide +kernel
theorem dX3_readThing_10 : decode cX3_readThing 10 = .ok (.invokevirtual 44, 3) := by decide +kernel
theorem dX3_readThing_13 : decode cX3_readThing 13 = .ok (.return_, 1) := by decide +kernel
theorem dX3_readThing_14 : decode cX3_readThing 14 = .ok (.iconst (-1), 1) := by decide +kernel
theorem dX3_readThing_15 : decode cX3_readThing 15 = .ok (.istore_n 2, 1) := by decide +kernel
theorem dX3_readThing_16 : decode cX3_readThing 16 = .ok (.aload_n 0, 1) := by decide +kernel
theorem dX3_readThing_17 : decode cX3_readThing 17 = .ok (.invokevirtual 34, 3) := by decide +kernel
theorem dX3_readThing_20 : decode cX3_readThing 20 = .ok (.aload_n 0, 1) := by decide +kernel
theorem dX3_readThing_21 : decode cX3_readThing 21 = .ok (.getfield 37, 3) := by decide +kernel
theorem dX3_readThing_24 : decode cX3_readThing 24 = .ok (.iconst 2, 1) := by decide +kernel
theorem dX3_readThing_25 : decode cX3_readThing 25 = .ok (.if_icmp .ne 25, 3) := by decide +kernel
theorem dX3_readThing_28 : decode cX3_readThing 28 = .ok (.aload_n 0, 1) := by decide +kernel
theorem dX3_readThing_29 : decode cX3_readThing 29 = .ok (.invokevirtual 94, 3) := by decide +kernel
theorem dX3_readThing_32 : decode cX3_readThing 32 = .ok (.istore_n 2, 1) := by decide +kernel
theorem dX3_readThing_33 : decode cX3_readThing 33 = .ok (.aload_n 1, 1) := by decide +kernel
theorem dX3_readThing_34 : decode cX3_readThing 34 = .ok (.iload_n 2, 1) := by decide +kernel
theorem dX3_readThing_35 : decode cX3_readThing 35 = .ok (.invokevirtual 98, 3) := by decide +kernel
theorem dX3_readThing_38 : decode cX3_readThing 38 = .ok (.ifCond .ne 8, 3) := by decide +kernel
theorem dX3_readThing_41 : decode cX3_readThing 41 = .ok (.aload_n 0, 1) := by decide +kernel
theorem dX3_readThing_42 : decode cX3_readThing 42 = .ok (.invokevirtual 44, 3) := by decide +kernel
theorem dX3_readThing_45 : decode cX3_readThing 45 = .ok (.return_, 1) := by decide +kernel
theorem dX3_readThing_46 : decode cX3_readThing 46 = .ok (.aload_n 0, 1) := by decide +kernel
