theorem dX5_did_39 : decode cX5_did 39 = .ok (.getfield 10, 3) := by decide +kernel
theorem dX5_did_42 : decode cX5_did 42 = .ok (.aload_n 0, 1) := by decide +kernel
theorem dX5_did_43 : decode cX5_did 43 = .ok (.getfield 10, 3) := by decide +kernel
theorem dX5_did_46 : decode cX5_did 46 = .ok (.getfield 147, 3) := by decide +kernel
theorem dX5_did_49 : decode cX5_did 49 = .ok (.iconst (-1), 1) := by decide +kernel
theorem dX5_did_50 : decode cX5_did 50 = .ok (.invokevirtual 150, 3) := by decide +kernel
theorem dX5_did_53 : decode cX5_did 53 = .ok (.aload_n 0, 1) := by decide +kernel
theorem dX5_did_54 : decode cX5_did 54 = .ok (.getfield 51, 3) := by decide +kernel
theorem dX5_did_57 : decode cX5_did 57 = .ok (.aload_n 0, 1) := by decide +kernel
theorem dX5_did_58 : decode cX5_did 58 = .ok (.getfield 10, 3) := by decide +kernel
theorem dX5_did_61 : decode cX5_did 61 = .ok (.aload_n 0, 1) := by decide +kernel
theorem dX5_did_62 : decode cX5_did 62 = .ok (.getfield 37, 3) := by decide +kernel
theorem dX5_did_65 : decode cX5_did 65 = .ok (.iload_n 1, 1) := by decide +kernel
theorem dX5_did_66 : decode cX5_did 66 = .ok (.aload_n 0, 1) := by decide +kernel
theorem dX5_did_67 : decode cX5_did 67 = .ok (.getfield 75, 3) := by decide +kernel
theorem dX5_did_70 : decode cX5_did 70 = .ok (.invokevirtual 212, 3) := by decide +kernel
theorem dX5_did_73 : decode cX5_did 73 = .ok (.iload_n 2, 1) := by decide +kernel
theorem dX5_did_74 : decode cX5_did 74 = .ok (.iconst (-1), 1) := by decide +kernel
theorem dX5_did_75 : decode cX5_did 75 = .ok (.if_icmp .ne 11, 3) := by decide +kernel
theorem dX5_did_78 : decode cX5_did 78 = .ok (.aload_n 0, 1) := by decide +kernel
theorem dX5_did_79 : decode cX5_did 79 = .ok (.getfield 51, 3) := by decide +kernel
theorem dX5_did_82 : decode cX5_did 82 = .ok (.getfield 216, 3) := by decide +kernel
theorem dX5_did_85 : decode cX5_did 85 = .ok (.ireturn, 1) := by decide +kernel
theorem dX5_did_86 : decode cX5_did 86 = .ok (.aload_n 0, 1) := by decide +kernel
theorem dX5_did_87 : decode cX5_did 87 = .ok (.getfield 51, 3) := by decide +kernel
theorem dX5_did_90 : decode cX5_did 90 = .ok (.getfield 216, 3) := by decide +kernel
theorem dX5_did_93 : decode cX5_did 93 = .ok (.ifCond .ne 8, 3) := by decide +kernel
theorem dX5_did_96 : decode cX5_did 96 = .ok (.bipush (-5), 2) := by decide +kernel
theorem dX5_did_98 : decode cX5_did 98 = .ok (.goto 12, 3) := by decide +kernel
theorem dX5_did_101 : decode cX5_did 101 = .ok (.aload_n 0, 1) := by decide +kernel
theorem dX5_did_102 : decode cX5_did 102 = .ok (.getfield 51, 3) := by decide +kernel
theorem dX5_did_105 : decode cX5_did 105 = .ok (.getfield 219, 3) := by decide +kernel
theorem dX5_did_108 : decode cX5_did 108 = .ok (.iload_n 2, 1) := by decide +kernel
theorem dX5_did_109 : decode cX5_did 109 = .ok (.iaload, 1) := by decide +kernel
theorem dX5_did_110 : decode cX5_did 110 = .ok (.ireturn, 1) := by decide +kernel
theorem dX5_copied_0 : decode cX5_copied 0 = .ok (.aload_n 0, 1) := by decide +kernel
theorem dX5_copied_1 : decode cX5_copied 1 = .ok (.getfield 10, 3) := by decide +kernel
theorem dX5_copied_4 : decode cX5_copied 4 = .ok (.iload_n 1, 1) := by decide +kernel
theorem dX5_copied_5 : decode cX5_copied 5 = .ok (.invokevirtual 100, 3) := by decide +kernel
theorem dX5_copied_8 : decode cX5_copied 8 = .ok (.ifCond .ne 10, 3) := by decide +kernel
theorem dX5_copied_11 : decode cX5_copied 11 = .ok (.aload_n 0, 1) := by decide +kernel
theorem dX5_copied_12 : decode cX5_copied 12 = .ok (.bipush (-2), 2) := by decide +kernel
theorem dX5_copied_14 : decode cX5_copied 14 = .ok (.invokevirtual 63, 3) := by decide +kernel
theorem dX5_copied_17 : decode cX5_copied 17 = .ok (.ireturn, 1) := by decide +kernel
theorem dX5_copied_18 : decode cX5_copied 18 = .ok (.iconst (-1), 1) := by decide +kernel
theorem dX5_copied_19 : decode cX5_copied 19 = .ok (.istore_n 2, 1) := by decide +kernel
theorem dX5_copied_20 : decode cX5_copied 20 = .ok (.iconst 0, 1) := by decide +kernel
theorem dX5_copied_21 : decode cX5_copied 21 = .ok (.istore_n 3, 1) := by decide +kernel
theorem dX5_copied_22 : decode cX5_copied 22 = .ok (.iconst 0, 1) := by decide +kernel
theorem dX5_copied_23 : decode cX5_copied 23 = .ok (.istore 4, 2) := by decide +kernel
theorem dX5_copied_25 : decode cX5_copied 25 = .ok (.iload 4, 2) := by decide +kernel
theorem dX5_copied_27 : decode cX5_copied 27 = .ok (.aload_n 0, 1) := by decide +kernel
theorem dX5_copied_28 : decode cX5_copied 28 = .ok (.getfield 10, 3) := by decide +kernel
theorem dX5_copied_31 : decode cX5_copied 31 = .ok (.getfield 202, 3) := by decide +kernel
theorem dX5_copied_34 : decode cX5_copied 34 = .ok (.if_icmp .ge 40, 3) := by decide +kernel
theorem dX5_copied_37 : decode cX5_copied 37 = .ok (.iload 4, 2) := by decide +kernel
theorem dX5_copied_39 : decode cX5_copied 39 = .ok (.iload_n 1, 1) := by decide +kernel
theorem dX5_copied_40 : decode cX5_copied 40 = .ok (.if_icmp .ne 7, 3) := by decide +kernel
theorem dX5_copied_43 : decode cX5_copied 43 = .ok (.iconst 0, 1) := by decide +kernel
theorem dX5_copied_44 : decode cX5_copied 44 = .ok (.goto 10, 3) := by decide +kernel
theorem dX5_copied_47 : decode cX5_copied 47 = .ok (.aload_n 0, 1) := by decide +kernel
theorem dX5_copied_48 : decode cX5_copied 48 = .ok (.iload_n 1, 1) := by decide +kernel
theorem dX5_copied_49 : decode cX5_copied 49 = .ok (.iload 4, 2) := by decide +kernel
theorem dX5_copied_51 : decode cX5_copied 51 = .ok (.invokevirtual 222, 3) := by decide +kernel
theorem dX5_copied_54 : decode cX5_copied 54 = .ok (.istore 5, 2) := by decide +kernel
theorem dX5_copied_56 : decode cX5_copied 56 = .ok (.iload 5, 2) := by decide +kernel
theorem dX5_copied_58 : decode cX5_copied 58 = .ok (.iload_n 3, 1) := by decide +kernel
theorem dX5_copied_59 : decode cX5_copied 59 = .ok (.if_icmp .le 9, 3) := by decide +kernel
theorem dX5_copied_62 : decode cX5_copied 62 = .ok (.iload 5, 2) := by decide +kernel
theorem dX5_copied_64 : decode cX5_copied 64 = .ok (.istore_n 3, 1) := by decide +kernel
theorem dX5_copied_65 : decode cX5_copied 65 = .ok (.iload 4, 2) := by decide +kernel
theorem dX5_copied_67 : decode cX5_copied 67 = .ok (.istore_n 2, 1) := by decide +kernel
theorem dX5_copied_68 : decode cX5_copied 68 = .ok (.iinc 4 1, 3) := by decide +kernel
theorem dX5_copied_71 : decode cX5_copied 71 = .ok (.goto (-46), 3) := by decide +kernel
theorem dX5_copied_74 : decode cX5_copied 74 = .ok (.iload_n 2, 1) := by decide +kernel
theorem dX5_copied_75 : decode cX5_copied 75 = .ok (.ireturn, 1) := by decide +kernel
theorem dX5_crowd_0 : decode cX5_crowd 0 = .ok (.iload_n 1, 1) := by decide +kernel
theorem dX5_crowd_1 : decode cX5_crowd 1 = .ok (.iconst 1, 1) := by decide +kernel
theorem dX5_crowd_2 : decode cX5_crowd 2 = .ok (.bipush 18, 2) := by decide +kernel
theorem dX5_crowd_4 : decode cX5_crowd 4 = .ok (.invokestatic 82, 3) := by decide +kernel
theorem dX5_crowd_7 : decode cX5_crowd 7 = .ok (.ifCond .eq 22, 3) := by decide +kernel
theorem dX5_crowd_10 : decode cX5_crowd 10 = .ok (.iload_n 2, 1) := by decide +kernel
theorem dX5_crowd_11 : decode cX5_crowd 11 = .ok (.iconst 1, 1) := by decide +kernel
theorem dX5_crowd_12 : decode cX5_crowd 12 = .ok (.bipush 9, 2) := by decide +kernel
theorem dX5_crowd_14 : decode cX5_crowd 14 = .ok (.invokestatic 82, 3) := by decide +kernel
theorem dX5_crowd_17 : decode cX5_crowd 17 = .ok (.ifCond .eq 12, 3) := by decide +kernel
theorem dX5_crowd_20 : decode cX5_crowd 20 = .ok (.iload_n 3, 1) := by decide +kernel
theorem dX5_crowd_21 : decode cX5_crowd 21 = .ok (.iconst 0, 1) := by decide +kernel
theorem dX5_crowd_22 : decode cX5_crowd 22 = .ok (.iload_n 1, 1) := by decide +kernel
theorem dX5_crowd_23 : decode cX5_crowd 23 = .ok (.invokestatic 82, 3) := by decide +kernel
theorem dX5_crowd_26 : decode cX5_crowd 26 = .ok (.ifCond .ne 10, 3) := by decide +kernel
theorem dX5_crowd_29 : decode cX5_crowd 29 = .ok (.aload_n 0, 1) := by decide +kernel
theorem dX5_crowd_30 : decode cX5_crowd 30 = .ok (.bipush (-2), 2) := by decide +kernel
theorem dX5_crowd_32 : decode cX5_crowd 32 = .ok (.invokevirtual 63, 3) := by decide +kernel
theorem dX5_crowd_35 : decode cX5_crowd 35 = .ok (.ireturn, 1) := by decide +kernel
theorem dX5_crowd_36 : decode cX5_crowd 36 = .ok (.lconst 1, 1) := by decide +kernel
theorem dX5_crowd_37 : decode cX5_crowd 37 = .ok (.lstore 4, 2) := by decide +kernel
theorem dX5_crowd_39 : decode cX5_crowd 39 = .ok (.iconst 0, 1) := by decide +kernel
theorem dX5_crowd_40 : decode cX5_crowd 40 = .ok (.istore 6, 2) := by decide +kernel
theorem dX5_crowd_42 : decode cX5_crowd 42 = .ok (.iload 6, 2) := by decide +kernel
theorem dX5_crowd_44 : decode cX5_crowd 44 = .ok (.iload_n 1, 1) := by decide +kernel
theorem dX5_crowd_45 : decode cX5_crowd 45 = .ok (.if_icmp .ge 16, 3) := by decide +kernel
theorem dX5_crowd_48 : decode cX5_crowd 48 = .ok (.lload 4, 2) := by decide +kernel
theorem dX5_crowd_50 : decode cX5_crowd 50 = .ok (.iload_n 2, 1) := by decide +kernel
theorem dX5_crowd_51 : decode cX5_crowd 51 = .ok (.i2l, 1) := by decide +kernel
theorem dX5_crowd_52 : decode cX5_crowd 52 = .ok (.lmul, 1) := by decide +kernel
theorem dX5_crowd_53 : decode cX5_crowd 53 = .ok (.lstore 4, 2) := by decide +kernel
theorem dX5_crowd_55 : decode cX5_crowd 55 = .ok (.iinc 6 1, 3) := by decide +kernel
theorem dX5_crowd_58 : decode cX5_crowd 58 = .ok (.goto (-16), 3) := by decide +kernel
theorem dX5_crowd_61 : decode cX5_crowd 61 = .ok (.iload_n 1, 1) := by decide +kernel
theorem dX5_crowd_62 : decode cX5_crowd 62 = .ok (.iload_n 2, 1) := by decide +kernel
theorem dX5_crowd_63 : decode cX5_crowd 63 = .ok (.iload_n 3, 1) := by decide +kernel
theorem dX5_crowd_64 : decode cX5_crowd 64 = .ok (.invokestatic 225, 3) := by decide +kernel
theorem dX5_crowd_67 : decode cX5_crowd 67 = .ok (.lstore 6, 2) := by decide +kernel
theorem dX5_crowd_69 : decode cX5_crowd 69 = .ok (.lconst 1, 1) := by decide +kernel
theorem dX5_crowd_70 : decode cX5_crowd 70 = .ok (.lload 6, 2) := by decide +kernel
theorem dX5_crowd_72 : decode cX5_crowd 72 = .ok (.lload 4, 2) := by decide +kernel
theorem dX5_crowd_74 : decode cX5_crowd 74 = .ok (.invokestatic 229, 3) := by decide +kernel
theorem dX5_crowd_77 : decode cX5_crowd 77 = .ok (.invokestatic 233, 3) := by decide +kernel
theorem dX5_crowd_80 : decode cX5_crowd 80 = .ok (.lstore 8, 2) := by decide +kernel
theorem dX5_crowd_82 : decode cX5_crowd 82 = .ok (.aload_n 0, 1) := by decide +kernel
theorem dX5_crowd_83 : decode cX5_crowd 83 = .ok (.lload 6, 2) := by decide +kernel
theorem dX5_crowd_85 : decode cX5_crowd 85 = .ok (.lload 8, 2) := by decide +kernel
theorem dX5_crowd_87 : decode cX5_crowd 87 = .ok (.ldiv, 1) := by decide +kernel
theorem dX5_crowd_88 : decode cX5_crowd 88 = .ok (.putfield 238, 3) := by decide +kernel
theorem dX5_crowd_91 : decode cX5_crowd 91 = .ok (.aload_n 0, 1) := by decide +kernel
theorem dX5_crowd_92 : decode cX5_crowd 92 = .ok (.lload 4, 2) := by decide +kernel
theorem dX5_crowd_94 : decode cX5_crowd 94 = .ok (.lload 8, 2) := by decide +kernel
theorem dX5_crowd_96 : decode cX5_crowd 96 = .ok (.ldiv, 1) := by decide +kernel
theorem dX5_crowd_97 : decode cX5_crowd 97 = .ok (.putfield 55, 3) := by decide +kernel
theorem dX5_crowd_100 : decode cX5_crowd 100 = .ok (.iconst 1, 1) := by decide +kernel
theorem dX5_crowd_101 : decode cX5_crowd 101 = .ok (.ireturn, 1) := by decide +kernel
theorem dX5_part_0 : decode cX5_part 0 = .ok (.iload_n 1, 1) := by decide +kernel
theorem dX5_part_1 : decode cX5_part 1 = .ok (.lookupswitch 37 #[(0, 27), (1, 32)], 27) := by decide +kernel
theorem dX5_part_28 : decode cX5_part 28 = .ok (.aload_n 0, 1) := by decide +kernel
theorem dX5_part_29 : decode cX5_part 29 = .ok (.getfield 238, 3) := by decide +kernel
theorem dX5_part_32 : decode cX5_part 32 = .ok (.lreturn, 1) := by decide +kernel
theorem dX5_part_33 : decode cX5_part 33 = .ok (.aload_n 0, 1) := by decide +kernel
theorem dX5_part_34 : decode cX5_part 34 = .ok (.getfield 55, 3) := by decide +kernel
theorem dX5_part_37 : decode cX5_part 37 = .ok (.lreturn, 1) := by decide +kernel
theorem dX5_part_38 : decode cX5_part 38 = .ok (.aload_n 0, 1) := by decide +kernel
theorem dX5_part_39 : decode cX5_part 39 = .ok (.bipush (-2), 2) := by decide +kernel
theorem dX5_part_41 : decode cX5_part 41 = .ok (.invokevirtual 63, 3) := by decide +kernel
theorem dX5_part_44 : decode cX5_part 44 = .ok (.i2l, 1) := by decide +kernel
theorem dX5_part_45 : decode cX5_part 45 = .ok (.lreturn, 1) := by decide +kernel
theorem dX5_image_0 : decode cX5_image 0 = .ok (.iload_n 1, 1) := by decide +kernel
theorem dX5_image_1 : decode cX5_image 1 = .ok (.iconst 0, 1) := by decide +kernel
theorem dX5_image_2 : decode cX5_image 2 = .ok (.iconst 1, 1) := by decide +kernel
theorem dX5_image_3 : decode cX5_image 3 = .ok (.invokestatic 82, 3) := by decide +kernel
theorem dX5_image_6 : decode cX5_image 6 = .ok (.ifCond .ne 10, 3) := by decide +kernel
theorem dX5_image_9 : decode cX5_image 9 = .ok (.aload_n 0, 1) := by decide +kernel
theorem dX5_image_10 : decode cX5_image 10 = .ok (.bipush (-2), 2) := by decide +kernel
theorem dX5_image_12 : decode cX5_image 12 = .ok (.invokevirtual 63, 3) := by decide +kernel
theorem dX5_image_15 : decode cX5_image 15 = .ok (.ireturn, 1) := by decide +kernel
theorem dX5_image_16 : decode cX5_image 16 = .ok (.aload_n 0, 1) := by decide +kernel
theorem dX5_image_17 : decode cX5_image 17 = .ok (.getfield 19, 3) := by decide +kernel
theorem dX5_image_20 : decode cX5_image 20 = .ok (.iload_n 1, 1) := by decide +kernel
theorem dX5_image_21 : decode cX5_image 21 = .ok (.aaload, 1) := by decide +kernel
theorem dX5_image_22 : decode cX5_image 22 = .ok (.aload_n 0, 1) := by decide +kernel
theorem dX5_image_23 : decode cX5_image 23 = .ok (.getfield 10, 3) := by decide +kernel
theorem dX5_image_26 : decode cX5_image 26 = .ok (.invokevirtual 143, 3) := by decide +kernel
theorem dX5_image_29 : decode cX5_image 29 = .ok (.aload_n 0, 1) := by decide +kernel
theorem dX5_image_30 : decode cX5_image 30 = .ok (.getfield 23, 3) := by decide +kernel
theorem dX5_image_33 : decode cX5_image 33 = .ok (.iload_n 1, 1) := by decide +kernel
theorem dX5_image_34 : decode cX5_image 34 = .ok (.iconst 1, 1) := by decide +kernel
theorem dX5_image_35 : decode cX5_image 35 = .ok (.bastore, 1) := by decide +kernel
theorem dX5_image_36 : decode cX5_image 36 = .ok (.iconst 1, 1) := by decide +kernel
theorem dX5_image_37 : decode cX5_image 37 = .ok (.ireturn, 1) := by decide +kernel
theorem dX5_from_0 : decode cX5_from 0 = .ok (.iload_n 1, 1) := by decide +kernel
theorem dX5_from_1 : decode cX5_from 1 = .ok (.iconst 0, 1) := by decide +kernel
theorem dX5_from_2 : decode cX5_from 2 = .ok (.iconst 1, 1) := by decide +kernel
theorem dX5_from_3 : decode cX5_from 3 = .ok (.invokestatic 82, 3) := by decide +kernel
theorem dX5_from_6 : decode cX5_from 6 = .ok (.ifCond .ne 10, 3) := by decide +kernel
theorem dX5_from_9 : decode cX5_from 9 = .ok (.aload_n 0, 1) := by decide +kernel
theorem dX5_from_10 : decode cX5_from 10 = .ok (.bipush (-2), 2) := by decide +kernel
theorem dX5_from_12 : decode cX5_from 12 = .ok (.invokevirtual 63, 3) := by decide +kernel
theorem dX5_from_15 : decode cX5_from 15 = .ok (.ireturn, 1) := by decide +kernel
theorem dX5_from_16 : decode cX5_from 16 = .ok (.aload_n 0, 1) := by decide +kernel
theorem dX5_from_17 : decode cX5_from 17 = .ok (.getfield 23, 3) := by decide +kernel
theorem dX5_from_20 : decode cX5_from 20 = .ok (.iload_n 1, 1) := by decide +kernel
theorem dX5_from_21 : decode cX5_from 21 = .ok (.baload, 1) := by decide +kernel
theorem dX5_from_22 : decode cX5_from 22 = .ok (.ifCond .ne 8, 3) := by decide +kernel
theorem dX5_from_25 : decode cX5_from 25 = .ok (.aload_n 0, 1) := by decide +kernel
theorem dX5_from_26 : decode cX5_from 26 = .ok (.invokevirtual 120, 3) := by decide +kernel
theorem dX5_from_29 : decode cX5_from 29 = .ok (.ireturn, 1) := by decide +kernel
theorem dX5_from_30 : decode cX5_from 30 = .ok (.aload_n 0, 1) := by decide +kernel
theorem dX5_from_31 : decode cX5_from 31 = .ok (.dup, 1) := by decide +kernel
theorem dX5_from_32 : decode cX5_from 32 = .ok (.getfield 75, 3) := by decide +kernel
theorem dX5_from_35 : decode cX5_from 35 = .ok (.iconst 1, 1) := by decide +kernel
theorem dX5_from_36 : decode cX5_from 36 = .ok (.iadd, 1) := by decide +kernel
theorem dX5_from_37 : decode cX5_from 37 = .ok (.putfield 75, 3) := by decide +kernel
theorem dX5_from_40 : decode cX5_from 40 = .ok (.aload_n 0, 1) := by decide +kernel
theorem dX5_from_41 : decode cX5_from 41 = .ok (.getfield 10, 3) := by decide +kernel
theorem dX5_from_44 : decode cX5_from 44 = .ok (.aload_n 0, 1) := by decide +kernel
theorem dX5_from_45 : decode cX5_from 45 = .ok (.getfield 19, 3) := by decide +kernel
theorem dX5_from_48 : decode cX5_from 48 = .ok (.iload_n 1, 1) := by decide +kernel
theorem dX5_from_49 : decode cX5_from 49 = .ok (.aaload, 1) := by decide +kernel
theorem dX5_from_50 : decode cX5_from 50 = .ok (.invokevirtual 143, 3) := by decide +kernel
theorem dX5_from_53 : decode cX5_from 53 = .ok (.iconst 1, 1) := by decide +kernel
theorem dX5_from_54 : decode cX5_from 54 = .ok (.ireturn, 1) := by decide +kernel
theorem dX5_status_0 : decode cX5_status 0 = .ok (.iload_n 1, 1) := by decide +kernel
theorem dX5_status_1 : decode cX5_status 1 = .ok (.tableswitch 42 0 2 #[27, 32, 37], 27) := by decide +kernel
theorem dX5_status_28 : decode cX5_status 28 = .ok (.aload_n 0, 1) := by decide +kernel
theorem dX5_status_29 : decode cX5_status 29 = .ok (.getfield 241, 3) := by decide +kernel
theorem dX5_status_32 : decode cX5_status 32 = .ok (.ireturn, 1) := by decide +kernel
theorem dX5_status_33 : decode cX5_status 33 = .ok (.aload_n 0, 1) := by decide +kernel
theorem dX5_status_34 : decode cX5_status 34 = .ok (.getfield 244, 3) := by decide +kernel
theorem dX5_status_37 : decode cX5_status 37 = .ok (.ireturn, 1) := by decide +kernel
theorem dX5_status_38 : decode cX5_status 38 = .ok (.aload_n 0, 1) := by decide +kernel
theorem dX5_status_39 : decode cX5_status 39 = .ok (.getfield 247, 3) := by decide +kernel
theorem dX5_status_42 : decode cX5_status 42 = .ok (.ireturn, 1) := by decide +kernel
theorem dX5_status_43 : decode cX5_status 43 = .ok (.aload_n 0, 1) := by decide +kernel
theorem dX5_status_44 : decode cX5_status 44 = .ok (.iconst (-1), 1) := by decide +kernel
theorem dX5_status_45 : decode cX5_status 45 = .ok (.invokevirtual 63, 3) := by decide +kernel
theorem dX5_status_48 : decode cX5_status 48 = .ok (.ireturn, 1) := by decide +kernel
theorem dX5_count_0 : decode cX5_count 0 = .ok (.iload_n 1, 1) := by decide +kernel
theorem dX5_count_1 : decode cX5_count 1 = .ok (.iconst 0, 1) := by decide +kernel
theorem dX5_count_2 : decode cX5_count 2 = .ok (.iconst 4, 1) := by decide +kernel
theorem dX5_count_3 : decode cX5_count 3 = .ok (.invokestatic 82, 3) := by decide +kernel
theorem dX5_count_6 : decode cX5_count 6 = .ok (.ifCond .eq 11, 3) := by decide +kernel
theorem dX5_count_9 : decode cX5_count 9 = .ok (.aload_n 0, 1) := by decide +kernel
theorem dX5_count_10 : decode cX5_count 10 = .ok (.iload_n 1, 1) := by decide +kernel
theorem dX5_count_11 : decode cX5_count 11 = .ok (.invokevirtual 250, 3) := by decide +kernel
theorem dX5_count_14 : decode cX5_count 14 = .ok (.goto 9, 3) := by decide +kernel
theorem dX5_count_17 : decode cX5_count 17 = .ok (.aload_n 0, 1) := by decide +kernel
theorem dX5_count_18 : decode cX5_count 18 = .ok (.bipush (-2), 2) := by decide +kernel
theorem dX5_count_20 : decode cX5_count 20 = .ok (.invokevirtual 63, 3) := by decide +kernel
theorem dX5_count_23 : decode cX5_count 23 = .ok (.ireturn, 1) := by decide +kernel
theorem dX5_digest_0 : decode cX5_digest 0 = .ok (.ldc2_w 253, 3) := by decide +kernel
theorem dX5_digest_3 : decode cX5_digest 3 = .ok (.lstore_n 1, 1) := by decide +kernel
theorem dX5_digest_4 : decode cX5_digest 4 = .ok (.iconst 0, 1) := by decide +kernel
theorem dX5_digest_5 : decode cX5_digest 5 = .ok (.istore_n 3, 1) := by decide +kernel
theorem dX5_digest_6 : decode cX5_digest 6 = .ok (.iload_n 3, 1) := by decide +kernel
theorem dX5_digest_7 : decode cX5_digest 7 = .ok (.iconst 4, 1) := by decide +kernel
theorem dX5_digest_8 : decode cX5_digest 8 = .ok (.if_icmp .gt 22, 3) := by decide +kernel
theorem dX5_digest_11 : decode cX5_digest 11 = .ok (.ldc2_w 255, 3) := by decide +kernel
theorem dX5_digest_14 : decode cX5_digest 14 = .ok (.lload_n 1, 1) := by decide +kernel
theorem dX5_digest_15 : decode cX5_digest 15 = .ok (.lmul, 1) := by decide +kernel
theorem dX5_digest_16 : decode cX5_digest 16 = .ok (.aload_n 0, 1) := by decide +kernel
theorem dX5_digest_17 : decode cX5_digest 17 = .ok (.iload_n 3, 1) := by decide +kernel
theorem dX5_digest_18 : decode cX5_digest 18 = .ok (.invokevirtual 250, 3) := by decide +kernel
theorem dX5_digest_21 : decode cX5_digest 21 = .ok (.i2l, 1) := by decide +kernel
theorem dX5_digest_22 : decode cX5_digest 22 = .ok (.ladd, 1) := by decide +kernel
theorem dX5_digest_23 : decode cX5_digest 23 = .ok (.lstore_n 1, 1) := by decide +kernel
theorem dX5_digest_24 : decode cX5_digest 24 = .ok (.iinc 3 1, 3) := by decide +kernel
theorem dX5_digest_27 : decode cX5_digest 27 = .ok (.goto (-21), 3) := by decide +kernel
theorem dX5_digest_30 : decode cX5_digest 30 = .ok (.iconst 0, 1) := by decide +kernel
theorem dX5_digest_31 : decode cX5_digest 31 = .ok (.istore_n 3, 1) := by decide +kernel
theorem dX5_digest_32 : decode cX5_digest 32 = .ok (.iload_n 3, 1) := by decide +kernel
theorem dX5_digest_33 : decode cX5_digest 33 = .ok (.aload_n 0, 1) := by decide +kernel
theorem dX5_digest_34 : decode cX5_digest 34 = .ok (.getfield 10, 3) := by decide +kernel
theorem dX5_digest_37 : decode cX5_digest 37 = .ok (.getfield 67, 3) := by decide +kernel
theorem dX5_digest_40 : decode cX5_digest 40 = .ok (.if_icmp .ge 26, 3) := by decide +kernel
theorem dX5_digest_43 : decode cX5_digest 43 = .ok (.ldc2_w 255, 3) := by decide +kernel
theorem dX5_digest_46 : decode cX5_digest 46 = .ok (.lload_n 1, 1) := by decide +kernel
theorem dX5_digest_47 : decode cX5_digest 47 = .ok (.lmul, 1) := by decide +kernel
theorem dX5_digest_48 : decode cX5_digest 48 = .ok (.aload_n 0, 1) := by decide +kernel
theorem dX5_digest_49 : decode cX5_digest 49 = .ok (.getfield 10, 3) := by decide +kernel
theorem dX5_digest_52 : decode cX5_digest 52 = .ok (.getfield 257, 3) := by decide +kernel
theorem dX5_digest_55 : decode cX5_digest 55 = .ok (.iload_n 3, 1) := by decide +kernel
theorem dX5_digest_56 : decode cX5_digest 56 = .ok (.iaload, 1) := by decide +kernel
theorem dX5_digest_57 : decode cX5_digest 57 = .ok (.i2l, 1) := by decide +kernel
theorem dX5_digest_58 : decode cX5_digest 58 = .ok (.ladd, 1) := by decide +kernel
theorem dX5_digest_59 : decode cX5_digest 59 = .ok (.lstore_n 1, 1) := by decide +kernel
theorem dX5_digest_60 : decode cX5_digest 60 = .ok (.iinc 3 1, 3) := by decide +kernel
theorem dX5_digest_63 : decode cX5_digest 63 = .ok (.goto (-31), 3) := by decide +kernel
theorem dX5_digest_66 : decode cX5_digest 66 = .ok (.ldc2_w 255, 3) := by decide +kernel
theorem dX5_digest_69 : decode cX5_digest 69 = .ok (.lload_n 1, 1) := by decide +kernel
theorem dX5_digest_70 : decode cX5_digest 70 = .ok (.lmul, 1) := by decide +kernel
theorem dX5_digest_71 : decode cX5_digest 71 = .ok (.aload_n 0, 1) := by decide +kernel
theorem dX5_digest_72 : decode cX5_digest 72 = .ok (.getfield 10, 3) := by decide +kernel
theorem dX5_digest_75 : decode cX5_digest 75 = .ok (.getfield 147, 3) := by decide +kernel
theorem dX5_digest_78 : decode cX5_digest 78 = .ok (.i2l, 1) := by decide +kernel
theorem dX5_digest_79 : decode cX5_digest 79 = .ok (.ladd, 1) := by decide +kernel
theorem dX5_digest_80 : decode cX5_digest 80 = .ok (.lstore_n 1, 1) := by decide +kernel
theorem dX5_digest_81 : decode cX5_digest 81 = .ok (.ldc2_w 255, 3) := by decide +kernel
theorem dX5_digest_84 : decode cX5_digest 84 = .ok (.lload_n 1, 1) := by decide +kernel
theorem dX5_digest_85 : decode cX5_digest 85 = .ok (.lmul, 1) := by decide +kernel
theorem dX5_digest_86 : decode cX5_digest 86 = .ok (.aload_n 0, 1) := by decide +kernel
theorem dX5_digest_87 : decode cX5_digest 87 = .ok (.getfield 10, 3) := by decide +kernel
theorem dX5_digest_90 : decode cX5_digest 90 = .ok (.getfield 260, 3) := by decide +kernel
theorem dX5_digest_93 : decode cX5_digest 93 = .ok (.i2l, 1) := by decide +kernel
theorem dX5_digest_94 : decode cX5_digest 94 = .ok (.ladd, 1) := by decide +kernel
theorem dX5_digest_95 : decode cX5_digest 95 = .ok (.lstore_n 1, 1) := by decide +kernel
theorem dX5_digest_96 : decode cX5_digest 96 = .ok (.iconst 0, 1) := by decide +kernel
theorem dX5_digest_97 : decode cX5_digest 97 = .ok (.istore_n 3, 1) := by decide +kernel
theorem dX5_digest_98 : decode cX5_digest 98 = .ok (.iload_n 3, 1) := by decide +kernel
theorem dX5_digest_99 : decode cX5_digest 99 = .ok (.aload_n 0, 1) := by decide +kernel
theorem dX5_digest_100 : decode cX5_digest 100 = .ok (.getfield 10, 3) := by decide +kernel
theorem dX5_digest_103 : decode cX5_digest 103 = .ok (.getfield 191, 3) := by decide +kernel
theorem dX5_digest_106 : decode cX5_digest 106 = .ok (.if_icmp .ge 26, 3) := by decide +kernel
theorem dX5_digest_109 : decode cX5_digest 109 = .ok (.ldc2_w 255, 3) := by decide +kernel
theorem dX5_digest_112 : decode cX5_digest 112 = .ok (.lload_n 1, 1) := by decide +kernel
theorem dX5_digest_113 : decode cX5_digest 113 = .ok (.lmul, 1) := by decide +kernel
theorem dX5_digest_114 : decode cX5_digest 114 = .ok (.aload_n 0, 1) := by decide +kernel
theorem dX5_digest_115 : decode cX5_digest 115 = .ok (.getfield 10, 3) := by decide +kernel
theorem dX5_digest_118 : decode cX5_digest 118 = .ok (.getfield 263, 3) := by decide +kernel
theorem dX5_digest_121 : decode cX5_digest 121 = .ok (.iload_n 3, 1) := by decide +kernel
theorem dX5_digest_122 : decode cX5_digest 122 = .ok (.iaload, 1) := by decide +kernel
theorem dX5_digest_123 : decode cX5_digest 123 = .ok (.i2l, 1) := by decide +kernel
theorem dX5_digest_124 : decode cX5_digest 124 = .ok (.ladd, 1) := by decide +kernel
theorem dX5_digest_125 : decode cX5_digest 125 = .ok (.lstore_n 1, 1) := by decide +kernel
theorem dX5_digest_126 : decode cX5_digest 126 = .ok (.iinc 3 1, 3) := by decide +kernel
theorem dX5_digest_129 : decode cX5_digest 129 = .ok (.goto (-31), 3) := by decide +kernel
theorem dX5_digest_132 : decode cX5_digest 132 = .ok (.iconst 0, 1) := by decide +kernel
theorem dX5_digest_133 : decode cX5_digest 133 = .ok (.istore_n 3, 1) := by decide +kernel
theorem dX5_digest_134 : decode cX5_digest 134 = .ok (.iload_n 3, 1) := by decide +kernel
theorem dX5_digest_135 : decode cX5_digest 135 = .ok (.aload_n 0, 1) := by decide +kernel
theorem dX5_digest_136 : decode cX5_digest 136 = .ok (.getfield 10, 3) := by decide +kernel
theorem dX5_digest_139 : decode cX5_digest 139 = .ok (.getfield 202, 3) := by decide +kernel
theorem dX5_digest_142 : decode cX5_digest 142 = .ok (.if_icmp .ge 16, 3) := by decide +kernel
theorem dX5_digest_145 : decode cX5_digest 145 = .ok (.aload_n 0, 1) := by decide +kernel
theorem dX5_digest_146 : decode cX5_digest 146 = .ok (.lload_n 1, 1) := by decide +kernel
theorem dX5_digest_147 : decode cX5_digest 147 = .ok (.iload_n 3, 1) := by decide +kernel
theorem dX5_digest_148 : decode cX5_digest 148 = .ok (.invokevirtual 266, 3) := by decide +kernel
theorem dX5_digest_151 : decode cX5_digest 151 = .ok (.lstore_n 1, 1) := by decide +kernel
theorem dX5_digest_152 : decode cX5_digest 152 = .ok (.iinc 3 1, 3) := by decide +kernel
theorem dX5_digest_155 : decode cX5_digest 155 = .ok (.goto (-21), 3) := by decide +kernel
theorem dX5_digest_158 : decode cX5_digest 158 = .ok (.ldc2_w 255, 3) := by decide +kernel
theorem dX5_digest_161 : decode cX5_digest 161 = .ok (.lload_n 1, 1) := by decide +kernel
theorem dX5_digest_162 : decode cX5_digest 162 = .ok (.lmul, 1) := by decide +kernel
theorem dX5_digest_163 : decode cX5_digest 163 = .ok (.aload_n 0, 1) := by decide +kernel
theorem dX5_digest_164 : decode cX5_digest 164 = .ok (.getfield 238, 3) := by decide +kernel
theorem dX5_digest_167 : decode cX5_digest 167 = .ok (.ladd, 1) := by decide +kernel
theorem dX5_digest_168 : decode cX5_digest 168 = .ok (.lstore_n 1, 1) := by decide +kernel
theorem dX5_digest_169 : decode cX5_digest 169 = .ok (.ldc2_w 255, 3) := by decide +kernel
theorem dX5_digest_172 : decode cX5_digest 172 = .ok (.lload_n 1, 1) := by decide +kernel
theorem dX5_digest_173 : decode cX5_digest 173 = .ok (.lmul, 1) := by decide +kernel
theorem dX5_digest_174 : decode cX5_digest 174 = .ok (.aload_n 0, 1) := by decide +kernel
theorem dX5_digest_175 : decode cX5_digest 175 = .ok (.getfield 55, 3) := by decide +kernel
theorem dX5_digest_178 : decode cX5_digest 178 = .ok (.ladd, 1) := by decide +kernel
theorem dX5_digest_179 : decode cX5_digest 179 = .ok (.lreturn, 1) := by decide +kernel
theorem dX5_refuseBad_0 : decode cX5_refuseBad 0 = .ok (.aload_n 0, 1) := by decide +kernel
theorem dX5_refuseBad_1 : decode cX5_refuseBad 1 = .ok (.dup, 1) := by decide +kernel
theorem dX5_refuseBad_2 : decode cX5_refuseBad 2 = .ok (.getfield 241, 3) := by decide +kernel
theorem dX5_refuseBad_5 : decode cX5_refuseBad 5 = .ok (.iconst 1, 1) := by decide +kernel
theorem dX5_refuseBad_6 : decode cX5_refuseBad 6 = .ok (.iadd, 1) := by decide +kernel
theorem dX5_refuseBad_7 : decode cX5_refuseBad 7 = .ok (.putfield 241, 3) := by decide +kernel
theorem dX5_refuseBad_10 : decode cX5_refuseBad 10 = .ok (.iload_n 1, 1) := by decide +kernel
theorem dX5_refuseBad_11 : decode cX5_refuseBad 11 = .ok (.ireturn, 1) := by decide +kernel
theorem dX5_refuseNo_0 : decode cX5_refuseNo 0 = .ok (.aload_n 0, 1) := by decide +kernel
theorem dX5_refuseNo_1 : decode cX5_refuseNo 1 = .ok (.dup, 1) := by decide +kernel
theorem dX5_refuseNo_2 : decode cX5_refuseNo 2 = .ok (.getfield 244, 3) := by decide +kernel
theorem dX5_refuseNo_5 : decode cX5_refuseNo 5 = .ok (.iconst 1, 1) := by decide +kernel
theorem dX5_refuseNo_6 : decode cX5_refuseNo 6 = .ok (.iadd, 1) := by decide +kernel
theorem dX5_refuseNo_7 : decode cX5_refuseNo 7 = .ok (.putfield 244, 3) := by decide +kernel
theorem dX5_refuseNo_10 : decode cX5_refuseNo 10 = .ok (.bipush (-3), 2) := by decide +kernel
theorem dX5_refuseNo_12 : decode cX5_refuseNo 12 = .ok (.ireturn, 1) := by decide +kernel
theorem dX5_refuseFull_0 : decode cX5_refuseFull 0 = .ok (.aload_n 0, 1) := by decide +kernel
theorem dX5_refuseFull_1 : decode cX5_refuseFull 1 = .ok (.dup, 1) := by decide +kernel
theorem dX5_refuseFull_2 : decode cX5_refuseFull 2 = .ok (.getfield 247, 3) := by decide +kernel
theorem dX5_refuseFull_5 : decode cX5_refuseFull 5 = .ok (.iconst 1, 1) := by decide +kernel
theorem dX5_refuseFull_6 : decode cX5_refuseFull 6 = .ok (.iadd, 1) := by decide +kernel
theorem dX5_refuseFull_7 : decode cX5_refuseFull 7 = .ok (.putfield 247, 3) := by decide +kernel
theorem dX5_refuseFull_10 : decode cX5_refuseFull 10 = .ok (.bipush (-4), 2) := by decide +kernel
theorem dX5_refuseFull_12 : decode cX5_refuseFull 12 = .ok (.ireturn, 1) := by decide +kernel
theorem dX5_putKind_0 : decode cX5_putKind 0 = .ok (.aload_n 0, 1) := by decide +kernel
theorem dX5_putKind_1 : decode cX5_putKind 1 = .ok (.dup, 1) := by decide +kernel
theorem dX5_putKind_2 : decode cX5_putKind 2 = .ok (.getfield 75, 3) := by decide +kernel
theorem dX5_putKind_5 : decode cX5_putKind 5 = .ok (.iconst 1, 1) := by decide +kernel
theorem dX5_putKind_6 : decode cX5_putKind 6 = .ok (.iadd, 1) := by decide +kernel
theorem dX5_putKind_7 : decode cX5_putKind 7 = .ok (.putfield 75, 3) := by decide +kernel
theorem dX5_putKind_10 : decode cX5_putKind 10 = .ok (.aload_n 0, 1) := by decide +kernel
theorem dX5_putKind_11 : decode cX5_putKind 11 = .ok (.getfield 10, 3) := by decide +kernel
theorem dX5_putKind_14 : decode cX5_putKind 14 = .ok (.getfield 263, 3) := by decide +kernel
theorem dX5_putKind_17 : decode cX5_putKind 17 = .ok (.iload_n 1, 1) := by decide +kernel
theorem dX5_putKind_18 : decode cX5_putKind 18 = .ok (.iaload, 1) := by decide +kernel
theorem dX5_putKind_19 : decode cX5_putKind 19 = .ok (.istore_n 3, 1) := by decide +kernel
theorem dX5_putKind_20 : decode cX5_putKind 20 = .ok (.aload_n 0, 1) := by decide +kernel
theorem dX5_putKind_21 : decode cX5_putKind 21 = .ok (.getfield 10, 3) := by decide +kernel
theorem dX5_putKind_24 : decode cX5_putKind 24 = .ok (.getfield 263, 3) := by decide +kernel
theorem dX5_putKind_27 : decode cX5_putKind 27 = .ok (.iload_n 1, 1) := by decide +kernel
theorem dX5_putKind_28 : decode cX5_putKind 28 = .ok (.iload_n 2, 1) := by decide +kernel
theorem dX5_putKind_29 : decode cX5_putKind 29 = .ok (.iastore, 1) := by decide +kernel
theorem dX5_putKind_30 : decode cX5_putKind 30 = .ok (.iload_n 3, 1) := by decide +kernel
theorem dX5_putKind_31 : decode cX5_putKind 31 = .ok (.ireturn, 1) := by decide +kernel
theorem dX5_putLine_0 : decode cX5_putLine 0 = .ok (.aload_n 0, 1) := by decide +kernel
theorem dX5_putLine_1 : decode cX5_putLine 1 = .ok (.dup, 1) := by decide +kernel
theorem dX5_putLine_2 : decode cX5_putLine 2 = .ok (.getfield 75, 3) := by decide +kernel
theorem dX5_putLine_5 : decode cX5_putLine 5 = .ok (.iconst 1, 1) := by decide +kernel
theorem dX5_putLine_6 : decode cX5_putLine 6 = .ok (.iadd, 1) := by decide +kernel
theorem dX5_putLine_7 : decode cX5_putLine 7 = .ok (.putfield 75, 3) := by decide +kernel
theorem dX5_putLine_10 : decode cX5_putLine 10 = .ok (.aload_n 0, 1) := by decide +kernel
theorem dX5_putLine_11 : decode cX5_putLine 11 = .ok (.getfield 10, 3) := by decide +kernel
theorem dX5_putLine_14 : decode cX5_putLine 14 = .ok (.getfield 147, 3) := by decide +kernel
theorem dX5_putLine_17 : decode cX5_putLine 17 = .ok (.istore_n 2, 1) := by decide +kernel
theorem dX5_putLine_18 : decode cX5_putLine 18 = .ok (.aload_n 0, 1) := by decide +kernel
theorem dX5_putLine_19 : decode cX5_putLine 19 = .ok (.getfield 10, 3) := by decide +kernel
theorem dX5_putLine_22 : decode cX5_putLine 22 = .ok (.iload_n 1, 1) := by decide +kernel
theorem dX5_putLine_23 : decode cX5_putLine 23 = .ok (.putfield 147, 3) := by decide +kernel
theorem dX5_putLine_26 : decode cX5_putLine 26 = .ok (.iload_n 2, 1) := by decide +kernel
theorem dX5_putLine_27 : decode cX5_putLine 27 = .ok (.ireturn, 1) := by decide +kernel
theorem dX5_putRich_0 : decode cX5_putRich 0 = .ok (.aload_n 0, 1) := by decide +kernel
theorem dX5_putRich_1 : decode cX5_putRich 1 = .ok (.dup, 1) := by decide +kernel
theorem dX5_putRich_2 : decode cX5_putRich 2 = .ok (.getfield 75, 3) := by decide +kernel
theorem dX5_putRich_5 : decode cX5_putRich 5 = .ok (.iconst 1, 1) := by decide +kernel
theorem dX5_putRich_6 : decode cX5_putRich 6 = .ok (.iadd, 1) := by decide +kernel
theorem dX5_putRich_7 : decode cX5_putRich 7 = .ok (.putfield 75, 3) := by decide +kernel
theorem dX5_putRich_10 : decode cX5_putRich 10 = .ok (.aload_n 0, 1) := by decide +kernel
theorem dX5_putRich_11 : decode cX5_putRich 11 = .ok (.getfield 10, 3) := by decide +kernel
theorem dX5_putRich_14 : decode cX5_putRich 14 = .ok (.getfield 260, 3) := by decide +kernel
theorem dX5_putRich_17 : decode cX5_putRich 17 = .ok (.istore_n 2, 1) := by decide +kernel
theorem dX5_putRich_18 : decode cX5_putRich 18 = .ok (.aload_n 0, 1) := by decide +kernel
theorem dX5_putRich_19 : decode cX5_putRich 19 = .ok (.getfield 10, 3) := by decide +kernel
theorem dX5_putRich_22 : decode cX5_putRich 22 = .ok (.iload_n 1, 1) := by decide +kernel
theorem dX5_putRich_23 : decode cX5_putRich 23 = .ok (.putfield 260, 3) := by decide +kernel
theorem dX5_putRich_26 : decode cX5_putRich 26 = .ok (.iload_n 2, 1) := by decide +kernel
theorem dX5_putRich_27 : decode cX5_putRich 27 = .ok (.ireturn, 1) := by decide +kernel
theorem dX5_allFines_0 : decode cX5_allFines 0 = .ok (.aload_n 0, 1) := by decide +kernel
theorem dX5_allFines_1 : decode cX5_allFines 1 = .ok (.getfield 37, 3) := by decide +kernel
theorem dX5_allFines_4 : decode cX5_allFines 4 = .ok (.aload_n 0, 1) := by decide +kernel
theorem dX5_allFines_5 : decode cX5_allFines 5 = .ok (.getfield 10, 3) := by decide +kernel
theorem dX5_allFines_8 : decode cX5_allFines 8 = .ok (.aload_n 0, 1) := by decide +kernel
theorem dX5_allFines_9 : decode cX5_allFines 9 = .ok (.getfield 10, 3) := by decide +kernel
theorem dX5_allFines_12 : decode cX5_allFines 12 = .ok (.getfield 147, 3) := by decide +kernel
theorem dX5_allFines_15 : decode cX5_allFines 15 = .ok (.iload_n 1, 1) := by decide +kernel
theorem dX5_allFines_16 : decode cX5_allFines 16 = .ok (.invokevirtual 150, 3) := by decide +kernel
theorem dX5_allFines_19 : decode cX5_allFines 19 = .ok (.aload_n 0, 1) := by decide +kernel
theorem dX5_allFines_20 : decode cX5_allFines 20 = .ok (.getfield 37, 3) := by decide +kernel
theorem dX5_allFines_23 : decode cX5_allFines 23 = .ok (.aload_n 0, 1) := by decide +kernel
theorem dX5_allFines_24 : decode cX5_allFines 24 = .ok (.getfield 10, 3) := by decide +kernel
theorem dX5_allFines_27 : decode cX5_allFines 27 = .ok (.aload_n 0, 1) := by decide +kernel
theorem dX5_allFines_28 : decode cX5_allFines 28 = .ok (.getfield 10, 3) := by decide +kernel
theorem dX5_allFines_31 : decode cX5_allFines 31 = .ok (.getfield 106, 3) := by decide +kernel
theorem dX5_allFines_34 : decode cX5_allFines 34 = .ok (.aload_n 0, 1) := by decide +kernel
theorem dX5_allFines_35 : decode cX5_allFines 35 = .ok (.getfield 10, 3) := by decide +kernel
theorem dX5_allFines_38 : decode cX5_allFines 38 = .ok (.getfield 191, 3) := by decide +kernel
theorem dX5_allFines_41 : decode cX5_allFines 41 = .ok (.invokevirtual 194, 3) := by decide +kernel
theorem dX5_allFines_44 : decode cX5_allFines 44 = .ok (.ireturn, 1) := by decide +kernel
theorem dX5_finesOfOne_0 : decode cX5_finesOfOne 0 = .ok (.iconst 0, 1) := by decide +kernel
theorem dX5_finesOfOne_1 : decode cX5_finesOfOne 1 = .ok (.istore_n 2, 1) := by decide +kernel
theorem dX5_finesOfOne_2 : decode cX5_finesOfOne 2 = .ok (.iconst 0, 1) := by decide +kernel
theorem dX5_finesOfOne_3 : decode cX5_finesOfOne 3 = .ok (.istore_n 3, 1) := by decide +kernel
theorem dX5_finesOfOne_4 : decode cX5_finesOfOne 4 = .ok (.iload_n 3, 1) := by decide +kernel
theorem dX5_finesOfOne_5 : decode cX5_finesOfOne 5 = .ok (.aload_n 0, 1) := by decide +kernel
theorem dX5_finesOfOne_6 : decode cX5_finesOfOne 6 = .ok (.getfield 10, 3) := by decide +kernel
theorem dX5_finesOfOne_9 : decode cX5_finesOfOne 9 = .ok (.getfield 191, 3) := by decide +kernel
theorem dX5_finesOfOne_12 : decode cX5_finesOfOne 12 = .ok (.if_icmp .ge 36, 3) := by decide +kernel
theorem dX5_finesOfOne_15 : decode cX5_finesOfOne 15 = .ok (.iload_n 2, 1) := by decide +kernel
theorem dX5_finesOfOne_16 : decode cX5_finesOfOne 16 = .ok (.aload_n 0, 1) := by decide +kernel
theorem dX5_finesOfOne_17 : decode cX5_finesOfOne 17 = .ok (.getfield 37, 3) := by decide +kernel
theorem dX5_finesOfOne_20 : decode cX5_finesOfOne 20 = .ok (.aload_n 0, 1) := by decide +kernel
theorem dX5_finesOfOne_21 : decode cX5_finesOfOne 21 = .ok (.getfield 10, 3) := by decide +kernel
theorem dX5_finesOfOne_24 : decode cX5_finesOfOne 24 = .ok (.iload_n 3, 1) := by decide +kernel
theorem dX5_finesOfOne_25 : decode cX5_finesOfOne 25 = .ok (.iload_n 1, 1) := by decide +kernel
theorem dX5_finesOfOne_26 : decode cX5_finesOfOne 26 = .ok (.aload_n 0, 1) := by decide +kernel
theorem dX5_finesOfOne_27 : decode cX5_finesOfOne 27 = .ok (.getfield 10, 3) := by decide +kernel
theorem dX5_finesOfOne_30 : decode cX5_finesOfOne 30 = .ok (.getfield 106, 3) := by decide +kernel
theorem dX5_finesOfOne_33 : decode cX5_finesOfOne 33 = .ok (.iload_n 3, 1) := by decide +kernel
theorem dX5_finesOfOne_34 : decode cX5_finesOfOne 34 = .ok (.aaload, 1) := by decide +kernel
theorem dX5_finesOfOne_35 : decode cX5_finesOfOne 35 = .ok (.iload_n 1, 1) := by decide +kernel
theorem dX5_finesOfOne_36 : decode cX5_finesOfOne 36 = .ok (.iaload, 1) := by decide +kernel
theorem dX5_finesOfOne_37 : decode cX5_finesOfOne 37 = .ok (.invokevirtual 158, 3) := by decide +kernel
theorem dX5_finesOfOne_40 : decode cX5_finesOfOne 40 = .ok (.iadd, 1) := by decide +kernel
theorem dX5_finesOfOne_41 : decode cX5_finesOfOne 41 = .ok (.istore_n 2, 1) := by decide +kernel
theorem dX5_finesOfOne_42 : decode cX5_finesOfOne 42 = .ok (.iinc 3 1, 3) := by decide +kernel
theorem dX5_finesOfOne_45 : decode cX5_finesOfOne 45 = .ok (.goto (-41), 3) := by decide +kernel
theorem dX5_finesOfOne_48 : decode cX5_finesOfOne 48 = .ok (.iload_n 2, 1) := by decide +kernel
theorem dX5_finesOfOne_49 : decode cX5_finesOfOne 49 = .ok (.ireturn, 1) := by decide +kernel
theorem dX5_timesCopied_0 : decode cX5_timesCopied 0 = .ok (.iconst 0, 1) := by decide +kernel
theorem dX5_timesCopied_1 : decode cX5_timesCopied 1 = .ok (.istore_n 3, 1) := by decide +kernel
theorem dX5_timesCopied_2 : decode cX5_timesCopied 2 = .ok (.iconst 1, 1) := by decide +kernel
theorem dX5_timesCopied_3 : decode cX5_timesCopied 3 = .ok (.istore 4, 2) := by decide +kernel
theorem dX5_timesCopied_5 : decode cX5_timesCopied 5 = .ok (.iload 4, 2) := by decide +kernel
theorem dX5_timesCopied_7 : decode cX5_timesCopied 7 = .ok (.aload_n 0, 1) := by decide +kernel
theorem dX5_timesCopied_8 : decode cX5_timesCopied 8 = .ok (.getfield 10, 3) := by decide +kernel
theorem dX5_timesCopied_11 : decode cX5_timesCopied 11 = .ok (.getfield 191, 3) := by decide +kernel
theorem dX5_timesCopied_14 : decode cX5_timesCopied 14 = .ok (.if_icmp .ge 52, 3) := by decide +kernel
theorem dX5_timesCopied_17 : decode cX5_timesCopied 17 = .ok (.aload_n 0, 1) := by decide +kernel
theorem dX5_timesCopied_18 : decode cX5_timesCopied 18 = .ok (.getfield 10, 3) := by decide +kernel
theorem dX5_timesCopied_21 : decode cX5_timesCopied 21 = .ok (.getfield 106, 3) := by decide +kernel
theorem dX5_timesCopied_24 : decode cX5_timesCopied 24 = .ok (.iload 4, 2) := by decide +kernel
theorem dX5_timesCopied_26 : decode cX5_timesCopied 26 = .ok (.iconst 1, 1) := by decide +kernel
theorem dX5_timesCopied_27 : decode cX5_timesCopied 27 = .ok (.isub, 1) := by decide +kernel
theorem dX5_timesCopied_28 : decode cX5_timesCopied 28 = .ok (.aaload, 1) := by decide +kernel
theorem dX5_timesCopied_29 : decode cX5_timesCopied 29 = .ok (.iload_n 2, 1) := by decide +kernel
theorem dX5_timesCopied_30 : decode cX5_timesCopied 30 = .ok (.iaload, 1) := by decide +kernel
theorem dX5_timesCopied_31 : decode cX5_timesCopied 31 = .ok (.istore 5, 2) := by decide +kernel
theorem dX5_timesCopied_33 : decode cX5_timesCopied 33 = .ok (.iload 5, 2) := by decide +kernel
theorem dX5_timesCopied_35 : decode cX5_timesCopied 35 = .ok (.bipush 9, 2) := by decide +kernel
theorem dX5_timesCopied_37 : decode cX5_timesCopied 37 = .ok (.if_icmp .eq 23, 3) := by decide +kernel
theorem dX5_timesCopied_40 : decode cX5_timesCopied 40 = .ok (.aload_n 0, 1) := by decide +kernel
theorem dX5_timesCopied_41 : decode cX5_timesCopied 41 = .ok (.getfield 10, 3) := by decide +kernel
theorem dX5_timesCopied_44 : decode cX5_timesCopied 44 = .ok (.getfield 106, 3) := by decide +kernel
theorem dX5_timesCopied_47 : decode cX5_timesCopied 47 = .ok (.iload 4, 2) := by decide +kernel
theorem dX5_timesCopied_49 : decode cX5_timesCopied 49 = .ok (.aaload, 1) := by decide +kernel
theorem dX5_timesCopied_50 : decode cX5_timesCopied 50 = .ok (.iload_n 1, 1) := by decide +kernel
theorem dX5_timesCopied_51 : decode cX5_timesCopied 51 = .ok (.iaload, 1) := by decide +kernel
theorem dX5_timesCopied_52 : decode cX5_timesCopied 52 = .ok (.iload 5, 2) := by decide +kernel
theorem dX5_timesCopied_54 : decode cX5_timesCopied 54 = .ok (.if_icmp .ne 6, 3) := by decide +kernel
theorem dX5_timesCopied_57 : decode cX5_timesCopied 57 = .ok (.iinc 3 1, 3) := by decide +kernel
theorem dX5_timesCopied_60 : decode cX5_timesCopied 60 = .ok (.iinc 4 1, 3) := by decide +kernel
theorem dX5_timesCopied_63 : decode cX5_timesCopied 63 = .ok (.goto (-58), 3) := by decide +kernel
theorem dX5_timesCopied_66 : decode cX5_timesCopied 66 = .ok (.iload_n 3, 1) := by decide +kernel
theorem dX5_timesCopied_67 : decode cX5_timesCopied 67 = .ok (.ireturn, 1) := by decide +kernel
theorem dX5_amount_0 : decode cX5_amount 0 = .ok (.iload_n 1, 1) := by decide +kernel
theorem dX5_amount_1 : decode cX5_amount 1 = .ok (.tableswitch 63 0 3 #[31, 39, 47, 55], 31) := by decide +kernel
theorem dX5_amount_32 : decode cX5_amount 32 = .ok (.aload_n 0, 1) := by decide +kernel
theorem dX5_amount_33 : decode cX5_amount 33 = .ok (.getfield 10, 3) := by decide +kernel
theorem dX5_amount_36 : decode cX5_amount 36 = .ok (.getfield 67, 3) := by decide +kernel
theorem dX5_amount_39 : decode cX5_amount 39 = .ok (.ireturn, 1) := by decide +kernel
theorem dX5_amount_40 : decode cX5_amount 40 = .ok (.aload_n 0, 1) := by decide +kernel
theorem dX5_amount_41 : decode cX5_amount 41 = .ok (.getfield 10, 3) := by decide +kernel
theorem dX5_amount_44 : decode cX5_amount 44 = .ok (.getfield 202, 3) := by decide +kernel
theorem dX5_amount_47 : decode cX5_amount 47 = .ok (.ireturn, 1) := by decide +kernel
theorem dX5_amount_48 : decode cX5_amount 48 = .ok (.aload_n 0, 1) := by decide +kernel
theorem dX5_amount_49 : decode cX5_amount 49 = .ok (.getfield 10, 3) := by decide +kernel
theorem dX5_amount_52 : decode cX5_amount 52 = .ok (.getfield 191, 3) := by decide +kernel
theorem dX5_amount_55 : decode cX5_amount 55 = .ok (.ireturn, 1) := by decide +kernel
theorem dX5_amount_56 : decode cX5_amount 56 = .ok (.aload_n 0, 1) := by decide +kernel
theorem dX5_amount_57 : decode cX5_amount 57 = .ok (.getfield 10, 3) := by decide +kernel
theorem dX5_amount_60 : decode cX5_amount 60 = .ok (.getfield 117, 3) := by decide +kernel
theorem dX5_amount_63 : decode cX5_amount 63 = .ok (.ireturn, 1) := by decide +kernel
theorem dX5_amount_64 : decode cX5_amount 64 = .ok (.aload_n 0, 1) := by decide +kernel
theorem dX5_amount_65 : decode cX5_amount 65 = .ok (.getfield 30, 3) := by decide +kernel
theorem dX5_amount_68 : decode cX5_amount 68 = .ok (.getfield 132, 3) := by decide +kernel
theorem dX5_amount_71 : decode cX5_amount 71 = .ok (.ireturn, 1) := by decide +kernel
theorem dX5_digestWith_0 : decode cX5_digestWith 0 = .ok (.lload_n 1, 1) := by decide +kernel
theorem dX5_digestWith_1 : decode cX5_digestWith 1 = .ok (.lstore 4, 2) := by decide +kernel
theorem dX5_digestWith_3 : decode cX5_digestWith 3 = .ok (.iconst 0, 1) := by decide +kernel
theorem dX5_digestWith_4 : decode cX5_digestWith 4 = .ok (.istore 6, 2) := by decide +kernel
theorem dX5_digestWith_6 : decode cX5_digestWith 6 = .ok (.iload 6, 2) := by decide +kernel
theorem dX5_digestWith_8 : decode cX5_digestWith 8 = .ok (.aload_n 0, 1) := by decide +kernel
theorem dX5_digestWith_9 : decode cX5_digestWith 9 = .ok (.getfield 10, 3) := by decide +kernel
theorem dX5_digestWith_12 : decode cX5_digestWith 12 = .ok (.getfield 191, 3) := by decide +kernel
theorem dX5_digestWith_15 : decode cX5_digestWith 15 = .ok (.if_icmp .ge 34, 3) := by decide +kernel
theorem dX5_digestWith_18 : decode cX5_digestWith 18 = .ok (.ldc2_w 255, 3) := by decide +kernel
theorem dX5_digestWith_21 : decode cX5_digestWith 21 = .ok (.lload 4, 2) := by decide +kernel
theorem dX5_digestWith_23 : decode cX5_digestWith 23 = .ok (.lmul, 1) := by decide +kernel
theorem dX5_digestWith_24 : decode cX5_digestWith 24 = .ok (.aload_n 0, 1) := by decide +kernel
theorem dX5_digestWith_25 : decode cX5_digestWith 25 = .ok (.getfield 10, 3) := by decide +kernel
theorem dX5_digestWith_28 : decode cX5_digestWith 28 = .ok (.getfield 106, 3) := by decide +kernel
theorem dX5_digestWith_31 : decode cX5_digestWith 31 = .ok (.iload 6, 2) := by decide +kernel
theorem dX5_digestWith_33 : decode cX5_digestWith 33 = .ok (.aaload, 1) := by decide +kernel
theorem dX5_digestWith_34 : decode cX5_digestWith 34 = .ok (.iload_n 3, 1) := by decide +kernel
theorem dX5_digestWith_35 : decode cX5_digestWith 35 = .ok (.iaload, 1) := by decide +kernel
theorem dX5_digestWith_36 : decode cX5_digestWith 36 = .ok (.invokestatic 114, 3) := by decide +kernel
theorem dX5_digestWith_39 : decode cX5_digestWith 39 = .ok (.i2l, 1) := by decide +kernel
theorem dX5_digestWith_40 : decode cX5_digestWith 40 = .ok (.ladd, 1) := by decide +kernel
theorem dX5_digestWith_41 : decode cX5_digestWith 41 = .ok (.lstore 4, 2) := by decide +kernel
theorem dX5_digestWith_43 : decode cX5_digestWith 43 = .ok (.iinc 6 1, 3) := by decide +kernel
theorem dX5_digestWith_46 : decode cX5_digestWith 46 = .ok (.goto (-40), 3) := by decide +kernel
theorem dX5_digestWith_49 : decode cX5_digestWith 49 = .ok (.iconst 0, 1) := by decide +kernel
theorem dX5_digestWith_50 : decode cX5_digestWith 50 = .ok (.istore 6, 2) := by decide +kernel
theorem dX5_digestWith_52 : decode cX5_digestWith 52 = .ok (.iload 6, 2) := by decide +kernel
theorem dX5_digestWith_54 : decode cX5_digestWith 54 = .ok (.aload_n 0, 1) := by decide +kernel
theorem dX5_digestWith_55 : decode cX5_digestWith 55 = .ok (.getfield 10, 3) := by decide +kernel
theorem dX5_digestWith_58 : decode cX5_digestWith 58 = .ok (.getfield 67, 3) := by decide +kernel
theorem dX5_digestWith_61 : decode cX5_digestWith 61 = .ok (.if_icmp .ge 31, 3) := by decide +kernel
theorem dX5_digestWith_64 : decode cX5_digestWith 64 = .ok (.ldc2_w 255, 3) := by decide +kernel
theorem dX5_digestWith_67 : decode cX5_digestWith 67 = .ok (.lload 4, 2) := by decide +kernel
theorem dX5_digestWith_69 : decode cX5_digestWith 69 = .ok (.lmul, 1) := by decide +kernel
theorem dX5_digestWith_70 : decode cX5_digestWith 70 = .ok (.aload_n 0, 1) := by decide +kernel
theorem dX5_digestWith_71 : decode cX5_digestWith 71 = .ok (.getfield 10, 3) := by decide +kernel
theorem dX5_digestWith_74 : decode cX5_digestWith 74 = .ok (.getfield 129, 3) := by decide +kernel
theorem dX5_digestWith_77 : decode cX5_digestWith 77 = .ok (.iload_n 3, 1) := by decide +kernel
theorem dX5_digestWith_78 : decode cX5_digestWith 78 = .ok (.aaload, 1) := by decide +kernel
theorem dX5_digestWith_79 : decode cX5_digestWith 79 = .ok (.iload 6, 2) := by decide +kernel
theorem dX5_digestWith_81 : decode cX5_digestWith 81 = .ok (.iaload, 1) := by decide +kernel
theorem dX5_digestWith_82 : decode cX5_digestWith 82 = .ok (.i2l, 1) := by decide +kernel
theorem dX5_digestWith_83 : decode cX5_digestWith 83 = .ok (.ladd, 1) := by decide +kernel
theorem dX5_digestWith_84 : decode cX5_digestWith 84 = .ok (.lstore 4, 2) := by decide +kernel
theorem dX5_digestWith_86 : decode cX5_digestWith 86 = .ok (.iinc 6 1, 3) := by decide +kernel
theorem dX5_digestWith_89 : decode cX5_digestWith 89 = .ok (.goto (-37), 3) := by decide +kernel
theorem dX5_digestWith_92 : decode cX5_digestWith 92 = .ok (.ldc2_w 255, 3) := by decide +kernel
theorem dX5_digestWith_95 : decode cX5_digestWith 95 = .ok (.lload 4, 2) := by decide +kernel
theorem dX5_digestWith_97 : decode cX5_digestWith 97 = .ok (.lmul, 1) := by decide +kernel
theorem dX5_digestWith_98 : decode cX5_digestWith 98 = .ok (.aload_n 0, 1) := by decide +kernel
theorem dX5_digestWith_99 : decode cX5_digestWith 99 = .ok (.getfield 10, 3) := by decide +kernel
theorem dX5_digestWith_102 : decode cX5_digestWith 102 = .ok (.getfield 209, 3) := by decide +kernel
theorem dX5_digestWith_105 : decode cX5_digestWith 105 = .ok (.iload_n 3, 1) := by decide +kernel
theorem dX5_digestWith_106 : decode cX5_digestWith 106 = .ok (.iaload, 1) := by decide +kernel
theorem dX5_digestWith_107 : decode cX5_digestWith 107 = .ok (.i2l, 1) := by decide +kernel
theorem dX5_digestWith_108 : decode cX5_digestWith 108 = .ok (.ladd, 1) := by decide +kernel
theorem dX5_digestWith_109 : decode cX5_digestWith 109 = .ok (.lreturn, 1) := by decide +kernel
theorem dX5_within_0 : decode cX5_within 0 = .ok (.iload_n 0, 1) := by decide +kernel
theorem dX5_within_1 : decode cX5_within 1 = .ok (.iload_n 1, 1) := by decide +kernel
theorem dX5_within_2 : decode cX5_within 2 = .ok (.if_icmp .lt 12, 3) := by decide +kernel
theorem dX5_within_5 : decode cX5_within 5 = .ok (.iload_n 0, 1) := by decide +kernel
theorem dX5_within_6 : decode cX5_within 6 = .ok (.iload_n 2, 1) := by decide +kernel
theorem dX5_within_7 : decode cX5_within 7 = .ok (.if_icmp .gt 7, 3) := by decide +kernel
theorem dX5_within_10 : decode cX5_within 10 = .ok (.iconst 1, 1) := by decide +kernel
theorem dX5_within_11 : decode cX5_within 11 = .ok (.goto 4, 3) := by decide +kernel
theorem dX5_within_14 : decode cX5_within 14 = .ok (.iconst 0, 1) := by decide +kernel
theorem dX5_within_15 : decode cX5_within 15 = .ok (.ireturn, 1) := by decide +kernel
theorem dX5_shown_0 : decode cX5_shown 0 = .ok (.iload_n 0, 1) := by decide +kernel
theorem dX5_shown_1 : decode cX5_shown 1 = .ok (.bipush 9, 2) := by decide +kernel
theorem dX5_shown_3 : decode cX5_shown 3 = .ok (.if_icmp .ne 7, 3) := by decide +kernel
theorem dX5_shown_6 : decode cX5_shown 6 = .ok (.iconst (-1), 1) := by decide +kernel
theorem dX5_shown_7 : decode cX5_shown 7 = .ok (.goto 4, 3) := by decide +kernel
theorem dX5_shown_10 : decode cX5_shown 10 = .ok (.iload_n 0, 1) := by decide +kernel
theorem dX5_shown_11 : decode cX5_shown 11 = .ok (.ireturn, 1) := by decide +kernel
theorem dX5_crowdsOfAtLeast_0 : decode cX5_crowdsOfAtLeast 0 = .ok (.lconst 0, 1) := by decide +kernel
theorem dX5_crowdsOfAtLeast_1 : decode cX5_crowdsOfAtLeast 1 = .ok (.lstore_n 3, 1) := by decide +kernel
theorem dX5_crowdsOfAtLeast_2 : decode cX5_crowdsOfAtLeast 2 = .ok (.lconst 1, 1) := by decide +kernel
theorem dX5_crowdsOfAtLeast_3 : decode cX5_crowdsOfAtLeast 3 = .ok (.lstore 5, 2) := by decide +kernel
theorem dX5_crowdsOfAtLeast_5 : decode cX5_crowdsOfAtLeast 5 = .ok (.lconst 1, 1) := by decide +kernel
theorem dX5_crowdsOfAtLeast_6 : decode cX5_crowdsOfAtLeast 6 = .ok (.lstore 7, 2) := by decide +kernel
theorem dX5_crowdsOfAtLeast_8 : decode cX5_crowdsOfAtLeast 8 = .ok (.iload_n 0, 1) := by decide +kernel
theorem dX5_crowdsOfAtLeast_9 : decode cX5_crowdsOfAtLeast 9 = .ok (.istore 9, 2) := by decide +kernel
theorem dX5_crowdsOfAtLeast_11 : decode cX5_crowdsOfAtLeast 11 = .ok (.iload 9, 2) := by decide +kernel
theorem dX5_crowdsOfAtLeast_13 : decode cX5_crowdsOfAtLeast 13 = .ok (.iload_n 2, 1) := by decide +kernel
theorem dX5_crowdsOfAtLeast_14 : decode cX5_crowdsOfAtLeast 14 = .ok (.if_icmp .lt 42, 3) := by decide +kernel
theorem dX5_crowdsOfAtLeast_17 : decode cX5_crowdsOfAtLeast 17 = .ok (.lload_n 3, 1) := by decide +kernel
theorem dX5_crowdsOfAtLeast_18 : decode cX5_crowdsOfAtLeast 18 = .ok (.lload 5, 2) := by decide +kernel
theorem dX5_crowdsOfAtLeast_20 : decode cX5_crowdsOfAtLeast 20 = .ok (.lload 7, 2) := by decide +kernel
theorem dX5_crowdsOfAtLeast_22 : decode cX5_crowdsOfAtLeast 22 = .ok (.lmul, 1) := by decide +kernel
theorem dX5_crowdsOfAtLeast_23 : decode cX5_crowdsOfAtLeast 23 = .ok (.ladd, 1) := by decide +kernel
theorem dX5_crowdsOfAtLeast_24 : decode cX5_crowdsOfAtLeast 24 = .ok (.lstore_n 3, 1) := by decide +kernel
theorem dX5_crowdsOfAtLeast_25 : decode cX5_crowdsOfAtLeast 25 = .ok (.lload 5, 2) := by decide +kernel
theorem dX5_crowdsOfAtLeast_27 : decode cX5_crowdsOfAtLeast 27 = .ok (.iload 9, 2) := by decide +kernel
theorem dX5_crowdsOfAtLeast_29 : decode cX5_crowdsOfAtLeast 29 = .ok (.i2l, 1) := by decide +kernel
theorem dX5_crowdsOfAtLeast_30 : decode cX5_crowdsOfAtLeast 30 = .ok (.lmul, 1) := by decide +kernel
theorem dX5_crowdsOfAtLeast_31 : decode cX5_crowdsOfAtLeast 31 = .ok (.iload_n 0, 1) := by decide +kernel
theorem dX5_crowdsOfAtLeast_32 : decode cX5_crowdsOfAtLeast 32 = .ok (.iload 9, 2) := by decide +kernel
theorem dX5_crowdsOfAtLeast_34 : decode cX5_crowdsOfAtLeast 34 = .ok (.isub, 1) := by decide +kernel
theorem dX5_crowdsOfAtLeast_35 : decode cX5_crowdsOfAtLeast 35 = .ok (.iconst 1, 1) := by decide +kernel
theorem dX5_crowdsOfAtLeast_36 : decode cX5_crowdsOfAtLeast 36 = .ok (.iadd, 1) := by decide +kernel
theorem dX5_crowdsOfAtLeast_37 : decode cX5_crowdsOfAtLeast 37 = .ok (.i2l, 1) := by decide +kernel
theorem dX5_crowdsOfAtLeast_38 : decode cX5_crowdsOfAtLeast 38 = .ok (.ldiv, 1) := by decide +kernel
theorem dX5_crowdsOfAtLeast_39 : decode cX5_crowdsOfAtLeast 39 = .ok (.lstore 5, 2) := by decide +kernel
theorem dX5_crowdsOfAtLeast_41 : decode cX5_crowdsOfAtLeast 41 = .ok (.lload 7, 2) := by decide +kernel
theorem dX5_crowdsOfAtLeast_43 : decode cX5_crowdsOfAtLeast 43 = .ok (.iload_n 1, 1) := by decide +kernel
theorem dX5_crowdsOfAtLeast_44 : decode cX5_crowdsOfAtLeast 44 = .ok (.iconst 1, 1) := by decide +kernel
theorem dX5_crowdsOfAtLeast_45 : decode cX5_crowdsOfAtLeast 45 = .ok (.isub, 1) := by decide +kernel
theorem dX5_crowdsOfAtLeast_46 : decode cX5_crowdsOfAtLeast 46 = .ok (.i2l, 1) := by decide +kernel
theorem dX5_crowdsOfAtLeast_47 : decode cX5_crowdsOfAtLeast 47 = .ok (.lmul, 1) := by decide +kernel
theorem dX5_crowdsOfAtLeast_48 : decode cX5_crowdsOfAtLeast 48 = .ok (.lstore 7, 2) := by decide +kernel
theorem dX5_crowdsOfAtLeast_50 : decode cX5_crowdsOfAtLeast 50 = .ok (.iinc 9 (-1), 3) := by decide +kernel
theorem dX5_crowdsOfAtLeast_53 : decode cX5_crowdsOfAtLeast 53 = .ok (.goto (-42), 3) := by decide +kernel
theorem dX5_crowdsOfAtLeast_56 : decode cX5_crowdsOfAtLeast 56 = .ok (.lload_n 3, 1) := by decide +kernel
theorem dX5_crowdsOfAtLeast_57 : decode cX5_crowdsOfAtLeast 57 = .ok (.lreturn, 1) := by decide +kernel
theorem dX5_commonDivisor_0 : decode cX5_commonDivisor 0 = .ok (.lload_n 0, 1) := by decide +kernel
theorem dX5_commonDivisor_1 : decode cX5_commonDivisor 1 = .ok (.lstore 4, 2) := by decide +kernel
theorem dX5_commonDivisor_3 : decode cX5_commonDivisor 3 = .ok (.lload_n 2, 1) := by decide +kernel
theorem dX5_commonDivisor_4 : decode cX5_commonDivisor 4 = .ok (.lstore 6, 2) := by decide +kernel
theorem dX5_commonDivisor_6 : decode cX5_commonDivisor 6 = .ok (.iconst 0, 1) := by decide +kernel
theorem dX5_commonDivisor_7 : decode cX5_commonDivisor 7 = .ok (.istore 8, 2) := by decide +kernel
theorem dX5_commonDivisor_9 : decode cX5_commonDivisor 9 = .ok (.iload 8, 2) := by decide +kernel
theorem dX5_commonDivisor_11 : decode cX5_commonDivisor 11 = .ok (.ldc 198, 2) := by decide +kernel
theorem dX5_commonDivisor_13 : decode cX5_commonDivisor 13 = .ok (.if_icmp .ge 31, 3) := by decide +kernel
theorem dX5_commonDivisor_16 : decode cX5_commonDivisor 16 = .ok (.lload 6, 2) := by decide +kernel
theorem dX5_commonDivisor_18 : decode cX5_commonDivisor 18 = .ok (.lconst 0, 1) := by decide +kernel
theorem dX5_commonDivisor_19 : decode cX5_commonDivisor 19 = .ok (.lcmp, 1) := by decide +kernel
theorem dX5_commonDivisor_20 : decode cX5_commonDivisor 20 = .ok (.ifCond .eq 24, 3) := by decide +kernel
theorem dX5_commonDivisor_23 : decode cX5_commonDivisor 23 = .ok (.lload 4, 2) := by decide +kernel
theorem dX5_commonDivisor_25 : decode cX5_commonDivisor 25 = .ok (.lload 6, 2) := by decide +kernel
theorem dX5_commonDivisor_27 : decode cX5_commonDivisor 27 = .ok (.lrem, 1) := by decide +kernel
theorem dX5_commonDivisor_28 : decode cX5_commonDivisor 28 = .ok (.lstore 9, 2) := by decide +kernel
theorem dX5_commonDivisor_30 : decode cX5_commonDivisor 30 = .ok (.lload 6, 2) := by decide +kernel
theorem dX5_commonDivisor_32 : decode cX5_commonDivisor 32 = .ok (.lstore 4, 2) := by decide +kernel
theorem dX5_commonDivisor_34 : decode cX5_commonDivisor 34 = .ok (.lload 9, 2) := by decide +kernel
theorem dX5_commonDivisor_36 : decode cX5_commonDivisor 36 = .ok (.lstore 6, 2) := by decide +kernel
theorem dX5_commonDivisor_38 : decode cX5_commonDivisor 38 = .ok (.iinc 8 1, 3) := by decide +kernel
theorem dX5_commonDivisor_41 : decode cX5_commonDivisor 41 = .ok (.goto (-32), 3) := by decide +kernel
theorem dX5_commonDivisor_44 : decode cX5_commonDivisor 44 = .ok (.lload 4, 2) := by decide +kernel
theorem dX5_commonDivisor_46 : decode cX5_commonDivisor 46 = .ok (.lreturn, 1) := by decide +kernel
theorem dX5_nextOrder_0 : decode cX5_nextOrder 0 = .ok (.iload_n 1, 1) := by decide +kernel
theorem dX5_nextOrder_1 : decode cX5_nextOrder 1 = .ok (.iconst 2, 1) := by decide +kernel
theorem dX5_nextOrder_2 : decode cX5_nextOrder 2 = .ok (.isub, 1) := by decide +kernel
theorem dX5_nextOrder_3 : decode cX5_nextOrder 3 = .ok (.istore_n 2, 1) := by decide +kernel
theorem dX5_nextOrder_4 : decode cX5_nextOrder 4 = .ok (.iload_n 2, 1) := by decide +kernel
theorem dX5_nextOrder_5 : decode cX5_nextOrder 5 = .ok (.ifCond .lt 20, 3) := by decide +kernel
theorem dX5_nextOrder_8 : decode cX5_nextOrder 8 = .ok (.aload_n 0, 1) := by decide +kernel
theorem dX5_nextOrder_9 : decode cX5_nextOrder 9 = .ok (.iload_n 2, 1) := by decide +kernel
theorem dX5_nextOrder_10 : decode cX5_nextOrder 10 = .ok (.iaload, 1) := by decide +kernel
theorem dX5_nextOrder_11 : decode cX5_nextOrder 11 = .ok (.aload_n 0, 1) := by decide +kernel
theorem dX5_nextOrder_12 : decode cX5_nextOrder 12 = .ok (.iload_n 2, 1) := by decide +kernel
theorem dX5_nextOrder_13 : decode cX5_nextOrder 13 = .ok (.iconst 1, 1) := by decide +kernel
theorem dX5_nextOrder_14 : decode cX5_nextOrder 14 = .ok (.iadd, 1) := by decide +kernel
theorem dX5_nextOrder_15 : decode cX5_nextOrder 15 = .ok (.iaload, 1) := by decide +kernel
theorem dX5_nextOrder_16 : decode cX5_nextOrder 16 = .ok (.if_icmp .lt 9, 3) := by decide +kernel
theorem dX5_nextOrder_19 : decode cX5_nextOrder 19 = .ok (.iinc 2 (-1), 3) := by decide +kernel
theorem dX5_nextOrder_22 : decode cX5_nextOrder 22 = .ok (.goto (-18), 3) := by decide +kernel
theorem dX5_nextOrder_25 : decode cX5_nextOrder 25 = .ok (.iload_n 2, 1) := by decide +kernel
theorem dX5_nextOrder_26 : decode cX5_nextOrder 26 = .ok (.ifCond .ge 5, 3) := by decide +kernel
theorem dX5_nextOrder_29 : decode cX5_nextOrder 29 = .ok (.iconst 0, 1) := by decide +kernel
theorem dX5_nextOrder_30 : decode cX5_nextOrder 30 = .ok (.ireturn, 1) := by decide +kernel
theorem dX5_nextOrder_31 : decode cX5_nextOrder 31 = .ok (.iload_n 1, 1) := by decide +kernel
theorem dX5_nextOrder_32 : decode cX5_nextOrder 32 = .ok (.iconst 1, 1) := by decide +kernel
theorem dX5_nextOrder_33 : decode cX5_nextOrder 33 = .ok (.isub, 1) := by decide +kernel
theorem dX5_nextOrder_34 : decode cX5_nextOrder 34 = .ok (.istore_n 3, 1) := by decide +kernel
theorem dX5_nextOrder_35 : decode cX5_nextOrder 35 = .ok (.iload_n 3, 1) := by decide +kernel
theorem dX5_nextOrder_36 : decode cX5_nextOrder 36 = .ok (.iload_n 2, 1) := by decide +kernel
theorem dX5_nextOrder_37 : decode cX5_nextOrder 37 = .ok (.iconst 1, 1) := by decide +kernel
theorem dX5_nextOrder_38 : decode cX5_nextOrder 38 = .ok (.iadd, 1) := by decide +kernel
theorem dX5_nextOrder_39 : decode cX5_nextOrder 39 = .ok (.if_icmp .le 18, 3) := by decide +kernel
theorem dX5_nextOrder_42 : decode cX5_nextOrder 42 = .ok (.aload_n 0, 1) := by decide +kernel
theorem dX5_nextOrder_43 : decode cX5_nextOrder 43 = .ok (.iload_n 3, 1) := by decide +kernel
theorem dX5_nextOrder_44 : decode cX5_nextOrder 44 = .ok (.iaload, 1) := by decide +kernel
theorem dX5_nextOrder_45 : decode cX5_nextOrder 45 = .ok (.aload_n 0, 1) := by decide +kernel
theorem dX5_nextOrder_46 : decode cX5_nextOrder 46 = .ok (.iload_n 2, 1) := by decide +kernel
theorem dX5_nextOrder_47 : decode cX5_nextOrder 47 = .ok (.iaload, 1) := by decide +kernel
theorem dX5_nextOrder_48 : decode cX5_nextOrder 48 = .ok (.if_icmp .gt 9, 3) := by decide +kernel
theorem dX5_nextOrder_51 : decode cX5_nextOrder 51 = .ok (.iinc 3 (-1), 3) := by decide +kernel
theorem dX5_nextOrder_54 : decode cX5_nextOrder 54 = .ok (.goto (-19), 3) := by decide +kernel
theorem dX5_nextOrder_57 : decode cX5_nextOrder 57 = .ok (.aload_n 0, 1) := by decide +kernel
theorem dX5_nextOrder_58 : decode cX5_nextOrder 58 = .ok (.iload_n 2, 1) := by decide +kernel
theorem dX5_nextOrder_59 : decode cX5_nextOrder 59 = .ok (.iload_n 3, 1) := by decide +kernel
theorem dX5_nextOrder_60 : decode cX5_nextOrder 60 = .ok (.invokestatic 270, 3) := by decide +kernel
theorem dX5_nextOrder_63 : decode cX5_nextOrder 63 = .ok (.iload_n 2, 1) := by decide +kernel
theorem dX5_nextOrder_64 : decode cX5_nextOrder 64 = .ok (.iconst 1, 1) := by decide +kernel
theorem dX5_nextOrder_65 : decode cX5_nextOrder 65 = .ok (.iadd, 1) := by decide +kernel
theorem dX5_nextOrder_66 : decode cX5_nextOrder 66 = .ok (.istore 4, 2) := by decide +kernel
theorem dX5_nextOrder_68 : decode cX5_nextOrder 68 = .ok (.iload_n 1, 1) := by decide +kernel
theorem dX5_nextOrder_69 : decode cX5_nextOrder 69 = .ok (.iconst 1, 1) := by decide +kernel
theorem dX5_nextOrder_70 : decode cX5_nextOrder 70 = .ok (.isub, 1) := by decide +kernel
theorem dX5_nextOrder_71 : decode cX5_nextOrder 71 = .ok (.istore 5, 2) := by decide +kernel
theorem dX5_nextOrder_73 : decode cX5_nextOrder 73 = .ok (.iload 4, 2) := by decide +kernel
theorem dX5_nextOrder_75 : decode cX5_nextOrder 75 = .ok (.iload 5, 2) := by decide +kernel
theorem dX5_nextOrder_77 : decode cX5_nextOrder 77 = .ok (.if_icmp .ge 20, 3) := by decide +kernel
theorem dX5_nextOrder_80 : decode cX5_nextOrder 80 = .ok (.aload_n 0, 1) := by decide +kernel
theorem dX5_nextOrder_81 : decode cX5_nextOrder 81 = .ok (.iload 4, 2) := by decide +kernel
theorem dX5_nextOrder_83 : decode cX5_nextOrder 83 = .ok (.iload 5, 2) := by decide +kernel
theorem dX5_nextOrder_85 : decode cX5_nextOrder 85 = .ok (.invokestatic 270, 3) := by decide +kernel
theorem dX5_nextOrder_88 : decode cX5_nextOrder 88 = .ok (.iinc 4 1, 3) := by decide +kernel
theorem dX5_nextOrder_91 : decode cX5_nextOrder 91 = .ok (.iinc 5 (-1), 3) := by decide +kernel
theorem dX5_nextOrder_94 : decode cX5_nextOrder 94 = .ok (.goto (-21), 3) := by decide +kernel
theorem dX5_nextOrder_97 : decode cX5_nextOrder 97 = .ok (.iconst 1, 1) := by decide +kernel
theorem dX5_nextOrder_98 : decode cX5_nextOrder 98 = .ok (.ireturn, 1) := by decide +kernel
theorem dX5_swap_0 : decode cX5_swap 0 = .ok (.aload_n 0, 1) := by decide +kernel
theorem dX5_swap_1 : decode cX5_swap 1 = .ok (.iload_n 1, 1) := by decide +kernel
theorem dX5_swap_2 : decode cX5_swap 2 = .ok (.iaload, 1) := by decide +kernel
theorem dX5_swap_3 : decode cX5_swap 3 = .ok (.istore_n 3, 1) := by decide +kernel
theorem dX5_swap_4 : decode cX5_swap 4 = .ok (.aload_n 0, 1) := by decide +kernel
theorem dX5_swap_5 : decode cX5_swap 5 = .ok (.iload_n 1, 1) := by decide +kernel
theorem dX5_swap_6 : decode cX5_swap 6 = .ok (.aload_n 0, 1) := by decide +kernel
theorem dX5_swap_7 : decode cX5_swap 7 = .ok (.iload_n 2, 1) := by decide +kernel
theorem dX5_swap_8 : decode cX5_swap 8 = .ok (.iaload, 1) := by decide +kernel
theorem dX5_swap_9 : decode cX5_swap 9 = .ok (.iastore, 1) := by decide +kernel
theorem dX5_swap_10 : decode cX5_swap 10 = .ok (.aload_n 0, 1) := by decide +kernel
theorem dX5_swap_11 : decode cX5_swap 11 = .ok (.iload_n 2, 1) := by decide +kernel
theorem dX5_swap_12 : decode cX5_swap 12 = .ok (.iload_n 3, 1) := by decide +kernel
theorem dX5_swap_13 : decode cX5_swap 13 = .ok (.iastore, 1) := by decide +kernel
theorem dX5_swap_14 : decode cX5_swap 14 = .ok (.return_, 1) := by decide +kernel
theorem dX6_init_0 : decode cX6_init 0 = .ok (.aload_n 0, 1) := by decide +kernel
theorem dX6_init_1 : decode cX6_init 1 = .ok (.invokespecial 1, 3) := by decide +kernel
theorem dX6_init_4 : decode cX6_init 4 = .ok (.aload_n 0, 1) := by decide +kernel
theorem dX6_init_5 : decode cX6_init 5 = .ok (.bipush 125, 2) := by decide +kernel
theorem dX6_init_7 : decode cX6_init 7 = .ok (.newarray .int, 2) := by decide +kernel
theorem dX6_init_9 : decode cX6_init 9 = .ok (.putfield 7, 3) := by decide +kernel
theorem dX6_init_12 : decode cX6_init 12 = .ok (.aload_n 0, 1) := by decide +kernel
theorem dX6_init_13 : decode cX6_init 13 = .ok (.sipush 250, 3) := by decide +kernel
theorem dX6_init_16 : decode cX6_init 16 = .ok (.newarray .int, 2) := by decide +kernel
theorem dX6_init_18 : decode cX6_init 18 = .ok (.putfield 13, 3) := by decide +kernel
theorem dX6_init_21 : decode cX6_init 21 = .ok (.aload_n 0, 1) := by decide +kernel
theorem dX6_init_22 : decode cX6_init 22 = .ok (.iconst 2, 1) := by decide +kernel
theorem dX6_init_23 : decode cX6_init 23 = .ok (.newarray .boolean, 2) := by decide +kernel
theorem dX6_init_25 : decode cX6_init 25 = .ok (.putfield 16, 3) := by decide +kernel
theorem dX6_init_28 : decode cX6_init 28 = .ok (.aload_n 0, 1) := by decide +kernel
theorem dX6_init_29 : decode cX6_init 29 = .ok (.iconst 3, 1) := by decide +kernel
theorem dX6_init_30 : decode cX6_init 30 = .ok (.newarray .int, 2) := by decide +kernel
theorem dX6_init_32 : decode cX6_init 32 = .ok (.putfield 20, 3) := by decide +kernel
theorem dX6_init_35 : decode cX6_init 35 = .ok (.aload_n 0, 1) := by decide +kernel
theorem dX6_init_36 : decode cX6_init 36 = .ok (.lconst 1, 1) := by decide +kernel
theorem dX6_init_37 : decode cX6_init 37 = .ok (.putfield 23, 3) := by decide +kernel
theorem dX6_init_40 : decode cX6_init 40 = .ok (.aload_n 0, 1) := by decide +kernel
theorem dX6_init_41 : decode cX6_init 41 = .ok (.bipush 9, 2) := by decide +kernel
theorem dX6_init_43 : decode cX6_init 43 = .ok (.newarray .int, 2) := by decide +kernel
theorem dX6_init_45 : decode cX6_init 45 = .ok (.putfield 27, 3) := by decide +kernel
theorem dX6_init_48 : decode cX6_init 48 = .ok (.aload_n 0, 1) := by decide +kernel
theorem dX6_init_49 : decode cX6_init 49 = .ok (.bipush 9, 2) := by decide +kernel
theorem dX6_init_51 : decode cX6_init 51 = .ok (.newarray .int, 2) := by decide +kernel
theorem dX6_init_53 : decode cX6_init 53 = .ok (.putfield 30, 3) := by decide +kernel
theorem dX6_init_56 : decode cX6_init 56 = .ok (.aload_n 0, 1) := by decide +kernel
theorem dX6_init_57 : decode cX6_init 57 = .ok (.bipush 25, 2) := by decide +kernel
theorem dX6_init_59 : decode cX6_init 59 = .ok (.newarray .int, 2) := by decide +kernel
theorem dX6_init_61 : decode cX6_init 61 = .ok (.putfield 33, 3) := by decide +kernel
theorem dX6_init_64 : decode cX6_init 64 = .ok (.aload_n 0, 1) := by decide +kernel
theorem dX6_init_65 : decode cX6_init 65 = .ok (.sipush 3000, 3) := by decide +kernel
theorem dX6_init_68 : decode cX6_init 68 = .ok (.newarray .int, 2) := by decide +kernel
theorem dX6_init_70 : decode cX6_init 70 = .ok (.putfield 36, 3) := by decide +kernel
theorem dX6_init_73 : decode cX6_init 73 = .ok (.aload_n 0, 1) := by decide +kernel
theorem dX6_init_74 : decode cX6_init 74 = .ok (.iconst 5, 1) := by decide +kernel
theorem dX6_init_75 : decode cX6_init 75 = .ok (.newarray .int, 2) := by decide +kernel
theorem dX6_init_77 : decode cX6_init 77 = .ok (.putfield 39, 3) := by decide +kernel
theorem dX6_init_80 : decode cX6_init 80 = .ok (.aload_n 0, 1) := by decide +kernel
theorem dX6_init_81 : decode cX6_init 81 = .ok (.bipush 10, 2) := by decide +kernel
theorem dX6_init_83 : decode cX6_init 83 = .ok (.newarray .int, 2) := by decide +kernel
theorem dX6_init_85 : decode cX6_init 85 = .ok (.putfield 42, 3) := by decide +kernel
theorem dX6_init_88 : decode cX6_init 88 = .ok (.aload_n 0, 1) := by decide +kernel
theorem dX6_init_89 : decode cX6_init 89 = .ok (.iconst 5, 1) := by decide +kernel
theorem dX6_init_90 : decode cX6_init 90 = .ok (.newarray .int, 2) := by decide +kernel
theorem dX6_init_92 : decode cX6_init 92 = .ok (.putfield 45, 3) := by decide +kernel
theorem dX6_init_95 : decode cX6_init 95 = .ok (.aload_n 0, 1) := by decide +kernel
theorem dX6_init_96 : decode cX6_init 96 = .ok (.bipush 25, 2) := by decide +kernel
theorem dX6_init_98 : decode cX6_init 98 = .ok (.newarray .int, 2) := by decide +kernel
theorem dX6_init_100 : decode cX6_init 100 = .ok (.putfield 48, 3) := by decide +kernel
theorem dX6_init_103 : decode cX6_init 103 = .ok (.aload_n 0, 1) := by decide +kernel
theorem dX6_init_104 : decode cX6_init 104 = .ok (.iconst 5, 1) := by decide +kernel
theorem dX6_init_105 : decode cX6_init 105 = .ok (.newarray .int, 2) := by decide +kernel
theorem dX6_init_107 : decode cX6_init 107 = .ok (.putfield 51, 3) := by decide +kernel
theorem dX6_init_110 : decode cX6_init 110 = .ok (.aload_n 0, 1) := by decide +kernel
theorem dX6_init_111 : decode cX6_init 111 = .ok (.iconst 5, 1) := by decide +kernel
theorem dX6_init_112 : decode cX6_init 112 = .ok (.newarray .int, 2) := by decide +kernel
theorem dX6_init_114 : decode cX6_init 114 = .ok (.putfield 54, 3) := by decide +kernel
theorem dX6_init_117 : decode cX6_init 117 = .ok (.aload_n 0, 1) := by decide +kernel
theorem dX6_init_118 : decode cX6_init 118 = .ok (.sipush 250, 3) := by decide +kernel
theorem dX6_init_121 : decode cX6_init 121 = .ok (.newarray .int, 2) := by decide +kernel
theorem dX6_init_123 : decode cX6_init 123 = .ok (.putfield 57, 3) := by decide +kernel
theorem dX6_init_126 : decode cX6_init 126 = .ok (.aload_n 0, 1) := by decide +kernel
theorem dX6_init_127 : decode cX6_init 127 = .ok (.bipush 95, 2) := by decide +kernel
theorem dX6_init_129 : decode cX6_init 129 = .ok (.newarray .int, 2) := by decide +kernel
theorem dX6_init_131 : decode cX6_init 131 = .ok (.putfield 60, 3) := by decide +kernel
theorem dX6_init_134 : decode cX6_init 134 = .ok (.aload_n 0, 1) := by decide +kernel
theorem dX6_init_135 : decode cX6_init 135 = .ok (.iconst 3, 1) := by decide +kernel
theorem dX6_init_136 : decode cX6_init 136 = .ok (.newarray .int, 2) := by decide +kernel
theorem dX6_init_138 : decode cX6_init 138 = .ok (.putfield 63, 3) := by decide +kernel
theorem dX6_init_141 : decode cX6_init 141 = .ok (.aload_n 0, 1) := by decide +kernel
theorem dX6_init_142 : decode cX6_init 142 = .ok (.getfield 7, 3) := by decide +kernel
theorem dX6_init_145 : decode cX6_init 145 = .ok (.bipush 12, 2) := by decide +kernel
theorem dX6_init_147 : decode cX6_init 147 = .ok (.iconst 4, 1) := by decide +kernel
theorem dX6_init_148 : decode cX6_init 148 = .ok (.iastore, 1) := by decide +kernel
theorem dX6_init_149 : decode cX6_init 149 = .ok (.aload_n 0, 1) := by decide +kernel
theorem dX6_init_150 : decode cX6_init 150 = .ok (.getfield 7, 3) := by decide +kernel
theorem dX6_init_153 : decode cX6_init 153 = .ok (.iconst 3, 1) := by decide +kernel
theorem dX6_init_154 : decode cX6_init 154 = .ok (.iconst 4, 1) := by decide +kernel
theorem dX6_init_155 : decode cX6_init 155 = .ok (.invokestatic 66, 3) := by decide +kernel
theorem dX6_init_158 : decode cX6_init 158 = .ok (.return_, 1) := by decide +kernel
theorem dX6_in_0 : decode cX6_in 0 = .ok (.lload_n 0, 1) := by decide +kernel
theorem dX6_in_1 : decode cX6_in 1 = .ok (.lload_n 2, 1) := by decide +kernel
theorem dX6_in_2 : decode cX6_in 2 = .ok (.lcmp, 1) := by decide +kernel
theorem dX6_in_3 : decode cX6_in 3 = .ok (.ifCond .lt 14, 3) := by decide +kernel
theorem dX6_in_6 : decode cX6_in 6 = .ok (.lload_n 0, 1) := by decide +kernel
theorem dX6_in_7 : decode cX6_in 7 = .ok (.lload 4, 2) := by decide +kernel
theorem dX6_in_9 : decode cX6_in 9 = .ok (.lcmp, 1) := by decide +kernel
theorem dX6_in_10 : decode cX6_in 10 = .ok (.ifCond .gt 7, 3) := by decide +kernel
theorem dX6_in_13 : decode cX6_in 13 = .ok (.iconst 1, 1) := by decide +kernel
theorem dX6_in_14 : decode cX6_in 14 = .ok (.goto 4, 3) := by decide +kernel
theorem dX6_in_17 : decode cX6_in 17 = .ok (.iconst 0, 1) := by decide +kernel
theorem dX6_in_18 : decode cX6_in 18 = .ok (.ireturn, 1) := by decide +kernel
theorem dX6_bad_0 : decode cX6_bad 0 = .ok (.aload_n 0, 1) := by decide +kernel
theorem dX6_bad_1 : decode cX6_bad 1 = .ok (.getfield 20, 3) := by decide +kernel
theorem dX6_bad_4 : decode cX6_bad 4 = .ok (.iconst 0, 1) := by decide +kernel
theorem dX6_bad_5 : decode cX6_bad 5 = .ok (.dup2, 1) := by decide +kernel
theorem dX6_bad_6 : decode cX6_bad 6 = .ok (.iaload, 1) := by decide +kernel
theorem dX6_bad_7 : decode cX6_bad 7 = .ok (.iconst 1, 1) := by decide +kernel
theorem dX6_bad_8 : decode cX6_bad 8 = .ok (.iadd, 1) := by decide +kernel
theorem dX6_bad_9 : decode cX6_bad 9 = .ok (.iastore, 1) := by decide +kernel
theorem dX6_bad_10 : decode cX6_bad 10 = .ok (.iload_n 1, 1) := by decide +kernel
theorem dX6_bad_11 : decode cX6_bad 11 = .ok (.ireturn, 1) := by decide +kernel
theorem dX6_no_0 : decode cX6_no 0 = .ok (.aload_n 0, 1) := by decide +kernel
theorem dX6_no_1 : decode cX6_no 1 = .ok (.getfield 20, 3) := by decide +kernel
theorem dX6_no_4 : decode cX6_no 4 = .ok (.iconst 1, 1) := by decide +kernel
theorem dX6_no_5 : decode cX6_no 5 = .ok (.dup2, 1) := by decide +kernel
theorem dX6_no_6 : decode cX6_no 6 = .ok (.iaload, 1) := by decide +kernel
theorem dX6_no_7 : decode cX6_no 7 = .ok (.iconst 1, 1) := by decide +kernel
theorem dX6_no_8 : decode cX6_no 8 = .ok (.iadd, 1) := by decide +kernel
theorem dX6_no_9 : decode cX6_no 9 = .ok (.iastore, 1) := by decide +kernel
theorem dX6_no_10 : decode cX6_no 10 = .ok (.bipush (-3), 2) := by decide +kernel
theorem dX6_no_12 : decode cX6_no 12 = .ok (.ireturn, 1) := by decide +kernel
theorem dX6_full_0 : decode cX6_full 0 = .ok (.aload_n 0, 1) := by decide +kernel
theorem dX6_full_1 : decode cX6_full 1 = .ok (.getfield 20, 3) := by decide +kernel
theorem dX6_full_4 : decode cX6_full 4 = .ok (.iconst 2, 1) := by decide +kernel
theorem dX6_full_5 : decode cX6_full 5 = .ok (.dup2, 1) := by decide +kernel
theorem dX6_full_6 : decode cX6_full 6 = .ok (.iaload, 1) := by decide +kernel
theorem dX6_full_7 : decode cX6_full 7 = .ok (.iconst 1, 1) := by decide +kernel
theorem dX6_full_8 : decode cX6_full 8 = .ok (.iadd, 1) := by decide +kernel
theorem dX6_full_9 : decode cX6_full 9 = .ok (.iastore, 1) := by decide +kernel
theorem dX6_full_10 : decode cX6_full 10 = .ok (.bipush (-4), 2) := by decide +kernel
theorem dX6_full_12 : decode cX6_full 12 = .ok (.ireturn, 1) := by decide +kernel
theorem dX6_begin_0 : decode cX6_begin 0 = .ok (.aload_n 0, 1) := by decide +kernel
theorem dX6_begin_1 : decode cX6_begin 1 = .ok (.bipush 10, 2) := by decide +kernel
theorem dX6_begin_3 : decode cX6_begin 3 = .ok (.iload_n 1, 1) := by decide +kernel
theorem dX6_begin_4 : decode cX6_begin 4 = .ok (.iastore, 1) := by decide +kernel
theorem dX6_begin_5 : decode cX6_begin 5 = .ok (.aload_n 0, 1) := by decide +kernel
theorem dX6_begin_6 : decode cX6_begin 6 = .ok (.bipush 11, 2) := by decide +kernel
theorem dX6_begin_8 : decode cX6_begin 8 = .ok (.iload_n 2, 1) := by decide +kernel
theorem dX6_begin_9 : decode cX6_begin 9 = .ok (.iastore, 1) := by decide +kernel
theorem dX6_begin_10 : decode cX6_begin 10 = .ok (.aload_n 0, 1) := by decide +kernel
theorem dX6_begin_11 : decode cX6_begin 11 = .ok (.bipush 13, 2) := by decide +kernel
theorem dX6_begin_13 : decode cX6_begin 13 = .ok (.iconst 0, 1) := by decide +kernel
theorem dX6_begin_14 : decode cX6_begin 14 = .ok (.iastore, 1) := by decide +kernel
theorem dX6_begin_15 : decode cX6_begin 15 = .ok (.iconst 0, 1) := by decide +kernel
theorem dX6_begin_16 : decode cX6_begin 16 = .ok (.istore_n 3, 1) := by decide +kernel
theorem dX6_begin_17 : decode cX6_begin 17 = .ok (.iload_n 3, 1) := by decide +kernel
theorem dX6_begin_18 : decode cX6_begin 18 = .ok (.iconst 5, 1) := by decide +kernel
theorem dX6_begin_19 : decode cX6_begin 19 = .ok (.if_icmp .ge 23, 3) := by decide +kernel
theorem dX6_begin_22 : decode cX6_begin 22 = .ok (.aload_n 0, 1) := by decide +kernel
theorem dX6_begin_23 : decode cX6_begin 23 = .ok (.bipush 14, 2) := by decide +kernel
theorem dX6_begin_25 : decode cX6_begin 25 = .ok (.iload_n 3, 1) := by decide +kernel
theorem dX6_begin_26 : decode cX6_begin 26 = .ok (.iadd, 1) := by decide +kernel
theorem dX6_begin_27 : decode cX6_begin 27 = .ok (.iconst 0, 1) := by decide +kernel
theorem dX6_begin_28 : decode cX6_begin 28 = .ok (.iastore, 1) := by decide +kernel
theorem dX6_begin_29 : decode cX6_begin 29 = .ok (.aload_n 0, 1) := by decide +kernel
theorem dX6_begin_30 : decode cX6_begin 30 = .ok (.bipush 89, 2) := by decide +kernel
theorem dX6_begin_32 : decode cX6_begin 32 = .ok (.iload_n 3, 1) := by decide +kernel
theorem dX6_begin_33 : decode cX6_begin 33 = .ok (.iadd, 1) := by decide +kernel
theorem dX6_begin_34 : decode cX6_begin 34 = .ok (.iconst 0, 1) := by decide +kernel
theorem dX6_begin_35 : decode cX6_begin 35 = .ok (.iastore, 1) := by decide +kernel
theorem dX6_begin_36 : decode cX6_begin 36 = .ok (.iinc 3 1, 3) := by decide +kernel
theorem dX6_begin_39 : decode cX6_begin 39 = .ok (.goto (-22), 3) := by decide +kernel
theorem dX6_begin_42 : decode cX6_begin 42 = .ok (.iconst 0, 1) := by decide +kernel
theorem dX6_begin_43 : decode cX6_begin 43 = .ok (.istore_n 3, 1) := by decide +kernel
theorem dX6_begin_44 : decode cX6_begin 44 = .ok (.iload_n 3, 1) := by decide +kernel
theorem dX6_begin_45 : decode cX6_begin 45 = .ok (.bipush 25, 2) := by decide +kernel
theorem dX6_begin_47 : decode cX6_begin 47 = .ok (.if_icmp .ge 16, 3) := by decide +kernel
theorem dX6_begin_50 : decode cX6_begin 50 = .ok (.aload_n 0, 1) := by decide +kernel
theorem dX6_begin_51 : decode cX6_begin 51 = .ok (.bipush 19, 2) := by decide +kernel
theorem dX6_begin_53 : decode cX6_begin 53 = .ok (.iload_n 3, 1) := by decide +kernel
theorem dX6_begin_54 : decode cX6_begin 54 = .ok (.iadd, 1) := by decide +kernel
theorem dX6_begin_55 : decode cX6_begin 55 = .ok (.iconst (-1), 1) := by decide +kernel
theorem dX6_begin_56 : decode cX6_begin 56 = .ok (.iastore, 1) := by decide +kernel
theorem dX6_begin_57 : decode cX6_begin 57 = .ok (.iinc 3 1, 3) := by decide +kernel
theorem dX6_begin_60 : decode cX6_begin 60 = .ok (.goto (-16), 3) := by decide +kernel
theorem dX6_begin_63 : decode cX6_begin 63 = .ok (.iconst 0, 1) := by decide +kernel
theorem dX6_begin_64 : decode cX6_begin 64 = .ok (.istore_n 3, 1) := by decide +kernel
theorem dX6_begin_65 : decode cX6_begin 65 = .ok (.iload_n 3, 1) := by decide +kernel
theorem dX6_begin_66 : decode cX6_begin 66 = .ok (.bipush 45, 2) := by decide +kernel
theorem dX6_begin_68 : decode cX6_begin 68 = .ok (.if_icmp .ge 16, 3) := by decide +kernel
theorem dX6_begin_71 : decode cX6_begin 71 = .ok (.aload_n 0, 1) := by decide +kernel
theorem dX6_begin_72 : decode cX6_begin 72 = .ok (.bipush 44, 2) := by decide +kernel
theorem dX6_begin_74 : decode cX6_begin 74 = .ok (.iload_n 3, 1) := by decide +kernel
theorem dX6_begin_75 : decode cX6_begin 75 = .ok (.iadd, 1) := by decide +kernel
theorem dX6_begin_76 : decode cX6_begin 76 = .ok (.iconst 0, 1) := by decide +kernel
theorem dX6_begin_77 : decode cX6_begin 77 = .ok (.iastore, 1) := by decide +kernel
theorem dX6_begin_78 : decode cX6_begin 78 = .ok (.iinc 3 1, 3) := by decide +kernel
theorem dX6_begin_81 : decode cX6_begin 81 = .ok (.goto (-16), 3) := by decide +kernel
theorem dX6_begin_84 : decode cX6_begin 84 = .ok (.aload_n 0, 1) := by decide +kernel
theorem dX6_begin_85 : decode cX6_begin 85 = .ok (.bipush 94, 2) := by decide +kernel
theorem dX6_begin_87 : decode cX6_begin 87 = .ok (.iconst 0, 1) := by decide +kernel
theorem dX6_begin_88 : decode cX6_begin 88 = .ok (.iastore, 1) := by decide +kernel
theorem dX6_begin_89 : decode cX6_begin 89 = .ok (.return_, 1) := by decide +kernel
theorem dX6_things_0 : decode cX6_things 0 = .ok (.aload_n 0, 1) := by decide +kernel
theorem dX6_things_1 : decode cX6_things 1 = .ok (.getfield 7, 3) := by decide +kernel
theorem dX6_things_4 : decode cX6_things 4 = .ok (.iconst 0, 1) := by decide +kernel
theorem dX6_things_5 : decode cX6_things 5 = .ok (.iaload, 1) := by decide +kernel
theorem dX6_things_6 : decode cX6_things 6 = .ok (.ireturn, 1) := by decide +kernel
theorem dX6_people_0 : decode cX6_people 0 = .ok (.aload_n 0, 1) := by decide +kernel
theorem dX6_people_1 : decode cX6_people 1 = .ok (.getfield 7, 3) := by decide +kernel
theorem dX6_people_4 : decode cX6_people 4 = .ok (.bipush 10, 2) := by decide +kernel
theorem dX6_people_6 : decode cX6_people 6 = .ok (.iaload, 1) := by decide +kernel
theorem dX6_people_7 : decode cX6_people 7 = .ok (.ireturn, 1) := by decide +kernel
theorem dX6_hours_0 : decode cX6_hours 0 = .ok (.aload_n 0, 1) := by decide +kernel
theorem dX6_hours_1 : decode cX6_hours 1 = .ok (.getfield 7, 3) := by decide +kernel
theorem dX6_hours_4 : decode cX6_hours 4 = .ok (.bipush 11, 2) := by decide +kernel
theorem dX6_hours_6 : decode cX6_hours 6 = .ok (.iaload, 1) := by decide +kernel
theorem dX6_hours_7 : decode cX6_hours 7 = .ok (.ireturn, 1) := by decide +kernel
theorem dX6_isThing_0 : decode cX6_isThing 0 = .ok (.iload_n 1, 1) := by decide +kernel
theorem dX6_isThing_1 : decode cX6_isThing 1 = .ok (.i2l, 1) := by decide +kernel
theorem dX6_isThing_2 : decode cX6_isThing 2 = .ok (.lconst 0, 1) := by decide +kernel
theorem dX6_isThing_3 : decode cX6_isThing 3 = .ok (.aload_n 0, 1) := by decide +kernel
theorem dX6_isThing_4 : decode cX6_isThing 4 = .ok (.invokevirtual 70, 3) := by decide +kernel
theorem dX6_isThing_7 : decode cX6_isThing 7 = .ok (.iconst 1, 1) := by decide +kernel
theorem dX6_isThing_8 : decode cX6_isThing 8 = .ok (.isub, 1) := by decide +kernel
theorem dX6_isThing_9 : decode cX6_isThing 9 = .ok (.i2l, 1) := by decide +kernel
theorem dX6_isThing_10 : decode cX6_isThing 10 = .ok (.invokestatic 74, 3) := by decide +kernel
theorem dX6_isThing_13 : decode cX6_isThing 13 = .ok (.ireturn, 1) := by decide +kernel
theorem dX6_isOne_0 : decode cX6_isOne 0 = .ok (.iload_n 1, 1) := by decide +kernel
theorem dX6_isOne_1 : decode cX6_isOne 1 = .ok (.i2l, 1) := by decide +kernel
theorem dX6_isOne_2 : decode cX6_isOne 2 = .ok (.lconst 0, 1) := by decide +kernel
theorem dX6_isOne_3 : decode cX6_isOne 3 = .ok (.aload_n 0, 1) := by decide +kernel
theorem dX6_isOne_4 : decode cX6_isOne 4 = .ok (.invokevirtual 78, 3) := by decide +kernel
theorem dX6_isOne_7 : decode cX6_isOne 7 = .ok (.iconst 1, 1) := by decide +kernel
theorem dX6_isOne_8 : decode cX6_isOne 8 = .ok (.isub, 1) := by decide +kernel
theorem dX6_isOne_9 : decode cX6_isOne 9 = .ok (.i2l, 1) := by decide +kernel
theorem dX6_isOne_10 : decode cX6_isOne 10 = .ok (.invokestatic 74, 3) := by decide +kernel
theorem dX6_isOne_13 : decode cX6_isOne 13 = .ok (.ireturn, 1) := by decide +kernel
theorem dX6_isHour_0 : decode cX6_isHour 0 = .ok (.iload_n 1, 1) := by decide +kernel
theorem dX6_isHour_1 : decode cX6_isHour 1 = .ok (.i2l, 1) := by decide +kernel
theorem dX6_isHour_2 : decode cX6_isHour 2 = .ok (.lconst 0, 1) := by decide +kernel
theorem dX6_isHour_3 : decode cX6_isHour 3 = .ok (.aload_n 0, 1) := by decide +kernel
theorem dX6_isHour_4 : decode cX6_isHour 4 = .ok (.invokevirtual 81, 3) := by decide +kernel
theorem dX6_isHour_7 : decode cX6_isHour 7 = .ok (.iconst 1, 1) := by decide +kernel
theorem dX6_isHour_8 : decode cX6_isHour 8 = .ok (.isub, 1) := by decide +kernel
theorem dX6_isHour_9 : decode cX6_isHour 9 = .ok (.i2l, 1) := by decide +kernel
theorem dX6_isHour_10 : decode cX6_isHour 10 = .ok (.invokestatic 74, 3) := by decide +kernel
theorem dX6_isHour_13 : decode cX6_isHour 13 = .ok (.ireturn, 1) := by decide +kernel
theorem dX6_thing_0 : decode cX6_thing 0 = .ok (.iload_n 1, 1) := by decide +kernel
theorem dX6_thing_1 : decode cX6_thing 1 = .ok (.iconst (-1), 1) := by decide +kernel
theorem dX6_thing_2 : decode cX6_thing 2 = .ok (.if_icmp .eq 18, 3) := by decide +kernel
theorem dX6_thing_5 : decode cX6_thing 5 = .ok (.aload_n 0, 1) := by decide +kernel
theorem dX6_thing_6 : decode cX6_thing 6 = .ok (.iload_n 1, 1) := by decide +kernel
theorem dX6_thing_7 : decode cX6_thing 7 = .ok (.invokevirtual 84, 3) := by decide +kernel
theorem dX6_thing_10 : decode cX6_thing 10 = .ok (.ifCond .ne 10, 3) := by decide +kernel
theorem dX6_thing_13 : decode cX6_thing 13 = .ok (.aload_n 0, 1) := by decide +kernel
theorem dX6_thing_14 : decode cX6_thing 14 = .ok (.bipush (-2), 2) := by decide +kernel
theorem dX6_thing_16 : decode cX6_thing 16 = .ok (.invokevirtual 88, 3) := by decide +kernel
theorem dX6_thing_19 : decode cX6_thing 19 = .ok (.ireturn, 1) := by decide +kernel
theorem dX6_thing_20 : decode cX6_thing 20 = .ok (.aload_n 0, 1) := by decide +kernel
theorem dX6_thing_21 : decode cX6_thing 21 = .ok (.invokevirtual 70, 3) := by decide +kernel
theorem dX6_thing_24 : decode cX6_thing 24 = .ok (.istore_n 2, 1) := by decide +kernel
theorem dX6_thing_25 : decode cX6_thing 25 = .ok (.iload_n 2, 1) := by decide +kernel
theorem dX6_thing_26 : decode cX6_thing 26 = .ok (.bipush 9, 2) := by decide +kernel
theorem dX6_thing_28 : decode cX6_thing 28 = .ok (.if_icmp .ne 8, 3) := by decide +kernel
theorem dX6_thing_31 : decode cX6_thing 31 = .ok (.aload_n 0, 1) := by decide +kernel
theorem dX6_thing_32 : decode cX6_thing 32 = .ok (.invokevirtual 92, 3) := by decide +kernel
theorem dX6_thing_35 : decode cX6_thing 35 = .ok (.ireturn, 1) := by decide +kernel
theorem dX6_thing_36 : decode cX6_thing 36 = .ok (.aload_n 0, 1) := by decide +kernel
theorem dX6_thing_37 : decode cX6_thing 37 = .ok (.getfield 7, 3) := by decide +kernel
theorem dX6_thing_40 : decode cX6_thing 40 = .ok (.iconst 1, 1) := by decide +kernel
theorem dX6_thing_41 : decode cX6_thing 41 = .ok (.iload_n 2, 1) := by decide +kernel
theorem dX6_thing_42 : decode cX6_thing 42 = .ok (.iadd, 1) := by decide +kernel
theorem dX6_thing_43 : decode cX6_thing 43 = .ok (.iload_n 1, 1) := by decide +kernel
theorem dX6_thing_44 : decode cX6_thing 44 = .ok (.iastore, 1) := by decide +kernel
theorem dX6_thing_45 : decode cX6_thing 45 = .ok (.aload_n 0, 1) := by decide +kernel
theorem dX6_thing_46 : decode cX6_thing 46 = .ok (.getfield 7, 3) := by decide +kernel
theorem dX6_thing_49 : decode cX6_thing 49 = .ok (.iconst 0, 1) := by decide +kernel
theorem dX6_thing_50 : decode cX6_thing 50 = .ok (.dup2, 1) := by decide +kernel
theorem dX6_thing_51 : decode cX6_thing 51 = .ok (.iaload, 1) := by decide +kernel
theorem dX6_thing_52 : decode cX6_thing 52 = .ok (.iconst 1, 1) := by decide +kernel
theorem dX6_thing_53 : decode cX6_thing 53 = .ok (.iadd, 1) := by decide +kernel
theorem dX6_thing_54 : decode cX6_thing 54 = .ok (.iastore, 1) := by decide +kernel
theorem dX6_thing_55 : decode cX6_thing 55 = .ok (.iload_n 2, 1) := by decide +kernel
theorem dX6_thing_56 : decode cX6_thing 56 = .ok (.ireturn, 1) := by decide +kernel
theorem dX6_town_0 : decode cX6_town 0 = .ok (.iload_n 1, 1) := by decide +kernel
theorem dX6_town_1 : decode cX6_town 1 = .ok (.i2l, 1) := by decide +kernel
theorem dX6_town_2 : decode cX6_town 2 = .ok (.lconst 1, 1) := by decide +kernel
theorem dX6_town_3 : decode cX6_town 3 = .ok (.ldc2_w 95, 3) := by decide +kernel
theorem dX6_town_6 : decode cX6_town 6 = .ok (.invokestatic 74, 3) := by decide +kernel
theorem dX6_town_9 : decode cX6_town 9 = .ok (.ifCond .eq 15, 3) := by decide +kernel
theorem dX6_town_12 : decode cX6_town 12 = .ok (.iload_n 2, 1) := by decide +kernel
theorem dX6_town_13 : decode cX6_town 13 = .ok (.i2l, 1) := by decide +kernel
theorem dX6_town_14 : decode cX6_town 14 = .ok (.lconst 1, 1) := by decide +kernel
theorem dX6_town_15 : decode cX6_town 15 = .ok (.ldc2_w 95, 3) := by decide +kernel
theorem dX6_town_18 : decode cX6_town 18 = .ok (.invokestatic 74, 3) := by decide +kernel
theorem dX6_town_21 : decode cX6_town 21 = .ok (.ifCond .ne 10, 3) := by decide +kernel
theorem dX6_town_24 : decode cX6_town 24 = .ok (.aload_n 0, 1) := by decide +kernel
theorem dX6_town_25 : decode cX6_town 25 = .ok (.bipush (-2), 2) := by decide +kernel
theorem dX6_town_27 : decode cX6_town 27 = .ok (.invokevirtual 88, 3) := by decide +kernel
theorem dX6_town_30 : decode cX6_town 30 = .ok (.ireturn, 1) := by decide +kernel
theorem dX6_town_31 : decode cX6_town 31 = .ok (.aload_n 0, 1) := by decide +kernel
theorem dX6_town_32 : decode cX6_town 32 = .ok (.getfield 7, 3) := by decide +kernel
theorem dX6_town_35 : decode cX6_town 35 = .ok (.iload_n 1, 1) := by decide +kernel
theorem dX6_town_36 : decode cX6_town 36 = .ok (.iload_n 2, 1) := by decide +kernel
theorem dX6_town_37 : decode cX6_town 37 = .ok (.invokestatic 66, 3) := by decide +kernel
theorem dX6_town_40 : decode cX6_town 40 = .ok (.iconst 1, 1) := by decide +kernel
theorem dX6_town_41 : decode cX6_town 41 = .ok (.ireturn, 1) := by decide +kernel
theorem dX6_put_0 : decode cX6_put 0 = .ok (.iload_n 1, 1) := by decide +kernel
theorem dX6_put_1 : decode cX6_put 1 = .ok (.ifCond .ne 31, 3) := by decide +kernel
theorem dX6_put_4 : decode cX6_put 4 = .ok (.aload_n 0, 1) := by decide +kernel
theorem dX6_put_5 : decode cX6_put 5 = .ok (.iload_n 2, 1) := by decide +kernel
theorem dX6_put_6 : decode cX6_put 6 = .ok (.invokevirtual 97, 3) := by decide +kernel
theorem dX6_put_9 : decode cX6_put 9 = .ok (.ifCond .eq 19, 3) := by decide +kernel
theorem dX6_put_12 : decode cX6_put 12 = .ok (.iload_n 3, 1) := by decide +kernel
theorem dX6_put_13 : decode cX6_put 13 = .ok (.i2l, 1) := by decide +kernel
theorem dX6_put_14 : decode cX6_put 14 = .ok (.lconst 0, 1) := by decide +kernel
theorem dX6_put_15 : decode cX6_put 15 = .ok (.ldc2_w 95, 3) := by decide +kernel
theorem dX6_put_18 : decode cX6_put 18 = .ok (.invokestatic 74, 3) := by decide +kernel
theorem dX6_put_21 : decode cX6_put 21 = .ok (.ifCond .eq 7, 3) := by decide +kernel
theorem dX6_put_24 : decode cX6_put 24 = .ok (.iconst 1, 1) := by decide +kernel
theorem dX6_put_25 : decode cX6_put 25 = .ok (.goto 46, 3) := by decide +kernel
theorem dX6_put_28 : decode cX6_put 28 = .ok (.iconst 0, 1) := by decide +kernel
theorem dX6_put_29 : decode cX6_put 29 = .ok (.goto 42, 3) := by decide +kernel
theorem dX6_put_32 : decode cX6_put 32 = .ok (.iload_n 2, 1) := by decide +kernel
theorem dX6_put_33 : decode cX6_put 33 = .ok (.ifCond .ne 37, 3) := by decide +kernel
theorem dX6_put_36 : decode cX6_put 36 = .ok (.iload_n 1, 1) := by decide +kernel
theorem dX6_put_37 : decode cX6_put 37 = .ok (.iconst 1, 1) := by decide +kernel
theorem dX6_put_38 : decode cX6_put 38 = .ok (.if_icmp .ne 15, 3) := by decide +kernel
theorem dX6_put_41 : decode cX6_put 41 = .ok (.iload_n 3, 1) := by decide +kernel
theorem dX6_put_42 : decode cX6_put 42 = .ok (.i2l, 1) := by decide +kernel
theorem dX6_put_43 : decode cX6_put 43 = .ok (.lconst 0, 1) := by decide +kernel
theorem dX6_put_44 : decode cX6_put 44 = .ok (.ldc2_w 100, 3) := by decide +kernel
theorem dX6_put_47 : decode cX6_put 47 = .ok (.invokestatic 74, 3) := by decide +kernel
theorem dX6_put_50 : decode cX6_put 50 = .ok (.ifCond .ne 16, 3) := by decide +kernel
theorem dX6_put_53 : decode cX6_put 53 = .ok (.iload_n 1, 1) := by decide +kernel
theorem dX6_put_54 : decode cX6_put 54 = .ok (.iconst 2, 1) := by decide +kernel
theorem dX6_put_55 : decode cX6_put 55 = .ok (.if_icmp .ne 15, 3) := by decide +kernel
theorem dX6_put_58 : decode cX6_put 58 = .ok (.aload_n 0, 1) := by decide +kernel
theorem dX6_put_59 : decode cX6_put 59 = .ok (.iload_n 3, 1) := by decide +kernel
theorem dX6_put_60 : decode cX6_put 60 = .ok (.invokevirtual 102, 3) := by decide +kernel
theorem dX6_put_63 : decode cX6_put 63 = .ok (.ifCond .eq 7, 3) := by decide +kernel
theorem dX6_put_66 : decode cX6_put 66 = .ok (.iconst 1, 1) := by decide +kernel
theorem dX6_put_67 : decode cX6_put 67 = .ok (.goto 4, 3) := by decide +kernel
theorem dX6_put_70 : decode cX6_put 70 = .ok (.iconst 0, 1) := by decide +kernel
theorem dX6_put_71 : decode cX6_put 71 = .ok (.istore 4, 2) := by decide +kernel
theorem dX6_put_73 : decode cX6_put 73 = .ok (.iload 4, 2) := by decide +kernel
theorem dX6_put_75 : decode cX6_put 75 = .ok (.ifCond .ne 10, 3) := by decide +kernel
theorem dX6_put_78 : decode cX6_put 78 = .ok (.aload_n 0, 1) := by decide +kernel
theorem dX6_put_79 : decode cX6_put 79 = .ok (.bipush (-2), 2) := by decide +kernel
theorem dX6_put_81 : decode cX6_put 81 = .ok (.invokevirtual 88, 3) := by decide +kernel
theorem dX6_put_84 : decode cX6_put 84 = .ok (.ireturn, 1) := by decide +kernel
theorem dX6_put_85 : decode cX6_put 85 = .ok (.iload_n 1, 1) := by decide +kernel
theorem dX6_put_86 : decode cX6_put 86 = .ok (.ifCond .ne 10, 3) := by decide +kernel
theorem dX6_put_89 : decode cX6_put 89 = .ok (.bipush 14, 2) := by decide +kernel
theorem dX6_put_91 : decode cX6_put 91 = .ok (.iload_n 2, 1) := by decide +kernel
theorem dX6_put_92 : decode cX6_put 92 = .ok (.iadd, 1) := by decide +kernel
theorem dX6_put_93 : decode cX6_put 93 = .ok (.goto 15, 3) := by decide +kernel
theorem dX6_put_96 : decode cX6_put 96 = .ok (.iload_n 1, 1) := by decide +kernel
theorem dX6_put_97 : decode cX6_put 97 = .ok (.iconst 1, 1) := by decide +kernel
theorem dX6_put_98 : decode cX6_put 98 = .ok (.if_icmp .ne 8, 3) := by decide +kernel
theorem dX6_put_101 : decode cX6_put 101 = .ok (.bipush 12, 2) := by decide +kernel
theorem dX6_put_103 : decode cX6_put 103 = .ok (.goto 5, 3) := by decide +kernel
theorem dX6_put_106 : decode cX6_put 106 = .ok (.bipush 13, 2) := by decide +kernel
theorem dX6_put_108 : decode cX6_put 108 = .ok (.istore 5, 2) := by decide +kernel
theorem dX6_put_110 : decode cX6_put 110 = .ok (.aload_n 0, 1) := by decide +kernel
theorem dX6_put_111 : decode cX6_put 111 = .ok (.getfield 7, 3) := by decide +kernel
theorem dX6_put_114 : decode cX6_put 114 = .ok (.iload 5, 2) := by decide +kernel
theorem dX6_put_116 : decode cX6_put 116 = .ok (.iaload, 1) := by decide +kernel
theorem dX6_put_117 : decode cX6_put 117 = .ok (.istore 6, 2) := by decide +kernel
theorem dX6_put_119 : decode cX6_put 119 = .ok (.aload_n 0, 1) := by decide +kernel
theorem dX6_put_120 : decode cX6_put 120 = .ok (.getfield 7, 3) := by decide +kernel
theorem dX6_put_123 : decode cX6_put 123 = .ok (.iload 5, 2) := by decide +kernel
theorem dX6_put_125 : decode cX6_put 125 = .ok (.iload_n 3, 1) := by decide +kernel
theorem dX6_put_126 : decode cX6_put 126 = .ok (.iastore, 1) := by decide +kernel
theorem dX6_put_127 : decode cX6_put 127 = .ok (.iload 6, 2) := by decide +kernel
theorem dX6_put_129 : decode cX6_put 129 = .ok (.ireturn, 1) := by decide +kernel
theorem dX6_does_0 : decode cX6_does 0 = .ok (.aload_n 0, 1) := by decide +kernel
theorem dX6_does_1 : decode cX6_does 1 = .ok (.iload_n 1, 1) := by decide +kernel
theorem dX6_does_2 : decode cX6_does 2 = .ok (.invokevirtual 102, 3) := by decide +kernel
theorem dX6_does_5 : decode cX6_does 5 = .ok (.ifCond .eq 24, 3) := by decide +kernel
theorem dX6_does_8 : decode cX6_does 8 = .ok (.aload_n 0, 1) := by decide +kernel
theorem dX6_does_9 : decode cX6_does 9 = .ok (.iload_n 2, 1) := by decide +kernel
theorem dX6_does_10 : decode cX6_does 10 = .ok (.invokevirtual 97, 3) := by decide +kernel
theorem dX6_does_13 : decode cX6_does 13 = .ok (.ifCond .eq 16, 3) := by decide +kernel
theorem dX6_does_16 : decode cX6_does 16 = .ok (.iload_n 3, 1) := by decide +kernel
theorem dX6_does_17 : decode cX6_does 17 = .ok (.iconst (-1), 1) := by decide +kernel
theorem dX6_does_18 : decode cX6_does 18 = .ok (.if_icmp .eq 18, 3) := by decide +kernel
theorem dX6_does_21 : decode cX6_does 21 = .ok (.aload_n 0, 1) := by decide +kernel
theorem dX6_does_22 : decode cX6_does 22 = .ok (.iload_n 3, 1) := by decide +kernel
theorem dX6_does_23 : decode cX6_does 23 = .ok (.invokevirtual 84, 3) := by decide +kernel
theorem dX6_does_26 : decode cX6_does 26 = .ok (.ifCond .ne 10, 3) := by decide +kernel
theorem dX6_does_29 : decode cX6_does 29 = .ok (.aload_n 0, 1) := by decide +kernel
theorem dX6_does_30 : decode cX6_does 30 = .ok (.bipush (-10), 2) := by decide +kernel
theorem dX6_does_32 : decode cX6_does 32 = .ok (.invokevirtual 88, 3) := by decide +kernel
theorem dX6_does_35 : decode cX6_does 35 = .ok (.ireturn, 1) := by decide +kernel
theorem dX6_does_36 : decode cX6_does 36 = .ok (.aload_n 0, 1) := by decide +kernel
theorem dX6_does_37 : decode cX6_does 37 = .ok (.getfield 7, 3) := by decide +kernel
theorem dX6_does_40 : decode cX6_does 40 = .ok (.bipush 94, 2) := by decide +kernel
theorem dX6_does_42 : decode cX6_does 42 = .ok (.iaload, 1) := by decide +kernel
theorem dX6_does_43 : decode cX6_does 43 = .ok (.bipush 10, 2) := by decide +kernel
theorem dX6_does_45 : decode cX6_does 45 = .ok (.if_icmp .ne 48, 3) := by decide +kernel
theorem dX6_does_48 : decode cX6_does 48 = .ok (.iconst 0, 1) := by decide +kernel
theorem dX6_does_49 : decode cX6_does 49 = .ok (.istore 4, 2) := by decide +kernel
theorem dX6_does_51 : decode cX6_does 51 = .ok (.iload 4, 2) := by decide +kernel
theorem dX6_does_53 : decode cX6_does 53 = .ok (.bipush 27, 2) := by decide +kernel
theorem dX6_does_55 : decode cX6_does 55 = .ok (.if_icmp .ge 29, 3) := by decide +kernel
theorem dX6_does_58 : decode cX6_does 58 = .ok (.aload_n 0, 1) := by decide +kernel
theorem dX6_does_59 : decode cX6_does 59 = .ok (.getfield 7, 3) := by decide +kernel
theorem dX6_does_62 : decode cX6_does 62 = .ok (.bipush 95, 2) := by decide +kernel
theorem dX6_does_64 : decode cX6_does 64 = .ok (.iload 4, 2) := by decide +kernel
theorem dX6_does_66 : decode cX6_does 66 = .ok (.iadd, 1) := by decide +kernel
theorem dX6_does_67 : decode cX6_does 67 = .ok (.aload_n 0, 1) := by decide +kernel
theorem dX6_does_68 : decode cX6_does 68 = .ok (.getfield 7, 3) := by decide +kernel
theorem dX6_does_71 : decode cX6_does 71 = .ok (.bipush 98, 2) := by decide +kernel
theorem dX6_does_73 : decode cX6_does 73 = .ok (.iload 4, 2) := by decide +kernel
theorem dX6_does_75 : decode cX6_does 75 = .ok (.iadd, 1) := by decide +kernel
theorem dX6_does_76 : decode cX6_does 76 = .ok (.iaload, 1) := by decide +kernel
theorem dX6_does_77 : decode cX6_does 77 = .ok (.iastore, 1) := by decide +kernel
theorem dX6_does_78 : decode cX6_does 78 = .ok (.iinc 4 1, 3) := by decide +kernel
theorem dX6_does_81 : decode cX6_does 81 = .ok (.goto (-30), 3) := by decide +kernel
theorem dX6_does_84 : decode cX6_does 84 = .ok (.aload_n 0, 1) := by decide +kernel
theorem dX6_does_85 : decode cX6_does 85 = .ok (.getfield 7, 3) := by decide +kernel
theorem dX6_does_88 : decode cX6_does 88 = .ok (.bipush 94, 2) := by decide +kernel
theorem dX6_does_90 : decode cX6_does 90 = .ok (.bipush 9, 2) := by decide +kernel
theorem dX6_does_92 : decode cX6_does 92 = .ok (.iastore, 1) := by decide +kernel
theorem dX6_does_93 : decode cX6_does 93 = .ok (.aload_n 0, 1) := by decide +kernel
theorem dX6_does_94 : decode cX6_does 94 = .ok (.getfield 7, 3) := by decide +kernel
theorem dX6_does_97 : decode cX6_does 97 = .ok (.bipush 19, 2) := by decide +kernel
theorem dX6_does_99 : decode cX6_does 99 = .ok (.iconst 5, 1) := by decide +kernel
theorem dX6_does_100 : decode cX6_does 100 = .ok (.iload_n 1, 1) := by decide +kernel
theorem dX6_does_101 : decode cX6_does 101 = .ok (.imul, 1) := by decide +kernel
theorem dX6_does_102 : decode cX6_does 102 = .ok (.iadd, 1) := by decide +kernel
theorem dX6_does_103 : decode cX6_does 103 = .ok (.iload_n 2, 1) := by decide +kernel
theorem dX6_does_104 : decode cX6_does 104 = .ok (.iadd, 1) := by decide +kernel
theorem dX6_does_105 : decode cX6_does 105 = .ok (.iaload, 1) := by decide +kernel
theorem dX6_does_106 : decode cX6_does 106 = .ok (.istore 4, 2) := by decide +kernel
theorem dX6_does_108 : decode cX6_does 108 = .ok (.bipush 95, 2) := by decide +kernel
theorem dX6_does_110 : decode cX6_does 110 = .ok (.iconst 3, 1) := by decide +kernel
theorem dX6_does_111 : decode cX6_does 111 = .ok (.aload_n 0, 1) := by decide +kernel
theorem dX6_does_112 : decode cX6_does 112 = .ok (.getfield 7, 3) := by decide +kernel
theorem dX6_does_115 : decode cX6_does 115 = .ok (.bipush 94, 2) := by decide +kernel
theorem dX6_does_117 : decode cX6_does 117 = .ok (.iaload, 1) := by decide +kernel
theorem dX6_does_118 : decode cX6_does 118 = .ok (.imul, 1) := by decide +kernel
theorem dX6_does_119 : decode cX6_does 119 = .ok (.iadd, 1) := by decide +kernel
theorem dX6_does_120 : decode cX6_does 120 = .ok (.istore 5, 2) := by decide +kernel
theorem dX6_does_122 : decode cX6_does 122 = .ok (.aload_n 0, 1) := by decide +kernel
theorem dX6_does_123 : decode cX6_does 123 = .ok (.getfield 7, 3) := by decide +kernel
theorem dX6_does_126 : decode cX6_does 126 = .ok (.iload 5, 2) := by decide +kernel
theorem dX6_does_128 : decode cX6_does 128 = .ok (.iload_n 1, 1) := by decide +kernel
theorem dX6_does_129 : decode cX6_does 129 = .ok (.iastore, 1) := by decide +kernel
theorem dX6_does_130 : decode cX6_does 130 = .ok (.aload_n 0, 1) := by decide +kernel
theorem dX6_does_131 : decode cX6_does 131 = .ok (.getfield 7, 3) := by decide +kernel
theorem dX6_does_134 : decode cX6_does 134 = .ok (.iload 5, 2) := by decide +kernel
theorem dX6_does_136 : decode cX6_does 136 = .ok (.iconst 1, 1) := by decide +kernel
theorem dX6_does_137 : decode cX6_does 137 = .ok (.iadd, 1) := by decide +kernel
theorem dX6_does_138 : decode cX6_does 138 = .ok (.iload_n 2, 1) := by decide +kernel
theorem dX6_does_139 : decode cX6_does 139 = .ok (.iastore, 1) := by decide +kernel
theorem dX6_does_140 : decode cX6_does 140 = .ok (.aload_n 0, 1) := by decide +kernel
theorem dX6_does_141 : decode cX6_does 141 = .ok (.getfield 7, 3) := by decide +kernel
theorem dX6_does_144 : decode cX6_does 144 = .ok (.iload 5, 2) := by decide +kernel
theorem dX6_does_146 : decode cX6_does 146 = .ok (.iconst 2, 1) := by decide +kernel
theorem dX6_does_147 : decode cX6_does 147 = .ok (.iadd, 1) := by decide +kernel
theorem dX6_does_148 : decode cX6_does 148 = .ok (.iload 4, 2) := by decide +kernel
theorem dX6_does_150 : decode cX6_does 150 = .ok (.iastore, 1) := by decide +kernel
theorem dX6_does_151 : decode cX6_does 151 = .ok (.aload_n 0, 1) := by decide +kernel
theorem dX6_does_152 : decode cX6_does 152 = .ok (.getfield 7, 3) := by decide +kernel
theorem dX6_does_155 : decode cX6_does 155 = .ok (.bipush 94, 2) := by decide +kernel
theorem dX6_does_157 : decode cX6_does 157 = .ok (.dup2, 1) := by decide +kernel
theorem dX6_does_158 : decode cX6_does 158 = .ok (.iaload, 1) := by decide +kernel
theorem dX6_does_159 : decode cX6_does 159 = .ok (.iconst 1, 1) := by decide +kernel
theorem dX6_does_160 : decode cX6_does 160 = .ok (.iadd, 1) := by decide +kernel
theorem dX6_does_161 : decode cX6_does 161 = .ok (.iastore, 1) := by decide +kernel
theorem dX6_does_162 : decode cX6_does 162 = .ok (.aload_n 0, 1) := by decide +kernel
theorem dX6_does_163 : decode cX6_does 163 = .ok (.getfield 7, 3) := by decide +kernel
theorem dX6_does_166 : decode cX6_does 166 = .ok (.bipush 19, 2) := by decide +kernel
theorem dX6_does_168 : decode cX6_does 168 = .ok (.iconst 5, 1) := by decide +kernel
theorem dX6_does_169 : decode cX6_does 169 = .ok (.iload_n 1, 1) := by decide +kernel
theorem dX6_does_170 : decode cX6_does 170 = .ok (.imul, 1) := by decide +kernel
theorem dX6_does_171 : decode cX6_does 171 = .ok (.iadd, 1) := by decide +kernel
theorem dX6_does_172 : decode cX6_does 172 = .ok (.iload_n 2, 1) := by decide +kernel
theorem dX6_does_173 : decode cX6_does 173 = .ok (.iadd, 1) := by decide +kernel
theorem dX6_does_174 : decode cX6_does 174 = .ok (.iload_n 3, 1) := by decide +kernel
theorem dX6_does_175 : decode cX6_does 175 = .ok (.iastore, 1) := by decide +kernel
theorem dX6_does_176 : decode cX6_does 176 = .ok (.iload 4, 2) := by decide +kernel
theorem dX6_does_178 : decode cX6_does 178 = .ok (.ireturn, 1) := by decide +kernel
theorem dX6_undo_0 : decode cX6_undo 0 = .ok (.aload_n 0, 1) := by decide +kernel
theorem dX6_undo_1 : decode cX6_undo 1 = .ok (.getfield 7, 3) := by decide +kernel
theorem dX6_undo_4 : decode cX6_undo 4 = .ok (.bipush 94, 2) := by decide +kernel
theorem dX6_undo_6 : decode cX6_undo 6 = .ok (.iaload, 1) := by decide +kernel
theorem dX6_undo_7 : decode cX6_undo 7 = .ok (.ifCond .ne 8, 3) := by decide +kernel
theorem dX6_undo_10 : decode cX6_undo 10 = .ok (.aload_n 0, 1) := by decide +kernel
theorem dX6_undo_11 : decode cX6_undo 11 = .ok (.invokevirtual 105, 3) := by decide +kernel
theorem dX6_undo_14 : decode cX6_undo 14 = .ok (.ireturn, 1) := by decide +kernel
theorem dX6_undo_15 : decode cX6_undo 15 = .ok (.aload_n 0, 1) := by decide +kernel
theorem dX6_undo_16 : decode cX6_undo 16 = .ok (.getfield 7, 3) := by decide +kernel
theorem dX6_undo_19 : decode cX6_undo 19 = .ok (.bipush 94, 2) := by decide +kernel
theorem dX6_undo_21 : decode cX6_undo 21 = .ok (.dup2, 1) := by decide +kernel
theorem dX6_undo_22 : decode cX6_undo 22 = .ok (.iaload, 1) := by decide +kernel
theorem dX6_undo_23 : decode cX6_undo 23 = .ok (.iconst 1, 1) := by decide +kernel
theorem dX6_undo_24 : decode cX6_undo 24 = .ok (.isub, 1) := by decide +kernel
theorem dX6_undo_25 : decode cX6_undo 25 = .ok (.iastore, 1) := by decide +kernel
theorem dX6_undo_26 : decode cX6_undo 26 = .ok (.bipush 95, 2) := by decide +kernel
theorem dX6_undo_28 : decode cX6_undo 28 = .ok (.iconst 3, 1) := by decide +kernel
theorem dX6_undo_29 : decode cX6_undo 29 = .ok (.aload_n 0, 1) := by decide +kernel
theorem dX6_undo_30 : decode cX6_undo 30 = .ok (.getfield 7, 3) := by decide +kernel
theorem dX6_undo_33 : decode cX6_undo 33 = .ok (.bipush 94, 2) := by decide +kernel
theorem dX6_undo_35 : decode cX6_undo 35 = .ok (.iaload, 1) := by decide +kernel
theorem dX6_undo_36 : decode cX6_undo 36 = .ok (.imul, 1) := by decide +kernel
theorem dX6_undo_37 : decode cX6_undo 37 = .ok (.iadd, 1) := by decide +kernel
theorem dX6_undo_38 : decode cX6_undo 38 = .ok (.istore_n 1, 1) := by decide +kernel
theorem dX6_undo_39 : decode cX6_undo 39 = .ok (.aload_n 0, 1) := by decide +kernel
theorem dX6_undo_40 : decode cX6_undo 40 = .ok (.getfield 7, 3) := by decide +kernel
theorem dX6_undo_43 : decode cX6_undo 43 = .ok (.bipush 19, 2) := by decide +kernel
theorem dX6_undo_45 : decode cX6_undo 45 = .ok (.iconst 5, 1) := by decide +kernel
theorem dX6_undo_46 : decode cX6_undo 46 = .ok (.aload_n 0, 1) := by decide +kernel
theorem dX6_undo_47 : decode cX6_undo 47 = .ok (.getfield 7, 3) := by decide +kernel
theorem dX6_undo_50 : decode cX6_undo 50 = .ok (.iload_n 1, 1) := by decide +kernel
theorem dX6_undo_51 : decode cX6_undo 51 = .ok (.iaload, 1) := by decide +kernel
theorem dX6_undo_52 : decode cX6_undo 52 = .ok (.imul, 1) := by decide +kernel
theorem dX6_undo_53 : decode cX6_undo 53 = .ok (.iadd, 1) := by decide +kernel
theorem dX6_undo_54 : decode cX6_undo 54 = .ok (.aload_n 0, 1) := by decide +kernel
theorem dX6_undo_55 : decode cX6_undo 55 = .ok (.getfield 7, 3) := by decide +kernel
theorem dX6_undo_58 : decode cX6_undo 58 = .ok (.iload_n 1, 1) := by decide +kernel
theorem dX6_undo_59 : decode cX6_undo 59 = .ok (.iconst 1, 1) := by decide +kernel
theorem dX6_undo_60 : decode cX6_undo 60 = .ok (.iadd, 1) := by decide +kernel
theorem dX6_undo_61 : decode cX6_undo 61 = .ok (.iaload, 1) := by decide +kernel
theorem dX6_undo_62 : decode cX6_undo 62 = .ok (.iadd, 1) := by decide +kernel
theorem dX6_undo_63 : decode cX6_undo 63 = .ok (.aload_n 0, 1) := by decide +kernel
theorem dX6_undo_64 : decode cX6_undo 64 = .ok (.getfield 7, 3) := by decide +kernel
theorem dX6_undo_67 : decode cX6_undo 67 = .ok (.iload_n 1, 1) := by decide +kernel
theorem dX6_undo_68 : decode cX6_undo 68 = .ok (.iconst 2, 1) := by decide +kernel
theorem dX6_undo_69 : decode cX6_undo 69 = .ok (.iadd, 1) := by decide +kernel
theorem dX6_undo_70 : decode cX6_undo 70 = .ok (.iaload, 1) := by decide +kernel
theorem dX6_undo_71 : decode cX6_undo 71 = .ok (.iastore, 1) := by decide +kernel
theorem dX6_undo_72 : decode cX6_undo 72 = .ok (.iconst 1, 1) := by decide +kernel
theorem dX6_undo_73 : decode cX6_undo 73 = .ok (.ireturn, 1) := by decide +kernel
theorem dX6_needsOf_0 : decode cX6_needsOf 0 = .ok (.iconst 0, 1) := by decide +kernel
theorem dX6_needsOf_1 : decode cX6_needsOf 1 = .ok (.istore_n 2, 1) := by decide +kernel
theorem dX6_needsOf_2 : decode cX6_needsOf 2 = .ok (.iconst 0, 1) := by decide +kernel
theorem dX6_needsOf_3 : decode cX6_needsOf 3 = .ok (.istore_n 3, 1) := by decide +kernel
theorem dX6_needsOf_4 : decode cX6_needsOf 4 = .ok (.iload_n 3, 1) := by decide +kernel
theorem dX6_needsOf_5 : decode cX6_needsOf 5 = .ok (.bipush 9, 2) := by decide +kernel
theorem dX6_needsOf_7 : decode cX6_needsOf 7 = .ok (.if_icmp .ge 23, 3) := by decide +kernel
theorem dX6_needsOf_10 : decode cX6_needsOf 10 = .ok (.iload_n 2, 1) := by decide +kernel
theorem dX6_needsOf_11 : decode cX6_needsOf 11 = .ok (.aload_n 0, 1) := by decide +kernel
theorem dX6_needsOf_12 : decode cX6_needsOf 12 = .ok (.bipush 44, 2) := by decide +kernel
theorem dX6_needsOf_14 : decode cX6_needsOf 14 = .ok (.bipush 9, 2) := by decide +kernel
theorem dX6_needsOf_16 : decode cX6_needsOf 16 = .ok (.iload_n 1, 1) := by decide +kernel
theorem dX6_needsOf_17 : decode cX6_needsOf 17 = .ok (.imul, 1) := by decide +kernel
theorem dX6_needsOf_18 : decode cX6_needsOf 18 = .ok (.iadd, 1) := by decide +kernel
theorem dX6_needsOf_19 : decode cX6_needsOf 19 = .ok (.iload_n 3, 1) := by decide +kernel
theorem dX6_needsOf_20 : decode cX6_needsOf 20 = .ok (.iadd, 1) := by decide +kernel
theorem dX6_needsOf_21 : decode cX6_needsOf 21 = .ok (.iaload, 1) := by decide +kernel
theorem dX6_needsOf_22 : decode cX6_needsOf 22 = .ok (.iadd, 1) := by decide +kernel
theorem dX6_needsOf_23 : decode cX6_needsOf 23 = .ok (.istore_n 2, 1) := by decide +kernel
theorem dX6_needsOf_24 : decode cX6_needsOf 24 = .ok (.iinc 3 1, 3) := by decide +kernel
theorem dX6_needsOf_27 : decode cX6_needsOf 27 = .ok (.goto (-23), 3) := by decide +kernel
theorem dX6_needsOf_30 : decode cX6_needsOf 30 = .ok (.iload_n 2, 1) := by decide +kernel
theorem dX6_needsOf_31 : decode cX6_needsOf 31 = .ok (.ireturn, 1) := by decide +kernel
theorem dX6_need_0 : decode cX6_need 0 = .ok (.aload_n 0, 1) := by decide +kernel
theorem dX6_need_1 : decode cX6_need 1 = .ok (.iload_n 1, 1) := by decide +kernel
theorem dX6_need_2 : decode cX6_need 2 = .ok (.invokevirtual 102, 3) := by decide +kernel
theorem dX6_need_5 : decode cX6_need 5 = .ok (.ifCond .eq 27, 3) := by decide +kernel
theorem dX6_need_8 : decode cX6_need 8 = .ok (.aload_n 0, 1) := by decide +kernel
theorem dX6_need_9 : decode cX6_need 9 = .ok (.iload_n 2, 1) := by decide +kernel
theorem dX6_need_10 : decode cX6_need 10 = .ok (.invokevirtual 84, 3) := by decide +kernel
theorem dX6_need_13 : decode cX6_need 13 = .ok (.ifCond .eq 19, 3) := by decide +kernel
theorem dX6_need_16 : decode cX6_need 16 = .ok (.iload_n 3, 1) := by decide +kernel
theorem dX6_need_17 : decode cX6_need 17 = .ok (.i2l, 1) := by decide +kernel
theorem dX6_need_18 : decode cX6_need 18 = .ok (.lconst 0, 1) := by decide +kernel
theorem dX6_need_19 : decode cX6_need 19 = .ok (.ldc2_w 95, 3) := by decide +kernel
theorem dX6_need_22 : decode cX6_need 22 = .ok (.invokestatic 74, 3) := by decide +kernel
theorem dX6_need_25 : decode cX6_need 25 = .ok (.ifCond .eq 7, 3) := by decide +kernel
theorem dX6_need_28 : decode cX6_need 28 = .ok (.iconst 1, 1) := by decide +kernel
theorem dX6_need_29 : decode cX6_need 29 = .ok (.goto 4, 3) := by decide +kernel
theorem dX6_need_32 : decode cX6_need 32 = .ok (.iconst 0, 1) := by decide +kernel
theorem dX6_need_33 : decode cX6_need 33 = .ok (.istore 4, 2) := by decide +kernel
theorem dX6_need_35 : decode cX6_need 35 = .ok (.iload 4, 2) := by decide +kernel
theorem dX6_need_37 : decode cX6_need 37 = .ok (.ifCond .eq 35, 3) := by decide +kernel
theorem dX6_need_40 : decode cX6_need 40 = .ok (.aload_n 0, 1) := by decide +kernel
theorem dX6_need_41 : decode cX6_need 41 = .ok (.getfield 7, 3) := by decide +kernel
theorem dX6_need_44 : decode cX6_need 44 = .ok (.iload_n 1, 1) := by decide +kernel
theorem dX6_need_45 : decode cX6_need 45 = .ok (.invokestatic 108, 3) := by decide +kernel
theorem dX6_need_48 : decode cX6_need 48 = .ok (.aload_n 0, 1) := by decide +kernel
theorem dX6_need_49 : decode cX6_need 49 = .ok (.getfield 7, 3) := by decide +kernel
theorem dX6_need_52 : decode cX6_need 52 = .ok (.bipush 44, 2) := by decide +kernel
theorem dX6_need_54 : decode cX6_need 54 = .ok (.bipush 9, 2) := by decide +kernel
theorem dX6_need_56 : decode cX6_need 56 = .ok (.iload_n 1, 1) := by decide +kernel
theorem dX6_need_57 : decode cX6_need 57 = .ok (.imul, 1) := by decide +kernel
theorem dX6_need_58 : decode cX6_need 58 = .ok (.iadd, 1) := by decide +kernel
theorem dX6_need_59 : decode cX6_need 59 = .ok (.iload_n 2, 1) := by decide +kernel
theorem dX6_need_60 : decode cX6_need 60 = .ok (.iadd, 1) := by decide +kernel
theorem dX6_need_61 : decode cX6_need 61 = .ok (.iaload, 1) := by decide +kernel
theorem dX6_need_62 : decode cX6_need 62 = .ok (.isub, 1) := by decide +kernel
theorem dX6_need_63 : decode cX6_need 63 = .ok (.iload_n 3, 1) := by decide +kernel
theorem dX6_need_64 : decode cX6_need 64 = .ok (.iadd, 1) := by decide +kernel
theorem dX6_need_65 : decode cX6_need 65 = .ok (.aload_n 0, 1) := by decide +kernel
theorem dX6_need_66 : decode cX6_need 66 = .ok (.invokevirtual 81, 3) := by decide +kernel
theorem dX6_need_69 : decode cX6_need 69 = .ok (.if_icmp .le 10, 3) := by decide +kernel
theorem dX6_need_72 : decode cX6_need 72 = .ok (.aload_n 0, 1) := by decide +kernel
theorem dX6_need_73 : decode cX6_need 73 = .ok (.bipush (-2), 2) := by decide +kernel
theorem dX6_need_75 : decode cX6_need 75 = .ok (.invokevirtual 88, 3) := by decide +kernel
theorem dX6_need_78 : decode cX6_need 78 = .ok (.ireturn, 1) := by decide +kernel
theorem dX6_need_79 : decode cX6_need 79 = .ok (.aload_n 0, 1) := by decide +kernel
theorem dX6_need_80 : decode cX6_need 80 = .ok (.getfield 7, 3) := by decide +kernel
theorem dX6_need_83 : decode cX6_need 83 = .ok (.bipush 44, 2) := by decide +kernel
theorem dX6_need_85 : decode cX6_need 85 = .ok (.bipush 9, 2) := by decide +kernel
theorem dX6_need_87 : decode cX6_need 87 = .ok (.iload_n 1, 1) := by decide +kernel
theorem dX6_need_88 : decode cX6_need 88 = .ok (.imul, 1) := by decide +kernel
theorem dX6_need_89 : decode cX6_need 89 = .ok (.iadd, 1) := by decide +kernel
theorem dX6_need_90 : decode cX6_need 90 = .ok (.iload_n 2, 1) := by decide +kernel
theorem dX6_need_91 : decode cX6_need 91 = .ok (.iadd, 1) := by decide +kernel
theorem dX6_need_92 : decode cX6_need 92 = .ok (.iaload, 1) := by decide +kernel
theorem dX6_need_93 : decode cX6_need 93 = .ok (.istore 5, 2) := by decide +kernel
theorem dX6_need_95 : decode cX6_need 95 = .ok (.aload_n 0, 1) := by decide +kernel
theorem dX6_need_96 : decode cX6_need 96 = .ok (.getfield 7, 3) := by decide +kernel
theorem dX6_need_99 : decode cX6_need 99 = .ok (.bipush 44, 2) := by decide +kernel
theorem dX6_need_101 : decode cX6_need 101 = .ok (.bipush 9, 2) := by decide +kernel
theorem dX6_need_103 : decode cX6_need 103 = .ok (.iload_n 1, 1) := by decide +kernel
theorem dX6_need_104 : decode cX6_need 104 = .ok (.imul, 1) := by decide +kernel
theorem dX6_need_105 : decode cX6_need 105 = .ok (.iadd, 1) := by decide +kernel
theorem dX6_need_106 : decode cX6_need 106 = .ok (.iload_n 2, 1) := by decide +kernel
theorem dX6_need_107 : decode cX6_need 107 = .ok (.iadd, 1) := by decide +kernel
theorem dX6_need_108 : decode cX6_need 108 = .ok (.iload_n 3, 1) := by decide +kernel
theorem dX6_need_109 : decode cX6_need 109 = .ok (.iastore, 1) := by decide +kernel
theorem dX6_need_110 : decode cX6_need 110 = .ok (.iload 5, 2) := by decide +kernel
theorem dX6_need_112 : decode cX6_need 112 = .ok (.ireturn, 1) := by decide +kernel
theorem dX6_depth_0 : decode cX6_depth 0 = .ok (.iconst 0, 1) := by decide +kernel
theorem dX6_depth_1 : decode cX6_depth 1 = .ok (.istore_n 2, 1) := by decide +kernel
theorem dX6_depth_2 : decode cX6_depth 2 = .ok (.aload_n 0, 1) := by decide +kernel
theorem dX6_depth_3 : decode cX6_depth 3 = .ok (.getfield 27, 3) := by decide +kernel
theorem dX6_depth_6 : decode cX6_depth 6 = .ok (.iload_n 1, 1) := by decide +kernel
theorem dX6_depth_7 : decode cX6_depth 7 = .ok (.iaload, 1) := by decide +kernel
theorem dX6_depth_8 : decode cX6_depth 8 = .ok (.istore_n 3, 1) := by decide +kernel
theorem dX6_depth_9 : decode cX6_depth 9 = .ok (.iload_n 3, 1) := by decide +kernel
theorem dX6_depth_10 : decode cX6_depth 10 = .ok (.iconst (-1), 1) := by decide +kernel
theorem dX6_depth_11 : decode cX6_depth 11 = .ok (.if_icmp .eq 16, 3) := by decide +kernel
theorem dX6_depth_14 : decode cX6_depth 14 = .ok (.iinc 2 1, 3) := by decide +kernel
theorem dX6_depth_17 : decode cX6_depth 17 = .ok (.aload_n 0, 1) := by decide +kernel
theorem dX6_depth_18 : decode cX6_depth 18 = .ok (.getfield 27, 3) := by decide +kernel
theorem dX6_depth_21 : decode cX6_depth 21 = .ok (.iload_n 3, 1) := by decide +kernel
theorem dX6_depth_22 : decode cX6_depth 22 = .ok (.iaload, 1) := by decide +kernel
theorem dX6_depth_23 : decode cX6_depth 23 = .ok (.istore_n 3, 1) := by decide +kernel
theorem dX6_depth_24 : decode cX6_depth 24 = .ok (.goto (-15), 3) := by decide +kernel
theorem dX6_depth_27 : decode cX6_depth 27 = .ok (.iload_n 2, 1) := by decide +kernel
theorem dX6_depth_28 : decode cX6_depth 28 = .ok (.ireturn, 1) := by decide +kernel
theorem dX6_layLine_0 : decode cX6_layLine 0 = .ok (.iconst 0, 1) := by decide +kernel
theorem dX6_layLine_1 : decode cX6_layLine 1 = .ok (.istore_n 3, 1) := by decide +kernel
theorem dX6_layLine_2 : decode cX6_layLine 2 = .ok (.iload_n 3, 1) := by decide +kernel
theorem dX6_layLine_3 : decode cX6_layLine 3 = .ok (.aload_n 0, 1) := by decide +kernel
theorem dX6_layLine_4 : decode cX6_layLine 4 = .ok (.invokevirtual 70, 3) := by decide +kernel
theorem dX6_layLine_7 : decode cX6_layLine 7 = .ok (.if_icmp .ge 32, 3) := by decide +kernel
theorem dX6_layLine_10 : decode cX6_layLine 10 = .ok (.aload_n 0, 1) := by decide +kernel
theorem dX6_layLine_11 : decode cX6_layLine 11 = .ok (.getfield 27, 3) := by decide +kernel
theorem dX6_layLine_14 : decode cX6_layLine 14 = .ok (.iload_n 3, 1) := by decide +kernel
theorem dX6_layLine_15 : decode cX6_layLine 15 = .ok (.iload_n 3, 1) := by decide +kernel
theorem dX6_layLine_16 : decode cX6_layLine 16 = .ok (.iload_n 2, 1) := by decide +kernel
theorem dX6_layLine_17 : decode cX6_layLine 17 = .ok (.if_icmp .ne 7, 3) := by decide +kernel
theorem dX6_layLine_20 : decode cX6_layLine 20 = .ok (.iconst (-1), 1) := by decide +kernel
theorem dX6_layLine_21 : decode cX6_layLine 21 = .ok (.goto 11, 3) := by decide +kernel
theorem dX6_layLine_24 : decode cX6_layLine 24 = .ok (.aload_n 0, 1) := by decide +kernel
theorem dX6_layLine_25 : decode cX6_layLine 25 = .ok (.getfield 7, 3) := by decide +kernel
theorem dX6_layLine_28 : decode cX6_layLine 28 = .ok (.iconst 1, 1) := by decide +kernel
theorem dX6_layLine_29 : decode cX6_layLine 29 = .ok (.iload_n 3, 1) := by decide +kernel
theorem dX6_layLine_30 : decode cX6_layLine 30 = .ok (.iadd, 1) := by decide +kernel
theorem dX6_layLine_31 : decode cX6_layLine 31 = .ok (.iaload, 1) := by decide +kernel
theorem dX6_layLine_32 : decode cX6_layLine 32 = .ok (.iastore, 1) := by decide +kernel
theorem dX6_layLine_33 : decode cX6_layLine 33 = .ok (.iinc 3 1, 3) := by decide +kernel
theorem dX6_layLine_36 : decode cX6_layLine 36 = .ok (.goto (-34), 3) := by decide +kernel
theorem dX6_layLine_39 : decode cX6_layLine 39 = .ok (.iconst 0, 1) := by decide +kernel
theorem dX6_layLine_40 : decode cX6_layLine 40 = .ok (.istore_n 3, 1) := by decide +kernel
theorem dX6_layLine_41 : decode cX6_layLine 41 = .ok (.iload_n 3, 1) := by decide +kernel
theorem dX6_layLine_42 : decode cX6_layLine 42 = .ok (.aload_n 0, 1) := by decide +kernel
theorem dX6_layLine_43 : decode cX6_layLine 43 = .ok (.invokevirtual 70, 3) := by decide +kernel
theorem dX6_layLine_46 : decode cX6_layLine 46 = .ok (.if_icmp .ge 48, 3) := by decide +kernel
theorem dX6_layLine_49 : decode cX6_layLine 49 = .ok (.iload_n 3, 1) := by decide +kernel
theorem dX6_layLine_50 : decode cX6_layLine 50 = .ok (.istore 4, 2) := by decide +kernel
theorem dX6_layLine_52 : decode cX6_layLine 52 = .ok (.aload_n 0, 1) := by decide +kernel
theorem dX6_layLine_53 : decode cX6_layLine 53 = .ok (.iload_n 3, 1) := by decide +kernel
theorem dX6_layLine_54 : decode cX6_layLine 54 = .ok (.invokevirtual 112, 3) := by decide +kernel
theorem dX6_layLine_57 : decode cX6_layLine 57 = .ok (.istore 5, 2) := by decide +kernel
theorem dX6_layLine_59 : decode cX6_layLine 59 = .ok (.iload 5, 2) := by decide +kernel
theorem dX6_layLine_61 : decode cX6_layLine 61 = .ok (.iload_n 1, 1) := by decide +kernel
theorem dX6_layLine_62 : decode cX6_layLine 62 = .ok (.if_icmp .le 18, 3) := by decide +kernel
theorem dX6_layLine_65 : decode cX6_layLine 65 = .ok (.aload_n 0, 1) := by decide +kernel
theorem dX6_layLine_66 : decode cX6_layLine 66 = .ok (.getfield 27, 3) := by decide +kernel
theorem dX6_layLine_69 : decode cX6_layLine 69 = .ok (.iload 4, 2) := by decide +kernel
theorem dX6_layLine_71 : decode cX6_layLine 71 = .ok (.iaload, 1) := by decide +kernel
theorem dX6_layLine_72 : decode cX6_layLine 72 = .ok (.istore 4, 2) := by decide +kernel
theorem dX6_layLine_74 : decode cX6_layLine 74 = .ok (.iinc 5 (-1), 3) := by decide +kernel
theorem dX6_layLine_77 : decode cX6_layLine 77 = .ok (.goto (-18), 3) := by decide +kernel
theorem dX6_layLine_80 : decode cX6_layLine 80 = .ok (.aload_n 0, 1) := by decide +kernel
theorem dX6_layLine_81 : decode cX6_layLine 81 = .ok (.getfield 30, 3) := by decide +kernel
theorem dX6_layLine_84 : decode cX6_layLine 84 = .ok (.iload_n 3, 1) := by decide +kernel
theorem dX6_layLine_85 : decode cX6_layLine 85 = .ok (.iload 4, 2) := by decide +kernel
theorem dX6_layLine_87 : decode cX6_layLine 87 = .ok (.iastore, 1) := by decide +kernel
theorem dX6_layLine_88 : decode cX6_layLine 88 = .ok (.iinc 3 1, 3) := by decide +kernel
theorem dX6_layLine_91 : decode cX6_layLine 91 = .ok (.goto (-50), 3) := by decide +kernel
theorem dX6_layLine_94 : decode cX6_layLine 94 = .ok (.return_, 1) := by decide +kernel
theorem dX6_layNow_0 : decode cX6_layNow 0 = .ok (.aload_n 0, 1) := by decide +kernel
theorem dX6_layNow_1 : decode cX6_layNow 1 = .ok (.aload_n 0, 1) := by decide +kernel
theorem dX6_layNow_2 : decode cX6_layNow 2 = .ok (.getfield 7, 3) := by decide +kernel
theorem dX6_layNow_5 : decode cX6_layNow 5 = .ok (.bipush 12, 2) := by decide +kernel
theorem dX6_layNow_7 : decode cX6_layNow 7 = .ok (.iaload, 1) := by decide +kernel
theorem dX6_layNow_8 : decode cX6_layNow 8 = .ok (.iconst (-1), 1) := by decide +kernel
theorem dX6_layNow_9 : decode cX6_layNow 9 = .ok (.invokevirtual 115, 3) := by decide +kernel
theorem dX6_layNow_12 : decode cX6_layNow 12 = .ok (.return_, 1) := by decide +kernel
theorem dX6_at_0 : decode cX6_at 0 = .ok (.aload_n 0, 1) := by decide +kernel
theorem dX6_at_1 : decode cX6_at 1 = .ok (.iload_n 1, 1) := by decide +kernel
theorem dX6_at_2 : decode cX6_at 2 = .ok (.invokevirtual 84, 3) := by decide +kernel
theorem dX6_at_5 : decode cX6_at 5 = .ok (.ifCond .ne 10, 3) := by decide +kernel
theorem dX6_at_8 : decode cX6_at 8 = .ok (.aload_n 0, 1) := by decide +kernel
theorem dX6_at_9 : decode cX6_at 9 = .ok (.bipush (-2), 2) := by decide +kernel
theorem dX6_at_11 : decode cX6_at 11 = .ok (.invokevirtual 88, 3) := by decide +kernel
theorem dX6_at_14 : decode cX6_at 14 = .ok (.ireturn, 1) := by decide +kernel
theorem dX6_at_15 : decode cX6_at 15 = .ok (.aload_n 0, 1) := by decide +kernel
theorem dX6_at_16 : decode cX6_at 16 = .ok (.invokevirtual 119, 3) := by decide +kernel
theorem dX6_at_19 : decode cX6_at 19 = .ok (.aload_n 0, 1) := by decide +kernel
theorem dX6_at_20 : decode cX6_at 20 = .ok (.getfield 30, 3) := by decide +kernel
theorem dX6_at_23 : decode cX6_at 23 = .ok (.iload_n 1, 1) := by decide +kernel
theorem dX6_at_24 : decode cX6_at 24 = .ok (.iaload, 1) := by decide +kernel
theorem dX6_at_25 : decode cX6_at 25 = .ok (.ireturn, 1) := by decide +kernel
theorem dX6_takeDone_0 : decode cX6_takeDone 0 = .ok (.iconst 0, 1) := by decide +kernel
theorem dX6_takeDone_1 : decode cX6_takeDone 1 = .ok (.istore_n 1, 1) := by decide +kernel
theorem dX6_takeDone_2 : decode cX6_takeDone 2 = .ok (.iload_n 1, 1) := by decide +kernel
theorem dX6_takeDone_3 : decode cX6_takeDone 3 = .ok (.bipush 25, 2) := by decide +kernel
theorem dX6_takeDone_5 : decode cX6_takeDone 5 = .ok (.if_icmp .ge 24, 3) := by decide +kernel
theorem dX6_takeDone_8 : decode cX6_takeDone 8 = .ok (.aload_n 0, 1) := by decide +kernel
theorem dX6_takeDone_9 : decode cX6_takeDone 9 = .ok (.getfield 33, 3) := by decide +kernel
theorem dX6_takeDone_12 : decode cX6_takeDone 12 = .ok (.iload_n 1, 1) := by decide +kernel
theorem dX6_takeDone_13 : decode cX6_takeDone 13 = .ok (.aload_n 0, 1) := by decide +kernel
theorem dX6_takeDone_14 : decode cX6_takeDone 14 = .ok (.getfield 7, 3) := by decide +kernel
theorem dX6_takeDone_17 : decode cX6_takeDone 17 = .ok (.bipush 19, 2) := by decide +kernel
theorem dX6_takeDone_19 : decode cX6_takeDone 19 = .ok (.iload_n 1, 1) := by decide +kernel
theorem dX6_takeDone_20 : decode cX6_takeDone 20 = .ok (.iadd, 1) := by decide +kernel
theorem dX6_takeDone_21 : decode cX6_takeDone 21 = .ok (.iaload, 1) := by decide +kernel
theorem dX6_takeDone_22 : decode cX6_takeDone 22 = .ok (.iastore, 1) := by decide +kernel
theorem dX6_takeDone_23 : decode cX6_takeDone 23 = .ok (.iinc 1 1, 3) := by decide +kernel
theorem dX6_takeDone_26 : decode cX6_takeDone 26 = .ok (.goto (-24), 3) := by decide +kernel
theorem dX6_takeDone_29 : decode cX6_takeDone 29 = .ok (.return_, 1) := by decide +kernel
theorem dX6_takeNothing_0 : decode cX6_takeNothing 0 = .ok (.iconst 0, 1) := by decide +kernel
theorem dX6_takeNothing_1 : decode cX6_takeNothing 1 = .ok (.istore_n 1, 1) := by decide +kernel
theorem dX6_takeNothing_2 : decode cX6_takeNothing 2 = .ok (.iload_n 1, 1) := by decide +kernel
theorem dX6_takeNothing_3 : decode cX6_takeNothing 3 = .ok (.bipush 25, 2) := by decide +kernel
theorem dX6_takeNothing_5 : decode cX6_takeNothing 5 = .ok (.if_icmp .ge 16, 3) := by decide +kernel
theorem dX6_takeNothing_8 : decode cX6_takeNothing 8 = .ok (.aload_n 0, 1) := by decide +kernel
theorem dX6_takeNothing_9 : decode cX6_takeNothing 9 = .ok (.getfield 33, 3) := by decide +kernel
theorem dX6_takeNothing_12 : decode cX6_takeNothing 12 = .ok (.iload_n 1, 1) := by decide +kernel
theorem dX6_takeNothing_13 : decode cX6_takeNothing 13 = .ok (.iconst (-1), 1) := by decide +kernel
theorem dX6_takeNothing_14 : decode cX6_takeNothing 14 = .ok (.iastore, 1) := by decide +kernel
theorem dX6_takeNothing_15 : decode cX6_takeNothing 15 = .ok (.iinc 1 1, 3) := by decide +kernel
theorem dX6_takeNothing_18 : decode cX6_takeNothing 18 = .ok (.goto (-16), 3) := by decide +kernel
theorem dX6_takeNothing_21 : decode cX6_takeNothing 21 = .ok (.return_, 1) := by decide +kernel
theorem dX6_doing_0 : decode cX6_doing 0 = .ok (.aload_n 0, 1) := by decide +kernel
theorem dX6_doing_1 : decode cX6_doing 1 = .ok (.getfield 33, 3) := by decide +kernel
theorem dX6_doing_4 : decode cX6_doing 4 = .ok (.iconst 5, 1) := by decide +kernel
theorem dX6_doing_5 : decode cX6_doing 5 = .ok (.iload_n 1, 1) := by decide +kernel
theorem dX6_doing_6 : decode cX6_doing 6 = .ok (.imul, 1) := by decide +kernel
theorem dX6_doing_7 : decode cX6_doing 7 = .ok (.iload_n 2, 1) := by decide +kernel
theorem dX6_doing_8 : decode cX6_doing 8 = .ok (.iadd, 1) := by decide +kernel
theorem dX6_doing_9 : decode cX6_doing 9 = .ok (.iaload, 1) := by decide +kernel
theorem dX6_doing_10 : decode cX6_doing 10 = .ok (.ireturn, 1) := by decide +kernel
theorem dX6_isWith_0 : decode cX6_isWith 0 = .ok (.aload_n 0, 1) := by decide +kernel
theorem dX6_isWith_1 : decode cX6_isWith 1 = .ok (.iload_n 2, 1) := by decide +kernel
theorem dX6_isWith_2 : decode cX6_isWith 2 = .ok (.iload_n 3, 1) := by decide +kernel
theorem dX6_isWith_3 : decode cX6_isWith 3 = .ok (.invokevirtual 122, 3) := by decide +kernel
theorem dX6_isWith_6 : decode cX6_isWith 6 = .ok (.istore 5, 2) := by decide +kernel
theorem dX6_isWith_8 : decode cX6_isWith 8 = .ok (.aload_n 0, 1) := by decide +kernel
theorem dX6_isWith_9 : decode cX6_isWith 9 = .ok (.iload_n 1, 1) := by decide +kernel
theorem dX6_isWith_10 : decode cX6_isWith 10 = .ok (.iload_n 3, 1) := by decide +kernel
theorem dX6_isWith_11 : decode cX6_isWith 11 = .ok (.invokevirtual 122, 3) := by decide +kernel
theorem dX6_isWith_14 : decode cX6_isWith 14 = .ok (.istore 6, 2) := by decide +kernel
theorem dX6_isWith_16 : decode cX6_isWith 16 = .ok (.iload 6, 2) := by decide +kernel
theorem dX6_isWith_18 : decode cX6_isWith 18 = .ok (.iconst (-1), 1) := by decide +kernel
theorem dX6_isWith_19 : decode cX6_isWith 19 = .ok (.if_icmp .eq 34, 3) := by decide +kernel
theorem dX6_isWith_22 : decode cX6_isWith 22 = .ok (.aload_n 0, 1) := by decide +kernel
theorem dX6_isWith_23 : decode cX6_isWith 23 = .ok (.getfield 30, 3) := by decide +kernel
theorem dX6_isWith_26 : decode cX6_isWith 26 = .ok (.iload 5, 2) := by decide +kernel
theorem dX6_isWith_28 : decode cX6_isWith 28 = .ok (.iaload, 1) := by decide +kernel
theorem dX6_isWith_29 : decode cX6_isWith 29 = .ok (.aload_n 0, 1) := by decide +kernel
theorem dX6_isWith_30 : decode cX6_isWith 30 = .ok (.getfield 30, 3) := by decide +kernel
theorem dX6_isWith_33 : decode cX6_isWith 33 = .ok (.iload 6, 2) := by decide +kernel
theorem dX6_isWith_35 : decode cX6_isWith 35 = .ok (.iaload, 1) := by decide +kernel
theorem dX6_isWith_36 : decode cX6_isWith 36 = .ok (.if_icmp .ne 17, 3) := by decide +kernel
theorem dX6_isWith_39 : decode cX6_isWith 39 = .ok (.iload 4, 2) := by decide +kernel
theorem dX6_isWith_41 : decode cX6_isWith 41 = .ok (.ifCond .eq 8, 3) := by decide +kernel
theorem dX6_isWith_44 : decode cX6_isWith 44 = .ok (.iload 6, 2) := by decide +kernel
theorem dX6_isWith_46 : decode cX6_isWith 46 = .ok (.ifCond .eq 7, 3) := by decide +kernel
theorem dX6_isWith_49 : decode cX6_isWith 49 = .ok (.iconst 1, 1) := by decide +kernel
theorem dX6_isWith_50 : decode cX6_isWith 50 = .ok (.goto 4, 3) := by decide +kernel
theorem dX6_isWith_53 : decode cX6_isWith 53 = .ok (.iconst 0, 1) := by decide +kernel
theorem dX6_isWith_54 : decode cX6_isWith 54 = .ok (.ireturn, 1) := by decide +kernel
theorem dX6_wasDone_0 : decode cX6_wasDone 0 = .ok (.iconst 0, 1) := by decide +kernel
theorem dX6_wasDone_1 : decode cX6_wasDone 1 = .ok (.istore_n 3, 1) := by decide +kernel
theorem dX6_wasDone_2 : decode cX6_wasDone 2 = .ok (.iconst 0, 1) := by decide +kernel
theorem dX6_wasDone_3 : decode cX6_wasDone 3 = .ok (.istore 4, 2) := by decide +kernel
theorem dX6_wasDone_5 : decode cX6_wasDone 5 = .ok (.iload 4, 2) := by decide +kernel
theorem dX6_wasDone_7 : decode cX6_wasDone 7 = .ok (.aload_n 0, 1) := by decide +kernel
theorem dX6_wasDone_8 : decode cX6_wasDone 8 = .ok (.invokevirtual 78, 3) := by decide +kernel
theorem dX6_wasDone_11 : decode cX6_wasDone 11 = .ok (.if_icmp .ge 71, 3) := by decide +kernel
theorem dX6_wasDone_14 : decode cX6_wasDone 14 = .ok (.iload_n 2, 1) := by decide +kernel
theorem dX6_wasDone_15 : decode cX6_wasDone 15 = .ok (.ifCond .le 67, 3) := by decide +kernel
theorem dX6_wasDone_18 : decode cX6_wasDone 18 = .ok (.iload 4, 2) := by decide +kernel
theorem dX6_wasDone_20 : decode cX6_wasDone 20 = .ok (.iload_n 1, 1) := by decide +kernel
theorem dX6_wasDone_21 : decode cX6_wasDone 21 = .ok (.if_icmp .ne 7, 3) := by decide +kernel
theorem dX6_wasDone_24 : decode cX6_wasDone 24 = .ok (.iconst (-1), 1) := by decide +kernel
theorem dX6_wasDone_25 : decode cX6_wasDone 25 = .ok (.goto 12, 3) := by decide +kernel
theorem dX6_wasDone_28 : decode cX6_wasDone 28 = .ok (.aload_n 0, 1) := by decide +kernel
theorem dX6_wasDone_29 : decode cX6_wasDone 29 = .ok (.iload 4, 2) := by decide +kernel
theorem dX6_wasDone_31 : decode cX6_wasDone 31 = .ok (.iload_n 2, 1) := by decide +kernel
theorem dX6_wasDone_32 : decode cX6_wasDone 32 = .ok (.iconst 1, 1) := by decide +kernel
theorem dX6_wasDone_33 : decode cX6_wasDone 33 = .ok (.isub, 1) := by decide +kernel
theorem dX6_wasDone_34 : decode cX6_wasDone 34 = .ok (.invokevirtual 122, 3) := by decide +kernel
theorem dX6_wasDone_37 : decode cX6_wasDone 37 = .ok (.istore 5, 2) := by decide +kernel
theorem dX6_wasDone_39 : decode cX6_wasDone 39 = .ok (.iload_n 3, 1) := by decide +kernel
theorem dX6_wasDone_40 : decode cX6_wasDone 40 = .ok (.ifCond .ne 30, 3) := by decide +kernel
theorem dX6_wasDone_43 : decode cX6_wasDone 43 = .ok (.iload 5, 2) := by decide +kernel
theorem dX6_wasDone_45 : decode cX6_wasDone 45 = .ok (.iconst (-1), 1) := by decide +kernel
theorem dX6_wasDone_46 : decode cX6_wasDone 46 = .ok (.if_icmp .eq 28, 3) := by decide +kernel
theorem dX6_wasDone_49 : decode cX6_wasDone 49 = .ok (.aload_n 0, 1) := by decide +kernel
theorem dX6_wasDone_50 : decode cX6_wasDone 50 = .ok (.getfield 30, 3) := by decide +kernel
theorem dX6_wasDone_53 : decode cX6_wasDone 53 = .ok (.iload 5, 2) := by decide +kernel
theorem dX6_wasDone_55 : decode cX6_wasDone 55 = .ok (.iaload, 1) := by decide +kernel
theorem dX6_wasDone_56 : decode cX6_wasDone 56 = .ok (.aload_n 0, 1) := by decide +kernel
theorem dX6_wasDone_57 : decode cX6_wasDone 57 = .ok (.getfield 30, 3) := by decide +kernel
theorem dX6_wasDone_60 : decode cX6_wasDone 60 = .ok (.aload_n 0, 1) := by decide +kernel
theorem dX6_wasDone_61 : decode cX6_wasDone 61 = .ok (.iload_n 1, 1) := by decide +kernel
theorem dX6_wasDone_62 : decode cX6_wasDone 62 = .ok (.iload_n 2, 1) := by decide +kernel
theorem dX6_wasDone_63 : decode cX6_wasDone 63 = .ok (.invokevirtual 122, 3) := by decide +kernel
theorem dX6_wasDone_66 : decode cX6_wasDone 66 = .ok (.iaload, 1) := by decide +kernel
theorem dX6_wasDone_67 : decode cX6_wasDone 67 = .ok (.if_icmp .ne 7, 3) := by decide +kernel
theorem dX6_wasDone_70 : decode cX6_wasDone 70 = .ok (.iconst 1, 1) := by decide +kernel
theorem dX6_wasDone_71 : decode cX6_wasDone 71 = .ok (.goto 4, 3) := by decide +kernel
theorem dX6_wasDone_74 : decode cX6_wasDone 74 = .ok (.iconst 0, 1) := by decide +kernel
theorem dX6_wasDone_75 : decode cX6_wasDone 75 = .ok (.istore_n 3, 1) := by decide +kernel
theorem dX6_wasDone_76 : decode cX6_wasDone 76 = .ok (.iinc 4 1, 3) := by decide +kernel
theorem dX6_wasDone_79 : decode cX6_wasDone 79 = .ok (.goto (-74), 3) := by decide +kernel
theorem dX6_wasDone_82 : decode cX6_wasDone 82 = .ok (.iload_n 3, 1) := by decide +kernel
theorem dX6_wasDone_83 : decode cX6_wasDone 83 = .ok (.ireturn, 1) := by decide +kernel
theorem dX6_paysOf_0 : decode cX6_paysOf 0 = .ok (.aload_n 0, 1) := by decide +kernel
theorem dX6_paysOf_1 : decode cX6_paysOf 1 = .ok (.iload_n 1, 1) := by decide +kernel
theorem dX6_paysOf_2 : decode cX6_paysOf 2 = .ok (.iload_n 2, 1) := by decide +kernel
theorem dX6_paysOf_3 : decode cX6_paysOf 3 = .ok (.invokevirtual 122, 3) := by decide +kernel
theorem dX6_paysOf_6 : decode cX6_paysOf 6 = .ok (.istore_n 3, 1) := by decide +kernel
theorem dX6_paysOf_7 : decode cX6_paysOf 7 = .ok (.aload_n 0, 1) := by decide +kernel
theorem dX6_paysOf_8 : decode cX6_paysOf 8 = .ok (.getfield 7, 3) := by decide +kernel
theorem dX6_paysOf_11 : decode cX6_paysOf 11 = .ok (.bipush 14, 2) := by decide +kernel
theorem dX6_paysOf_13 : decode cX6_paysOf 13 = .ok (.iload_n 2, 1) := by decide +kernel
theorem dX6_paysOf_14 : decode cX6_paysOf 14 = .ok (.iadd, 1) := by decide +kernel
theorem dX6_paysOf_15 : decode cX6_paysOf 15 = .ok (.iaload, 1) := by decide +kernel
theorem dX6_paysOf_16 : decode cX6_paysOf 16 = .ok (.istore 4, 2) := by decide +kernel
theorem dX6_paysOf_18 : decode cX6_paysOf 18 = .ok (.iload_n 3, 1) := by decide +kernel
theorem dX6_paysOf_19 : decode cX6_paysOf 19 = .ok (.iconst (-1), 1) := by decide +kernel
theorem dX6_paysOf_20 : decode cX6_paysOf 20 = .ok (.if_icmp .eq 13, 3) := by decide +kernel
theorem dX6_paysOf_23 : decode cX6_paysOf 23 = .ok (.iload 4, 2) := by decide +kernel
theorem dX6_paysOf_25 : decode cX6_paysOf 25 = .ok (.iconst 4, 1) := by decide +kernel
theorem dX6_paysOf_26 : decode cX6_paysOf 26 = .ok (.if_icmp .ne 9, 3) := by decide +kernel
theorem dX6_paysOf_29 : decode cX6_paysOf 29 = .ok (.iload_n 3, 1) := by decide +kernel
theorem dX6_paysOf_30 : decode cX6_paysOf 30 = .ok (.ifCond .ne 5, 3) := by decide +kernel
theorem dX6_paysOf_33 : decode cX6_paysOf 33 = .ok (.iconst 0, 1) := by decide +kernel
theorem dX6_paysOf_34 : decode cX6_paysOf 34 = .ok (.ireturn, 1) := by decide +kernel
theorem dX6_paysOf_35 : decode cX6_paysOf 35 = .ok (.iconst 0, 1) := by decide +kernel
theorem dX6_paysOf_36 : decode cX6_paysOf 36 = .ok (.istore 5, 2) := by decide +kernel
theorem dX6_paysOf_38 : decode cX6_paysOf 38 = .ok (.iconst 0, 1) := by decide +kernel
theorem dX6_paysOf_39 : decode cX6_paysOf 39 = .ok (.istore 6, 2) := by decide +kernel
theorem dX6_paysOf_41 : decode cX6_paysOf 41 = .ok (.iconst 0, 1) := by decide +kernel
theorem dX6_paysOf_42 : decode cX6_paysOf 42 = .ok (.istore 7, 2) := by decide +kernel
theorem dX6_paysOf_44 : decode cX6_paysOf 44 = .ok (.iconst 0, 1) := by decide +kernel
theorem dX6_paysOf_45 : decode cX6_paysOf 45 = .ok (.istore 8, 2) := by decide +kernel
theorem dX6_paysOf_47 : decode cX6_paysOf 47 = .ok (.iload 8, 2) := by decide +kernel
theorem dX6_paysOf_49 : decode cX6_paysOf 49 = .ok (.aload_n 0, 1) := by decide +kernel
theorem dX6_paysOf_50 : decode cX6_paysOf 50 = .ok (.invokevirtual 78, 3) := by decide +kernel
theorem dX6_paysOf_53 : decode cX6_paysOf 53 = .ok (.if_icmp .ge 95, 3) := by decide +kernel
theorem dX6_paysOf_56 : decode cX6_paysOf 56 = .ok (.aload_n 0, 1) := by decide +kernel
theorem dX6_paysOf_57 : decode cX6_paysOf 57 = .ok (.iload 8, 2) := by decide +kernel
theorem dX6_paysOf_59 : decode cX6_paysOf 59 = .ok (.iload_n 1, 1) := by decide +kernel
theorem dX6_paysOf_60 : decode cX6_paysOf 60 = .ok (.iload_n 2, 1) := by decide +kernel
theorem dX6_paysOf_61 : decode cX6_paysOf 61 = .ok (.iload 4, 2) := by decide +kernel
theorem dX6_paysOf_63 : decode cX6_paysOf 63 = .ok (.iconst 4, 1) := by decide +kernel
theorem dX6_paysOf_64 : decode cX6_paysOf 64 = .ok (.if_icmp .ne 7, 3) := by decide +kernel
theorem dX6_paysOf_67 : decode cX6_paysOf 67 = .ok (.iconst 1, 1) := by decide +kernel
theorem dX6_paysOf_68 : decode cX6_paysOf 68 = .ok (.goto 4, 3) := by decide +kernel
theorem dX6_paysOf_71 : decode cX6_paysOf 71 = .ok (.iconst 0, 1) := by decide +kernel
theorem dX6_paysOf_72 : decode cX6_paysOf 72 = .ok (.invokevirtual 126, 3) := by decide +kernel
theorem dX6_paysOf_75 : decode cX6_paysOf 75 = .ok (.istore 9, 2) := by decide +kernel
theorem dX6_paysOf_77 : decode cX6_paysOf 77 = .ok (.iload 5, 2) := by decide +kernel
theorem dX6_paysOf_79 : decode cX6_paysOf 79 = .ok (.iload 9, 2) := by decide +kernel
theorem dX6_paysOf_81 : decode cX6_paysOf 81 = .ok (.ifCond .eq 7, 3) := by decide +kernel
theorem dX6_paysOf_84 : decode cX6_paysOf 84 = .ok (.iconst 1, 1) := by decide +kernel
theorem dX6_paysOf_85 : decode cX6_paysOf 85 = .ok (.goto 4, 3) := by decide +kernel
theorem dX6_paysOf_88 : decode cX6_paysOf 88 = .ok (.iconst 0, 1) := by decide +kernel
theorem dX6_paysOf_89 : decode cX6_paysOf 89 = .ok (.iadd, 1) := by decide +kernel
theorem dX6_paysOf_90 : decode cX6_paysOf 90 = .ok (.istore 5, 2) := by decide +kernel
theorem dX6_paysOf_92 : decode cX6_paysOf 92 = .ok (.iload 6, 2) := by decide +kernel
theorem dX6_paysOf_94 : decode cX6_paysOf 94 = .ok (.iload 9, 2) := by decide +kernel
theorem dX6_paysOf_96 : decode cX6_paysOf 96 = .ok (.ifCond .eq 13, 3) := by decide +kernel
theorem dX6_paysOf_99 : decode cX6_paysOf 99 = .ok (.iload 8, 2) := by decide +kernel
theorem dX6_paysOf_101 : decode cX6_paysOf 101 = .ok (.iload_n 1, 1) := by decide +kernel
theorem dX6_paysOf_102 : decode cX6_paysOf 102 = .ok (.if_icmp .ge 7, 3) := by decide +kernel
theorem dX6_paysOf_105 : decode cX6_paysOf 105 = .ok (.iconst 1, 1) := by decide +kernel
theorem dX6_paysOf_106 : decode cX6_paysOf 106 = .ok (.goto 4, 3) := by decide +kernel
theorem dX6_paysOf_109 : decode cX6_paysOf 109 = .ok (.iconst 0, 1) := by decide +kernel
theorem dX6_paysOf_110 : decode cX6_paysOf 110 = .ok (.iadd, 1) := by decide +kernel
theorem dX6_paysOf_111 : decode cX6_paysOf 111 = .ok (.istore 6, 2) := by decide +kernel
theorem dX6_paysOf_113 : decode cX6_paysOf 113 = .ok (.iload 7, 2) := by decide +kernel
theorem dX6_paysOf_115 : decode cX6_paysOf 115 = .ok (.ifCond .ne 20, 3) := by decide +kernel
theorem dX6_paysOf_118 : decode cX6_paysOf 118 = .ok (.iload 9, 2) := by decide +kernel
theorem dX6_paysOf_120 : decode cX6_paysOf 120 = .ok (.ifCond .eq 19, 3) := by decide +kernel
theorem dX6_paysOf_123 : decode cX6_paysOf 123 = .ok (.iload 8, 2) := by decide +kernel
theorem dX6_paysOf_125 : decode cX6_paysOf 125 = .ok (.aload_n 0, 1) := by decide +kernel
theorem dX6_paysOf_126 : decode cX6_paysOf 126 = .ok (.getfield 7, 3) := by decide +kernel
theorem dX6_paysOf_129 : decode cX6_paysOf 129 = .ok (.bipush 13, 2) := by decide +kernel
theorem dX6_paysOf_131 : decode cX6_paysOf 131 = .ok (.iaload, 1) := by decide +kernel
theorem dX6_paysOf_132 : decode cX6_paysOf 132 = .ok (.if_icmp .ne 7, 3) := by decide +kernel
theorem dX6_paysOf_135 : decode cX6_paysOf 135 = .ok (.iconst 1, 1) := by decide +kernel
theorem dX6_paysOf_136 : decode cX6_paysOf 136 = .ok (.goto 4, 3) := by decide +kernel
