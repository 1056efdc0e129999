theorem dX3_readThing_47 : decode cX3_readThing 47 = .ok (.invokevirtual 34, 3) := by decide +kernel
theorem dX3_readThing_50 : decode cX3_readThing 50 = .ok (.aload_n 0, 1) := by decide +kernel
theorem dX3_readThing_51 : decode cX3_readThing 51 = .ok (.getfield 37, 3) := by decide +kernel
theorem dX3_readThing_54 : decode cX3_readThing 54 = .ok (.iconst 3, 1) := by decide +kernel
theorem dX3_readThing_55 : decode cX3_readThing 55 = .ok (.if_icmp .eq 8, 3) := by decide +kernel
theorem dX3_readThing_58 : decode cX3_readThing 58 = .ok (.aload_n 0, 1) := by decide +kernel
theorem dX3_readThing_59 : decode cX3_readThing 59 = .ok (.invokevirtual 44, 3) := by decide +kernel
theorem dX3_readThing_62 : decode cX3_readThing 62 = .ok (.return_, 1) := by decide +kernel
theorem dX3_readThing_63 : decode cX3_readThing 63 = .ok (.aload_n 1, 1) := by decide +kernel
theorem dX3_readThing_64 : decode cX3_readThing 64 = .ok (.iload_n 2, 1) := by decide +kernel
theorem dX3_readThing_65 : decode cX3_readThing 65 = .ok (.invokevirtual 102, 3) := by decide +kernel
theorem dX3_readThing_68 : decode cX3_readThing 68 = .ok (.return_, 1) := by decide +kernel
theorem dX3_readPeople_0 : decode cX3_readPeople 0 = .ok (.aload_n 0, 1) := by decide +kernel
theorem dX3_readPeople_1 : decode cX3_readPeople 1 = .ok (.getfield 30, 3) := by decide +kernel
theorem dX3_readPeople_4 : decode cX3_readPeople 4 = .ok (.ifCond .eq 7, 3) := by decide +kernel
theorem dX3_readPeople_7 : decode cX3_readPeople 7 = .ok (.aload_n 0, 1) := by decide +kernel
theorem dX3_readPeople_8 : decode cX3_readPeople 8 = .ok (.invokevirtual 44, 3) := by decide +kernel
theorem dX3_readPeople_11 : decode cX3_readPeople 11 = .ok (.aload_n 0, 1) := by decide +kernel
theorem dX3_readPeople_12 : decode cX3_readPeople 12 = .ok (.iconst 1, 1) := by decide +kernel
theorem dX3_readPeople_13 : decode cX3_readPeople 13 = .ok (.iconst 5, 1) := by decide +kernel
theorem dX3_readPeople_14 : decode cX3_readPeople 14 = .ok (.invokevirtual 106, 3) := by decide +kernel
theorem dX3_readPeople_17 : decode cX3_readPeople 17 = .ok (.istore_n 2, 1) := by decide +kernel
theorem dX3_readPeople_18 : decode cX3_readPeople 18 = .ok (.aload_n 0, 1) := by decide +kernel
theorem dX3_readPeople_19 : decode cX3_readPeople 19 = .ok (.invokevirtual 110, 3) := by decide +kernel
theorem dX3_readPeople_22 : decode cX3_readPeople 22 = .ok (.ifCond .eq 8, 3) := by decide +kernel
theorem dX3_readPeople_25 : decode cX3_readPeople 25 = .ok (.aload_n 1, 1) := by decide +kernel
theorem dX3_readPeople_26 : decode cX3_readPeople 26 = .ok (.iload_n 2, 1) := by decide +kernel
theorem dX3_readPeople_27 : decode cX3_readPeople 27 = .ok (.putfield 114, 3) := by decide +kernel
theorem dX3_readPeople_30 : decode cX3_readPeople 30 = .ok (.return_, 1) := by decide +kernel
theorem dX3_readHours_0 : decode cX3_readHours 0 = .ok (.aload_n 0, 1) := by decide +kernel
theorem dX3_readHours_1 : decode cX3_readHours 1 = .ok (.getfield 30, 3) := by decide +kernel
theorem dX3_readHours_4 : decode cX3_readHours 4 = .ok (.ifCond .eq 7, 3) := by decide +kernel
theorem dX3_readHours_7 : decode cX3_readHours 7 = .ok (.aload_n 0, 1) := by decide +kernel
theorem dX3_readHours_8 : decode cX3_readHours 8 = .ok (.invokevirtual 44, 3) := by decide +kernel
theorem dX3_readHours_11 : decode cX3_readHours 11 = .ok (.aload_n 0, 1) := by decide +kernel
theorem dX3_readHours_12 : decode cX3_readHours 12 = .ok (.iconst 1, 1) := by decide +kernel
theorem dX3_readHours_13 : decode cX3_readHours 13 = .ok (.iconst 5, 1) := by decide +kernel
theorem dX3_readHours_14 : decode cX3_readHours 14 = .ok (.invokevirtual 106, 3) := by decide +kernel
theorem dX3_readHours_17 : decode cX3_readHours 17 = .ok (.istore_n 2, 1) := by decide +kernel
theorem dX3_readHours_18 : decode cX3_readHours 18 = .ok (.aload_n 0, 1) := by decide +kernel
theorem dX3_readHours_19 : decode cX3_readHours 19 = .ok (.invokevirtual 110, 3) := by decide +kernel
theorem dX3_readHours_22 : decode cX3_readHours 22 = .ok (.ifCond .eq 8, 3) := by decide +kernel
theorem dX3_readHours_25 : decode cX3_readHours 25 = .ok (.aload_n 1, 1) := by decide +kernel
theorem dX3_readHours_26 : decode cX3_readHours 26 = .ok (.iload_n 2, 1) := by decide +kernel
theorem dX3_readHours_27 : decode cX3_readHours 27 = .ok (.putfield 116, 3) := by decide +kernel
theorem dX3_readHours_30 : decode cX3_readHours 30 = .ok (.return_, 1) := by decide +kernel
theorem dX3_readHour_0 : decode cX3_readHour 0 = .ok (.aload_n 0, 1) := by decide +kernel
theorem dX3_readHour_1 : decode cX3_readHour 1 = .ok (.iconst 1, 1) := by decide +kernel
theorem dX3_readHour_2 : decode cX3_readHour 2 = .ok (.putfield 30, 3) := by decide +kernel
theorem dX3_readHour_5 : decode cX3_readHour 5 = .ok (.aload_n 0, 1) := by decide +kernel
theorem dX3_readHour_6 : decode cX3_readHour 6 = .ok (.iconst 0, 1) := by decide +kernel
theorem dX3_readHour_7 : decode cX3_readHour 7 = .ok (.aload_n 1, 1) := by decide +kernel
theorem dX3_readHour_8 : decode cX3_readHour 8 = .ok (.getfield 116, 3) := by decide +kernel
theorem dX3_readHour_11 : decode cX3_readHour 11 = .ok (.iconst 1, 1) := by decide +kernel
theorem dX3_readHour_12 : decode cX3_readHour 12 = .ok (.isub, 1) := by decide +kernel
theorem dX3_readHour_13 : decode cX3_readHour 13 = .ok (.invokevirtual 106, 3) := by decide +kernel
theorem dX3_readHour_16 : decode cX3_readHour 16 = .ok (.istore_n 2, 1) := by decide +kernel
theorem dX3_readHour_17 : decode cX3_readHour 17 = .ok (.aload_n 0, 1) := by decide +kernel
theorem dX3_readHour_18 : decode cX3_readHour 18 = .ok (.iconst 0, 1) := by decide +kernel
theorem dX3_readHour_19 : decode cX3_readHour 19 = .ok (.iconst 5, 1) := by decide +kernel
theorem dX3_readHour_20 : decode cX3_readHour 20 = .ok (.invokevirtual 106, 3) := by decide +kernel
theorem dX3_readHour_23 : decode cX3_readHour 23 = .ok (.istore_n 3, 1) := by decide +kernel
theorem dX3_readHour_24 : decode cX3_readHour 24 = .ok (.aload_n 0, 1) := by decide +kernel
theorem dX3_readHour_25 : decode cX3_readHour 25 = .ok (.invokevirtual 110, 3) := by decide +kernel
theorem dX3_readHour_28 : decode cX3_readHour 28 = .ok (.ifCond .eq 18, 3) := by decide +kernel
theorem dX3_readHour_31 : decode cX3_readHour 31 = .ok (.aload_n 1, 1) := by decide +kernel
theorem dX3_readHour_32 : decode cX3_readHour 32 = .ok (.iload_n 2, 1) := by decide +kernel
theorem dX3_readHour_33 : decode cX3_readHour 33 = .ok (.invokevirtual 118, 3) := by decide +kernel
theorem dX3_readHour_36 : decode cX3_readHour 36 = .ok (.ifCond .eq 10, 3) := by decide +kernel
theorem dX3_readHour_39 : decode cX3_readHour 39 = .ok (.aload_n 1, 1) := by decide +kernel
theorem dX3_readHour_40 : decode cX3_readHour 40 = .ok (.getfield 121, 3) := by decide +kernel
theorem dX3_readHour_43 : decode cX3_readHour 43 = .ok (.iload_n 2, 1) := by decide +kernel
theorem dX3_readHour_44 : decode cX3_readHour 44 = .ok (.iload_n 3, 1) := by decide +kernel
theorem dX3_readHour_45 : decode cX3_readHour 45 = .ok (.iastore, 1) := by decide +kernel
theorem dX3_readHour_46 : decode cX3_readHour 46 = .ok (.return_, 1) := by decide +kernel
theorem dX3_readLine_0 : decode cX3_readLine 0 = .ok (.aload_n 0, 1) := by decide +kernel
theorem dX3_readLine_1 : decode cX3_readLine 1 = .ok (.iconst 0, 1) := by decide +kernel
theorem dX3_readLine_2 : decode cX3_readLine 2 = .ok (.iconst 4, 1) := by decide +kernel
theorem dX3_readLine_3 : decode cX3_readLine 3 = .ok (.invokevirtual 106, 3) := by decide +kernel
theorem dX3_readLine_6 : decode cX3_readLine 6 = .ok (.istore_n 2, 1) := by decide +kernel
theorem dX3_readLine_7 : decode cX3_readLine 7 = .ok (.aload_n 0, 1) := by decide +kernel
theorem dX3_readLine_8 : decode cX3_readLine 8 = .ok (.invokevirtual 110, 3) := by decide +kernel
theorem dX3_readLine_11 : decode cX3_readLine 11 = .ok (.ifCond .eq 8, 3) := by decide +kernel
theorem dX3_readLine_14 : decode cX3_readLine 14 = .ok (.aload_n 1, 1) := by decide +kernel
theorem dX3_readLine_15 : decode cX3_readLine 15 = .ok (.iload_n 2, 1) := by decide +kernel
theorem dX3_readLine_16 : decode cX3_readLine 16 = .ok (.putfield 125, 3) := by decide +kernel
theorem dX3_readLine_19 : decode cX3_readLine 19 = .ok (.return_, 1) := by decide +kernel
theorem dX3_readRich_0 : decode cX3_readRich 0 = .ok (.aload_n 0, 1) := by decide +kernel
theorem dX3_readRich_1 : decode cX3_readRich 1 = .ok (.iconst 1, 1) := by decide +kernel
theorem dX3_readRich_2 : decode cX3_readRich 2 = .ok (.putfield 30, 3) := by decide +kernel
theorem dX3_readRich_5 : decode cX3_readRich 5 = .ok (.aload_n 0, 1) := by decide +kernel
theorem dX3_readRich_6 : decode cX3_readRich 6 = .ok (.iconst 0, 1) := by decide +kernel
theorem dX3_readRich_7 : decode cX3_readRich 7 = .ok (.aload_n 1, 1) := by decide +kernel
theorem dX3_readRich_8 : decode cX3_readRich 8 = .ok (.getfield 114, 3) := by decide +kernel
theorem dX3_readRich_11 : decode cX3_readRich 11 = .ok (.iconst 1, 1) := by decide +kernel
theorem dX3_readRich_12 : decode cX3_readRich 12 = .ok (.isub, 1) := by decide +kernel
theorem dX3_readRich_13 : decode cX3_readRich 13 = .ok (.invokevirtual 106, 3) := by decide +kernel
theorem dX3_readRich_16 : decode cX3_readRich 16 = .ok (.istore_n 2, 1) := by decide +kernel
theorem dX3_readRich_17 : decode cX3_readRich 17 = .ok (.aload_n 0, 1) := by decide +kernel
theorem dX3_readRich_18 : decode cX3_readRich 18 = .ok (.invokevirtual 110, 3) := by decide +kernel
theorem dX3_readRich_21 : decode cX3_readRich 21 = .ok (.ifCond .eq 8, 3) := by decide +kernel
theorem dX3_readRich_24 : decode cX3_readRich 24 = .ok (.aload_n 1, 1) := by decide +kernel
theorem dX3_readRich_25 : decode cX3_readRich 25 = .ok (.iload_n 2, 1) := by decide +kernel
theorem dX3_readRich_26 : decode cX3_readRich 26 = .ok (.putfield 127, 3) := by decide +kernel
theorem dX3_readRich_29 : decode cX3_readRich 29 = .ok (.return_, 1) := by decide +kernel
theorem dX3_readDoes_0 : decode cX3_readDoes 0 = .ok (.aload_n 0, 1) := by decide +kernel
theorem dX3_readDoes_1 : decode cX3_readDoes 1 = .ok (.iconst 1, 1) := by decide +kernel
theorem dX3_readDoes_2 : decode cX3_readDoes 2 = .ok (.putfield 30, 3) := by decide +kernel
theorem dX3_readDoes_5 : decode cX3_readDoes 5 = .ok (.aload_n 0, 1) := by decide +kernel
theorem dX3_readDoes_6 : decode cX3_readDoes 6 = .ok (.iconst 0, 1) := by decide +kernel
theorem dX3_readDoes_7 : decode cX3_readDoes 7 = .ok (.aload_n 1, 1) := by decide +kernel
theorem dX3_readDoes_8 : decode cX3_readDoes 8 = .ok (.getfield 114, 3) := by decide +kernel
theorem dX3_readDoes_11 : decode cX3_readDoes 11 = .ok (.iconst 1, 1) := by decide +kernel
theorem dX3_readDoes_12 : decode cX3_readDoes 12 = .ok (.isub, 1) := by decide +kernel
theorem dX3_readDoes_13 : decode cX3_readDoes 13 = .ok (.invokevirtual 106, 3) := by decide +kernel
theorem dX3_readDoes_16 : decode cX3_readDoes 16 = .ok (.istore_n 2, 1) := by decide +kernel
theorem dX3_readDoes_17 : decode cX3_readDoes 17 = .ok (.aload_n 0, 1) := by decide +kernel
theorem dX3_readDoes_18 : decode cX3_readDoes 18 = .ok (.iconst 0, 1) := by decide +kernel
theorem dX3_readDoes_19 : decode cX3_readDoes 19 = .ok (.aload_n 1, 1) := by decide +kernel
theorem dX3_readDoes_20 : decode cX3_readDoes 20 = .ok (.getfield 116, 3) := by decide +kernel
theorem dX3_readDoes_23 : decode cX3_readDoes 23 = .ok (.iconst 1, 1) := by decide +kernel
theorem dX3_readDoes_24 : decode cX3_readDoes 24 = .ok (.isub, 1) := by decide +kernel
theorem dX3_readDoes_25 : decode cX3_readDoes 25 = .ok (.invokevirtual 106, 3) := by decide +kernel
theorem dX3_readDoes_28 : decode cX3_readDoes 28 = .ok (.istore_n 3, 1) := by decide +kernel
theorem dX3_readDoes_29 : decode cX3_readDoes 29 = .ok (.aload_n 0, 1) := by decide +kernel
theorem dX3_readDoes_30 : decode cX3_readDoes 30 = .ok (.iconst 0, 1) := by decide +kernel
theorem dX3_readDoes_31 : decode cX3_readDoes 31 = .ok (.aload_n 1, 1) := by decide +kernel
theorem dX3_readDoes_32 : decode cX3_readDoes 32 = .ok (.getfield 91, 3) := by decide +kernel
theorem dX3_readDoes_35 : decode cX3_readDoes 35 = .ok (.iconst 1, 1) := by decide +kernel
theorem dX3_readDoes_36 : decode cX3_readDoes 36 = .ok (.isub, 1) := by decide +kernel
theorem dX3_readDoes_37 : decode cX3_readDoes 37 = .ok (.invokevirtual 106, 3) := by decide +kernel
theorem dX3_readDoes_40 : decode cX3_readDoes 40 = .ok (.istore 4, 2) := by decide +kernel
theorem dX3_readDoes_42 : decode cX3_readDoes 42 = .ok (.aload_n 0, 1) := by decide +kernel
theorem dX3_readDoes_43 : decode cX3_readDoes 43 = .ok (.invokevirtual 110, 3) := by decide +kernel
theorem dX3_readDoes_46 : decode cX3_readDoes 46 = .ok (.ifCond .eq 29, 3) := by decide +kernel
theorem dX3_readDoes_49 : decode cX3_readDoes 49 = .ok (.aload_n 1, 1) := by decide +kernel
theorem dX3_readDoes_50 : decode cX3_readDoes 50 = .ok (.iload_n 3, 1) := by decide +kernel
theorem dX3_readDoes_51 : decode cX3_readDoes 51 = .ok (.invokevirtual 118, 3) := by decide +kernel
theorem dX3_readDoes_54 : decode cX3_readDoes 54 = .ok (.ifCond .eq 21, 3) := by decide +kernel
theorem dX3_readDoes_57 : decode cX3_readDoes 57 = .ok (.aload_n 1, 1) := by decide +kernel
theorem dX3_readDoes_58 : decode cX3_readDoes 58 = .ok (.iload_n 2, 1) := by decide +kernel
theorem dX3_readDoes_59 : decode cX3_readDoes 59 = .ok (.invokevirtual 129, 3) := by decide +kernel
theorem dX3_readDoes_62 : decode cX3_readDoes 62 = .ok (.ifCond .eq 13, 3) := by decide +kernel
theorem dX3_readDoes_65 : decode cX3_readDoes 65 = .ok (.aload_n 1, 1) := by decide +kernel
theorem dX3_readDoes_66 : decode cX3_readDoes 66 = .ok (.getfield 132, 3) := by decide +kernel
theorem dX3_readDoes_69 : decode cX3_readDoes 69 = .ok (.iload_n 3, 1) := by decide +kernel
theorem dX3_readDoes_70 : decode cX3_readDoes 70 = .ok (.aaload, 1) := by decide +kernel
theorem dX3_readDoes_71 : decode cX3_readDoes 71 = .ok (.iload_n 2, 1) := by decide +kernel
theorem dX3_readDoes_72 : decode cX3_readDoes 72 = .ok (.iload 4, 2) := by decide +kernel
theorem dX3_readDoes_74 : decode cX3_readDoes 74 = .ok (.iastore, 1) := by decide +kernel
theorem dX3_readDoes_75 : decode cX3_readDoes 75 = .ok (.return_, 1) := by decide +kernel
theorem dX3_readNeed_0 : decode cX3_readNeed 0 = .ok (.aload_n 0, 1) := by decide +kernel
theorem dX3_readNeed_1 : decode cX3_readNeed 1 = .ok (.iconst 1, 1) := by decide +kernel
theorem dX3_readNeed_2 : decode cX3_readNeed 2 = .ok (.putfield 30, 3) := by decide +kernel
theorem dX3_readNeed_5 : decode cX3_readNeed 5 = .ok (.aload_n 0, 1) := by decide +kernel
theorem dX3_readNeed_6 : decode cX3_readNeed 6 = .ok (.iconst 0, 1) := by decide +kernel
theorem dX3_readNeed_7 : decode cX3_readNeed 7 = .ok (.aload_n 1, 1) := by decide +kernel
theorem dX3_readNeed_8 : decode cX3_readNeed 8 = .ok (.getfield 114, 3) := by decide +kernel
theorem dX3_readNeed_11 : decode cX3_readNeed 11 = .ok (.iconst 1, 1) := by decide +kernel
theorem dX3_readNeed_12 : decode cX3_readNeed 12 = .ok (.isub, 1) := by decide +kernel
theorem dX3_readNeed_13 : decode cX3_readNeed 13 = .ok (.invokevirtual 106, 3) := by decide +kernel
theorem dX3_readNeed_16 : decode cX3_readNeed 16 = .ok (.istore_n 2, 1) := by decide +kernel
theorem dX3_readNeed_17 : decode cX3_readNeed 17 = .ok (.aload_n 0, 1) := by decide +kernel
theorem dX3_readNeed_18 : decode cX3_readNeed 18 = .ok (.iconst 0, 1) := by decide +kernel
theorem dX3_readNeed_19 : decode cX3_readNeed 19 = .ok (.aload_n 1, 1) := by decide +kernel
theorem dX3_readNeed_20 : decode cX3_readNeed 20 = .ok (.getfield 91, 3) := by decide +kernel
theorem dX3_readNeed_23 : decode cX3_readNeed 23 = .ok (.iconst 1, 1) := by decide +kernel
theorem dX3_readNeed_24 : decode cX3_readNeed 24 = .ok (.isub, 1) := by decide +kernel
theorem dX3_readNeed_25 : decode cX3_readNeed 25 = .ok (.invokevirtual 106, 3) := by decide +kernel
theorem dX3_readNeed_28 : decode cX3_readNeed 28 = .ok (.istore_n 3, 1) := by decide +kernel
theorem dX3_readNeed_29 : decode cX3_readNeed 29 = .ok (.aload_n 1, 1) := by decide +kernel
theorem dX3_readNeed_30 : decode cX3_readNeed 30 = .ok (.iload_n 2, 1) := by decide +kernel
theorem dX3_readNeed_31 : decode cX3_readNeed 31 = .ok (.invokevirtual 129, 3) := by decide +kernel
theorem dX3_readNeed_34 : decode cX3_readNeed 34 = .ok (.ifCond .eq 11, 3) := by decide +kernel
theorem dX3_readNeed_37 : decode cX3_readNeed 37 = .ok (.aload_n 1, 1) := by decide +kernel
theorem dX3_readNeed_38 : decode cX3_readNeed 38 = .ok (.iload_n 3, 1) := by decide +kernel
theorem dX3_readNeed_39 : decode cX3_readNeed 39 = .ok (.invokevirtual 98, 3) := by decide +kernel
theorem dX3_readNeed_42 : decode cX3_readNeed 42 = .ok (.ifCond .ne 4, 3) := by decide +kernel
theorem dX3_readNeed_45 : decode cX3_readNeed 45 = .ok (.return_, 1) := by decide +kernel
theorem dX3_readNeed_46 : decode cX3_readNeed 46 = .ok (.aload_n 0, 1) := by decide +kernel
theorem dX3_readNeed_47 : decode cX3_readNeed 47 = .ok (.iconst 0, 1) := by decide +kernel
theorem dX3_readNeed_48 : decode cX3_readNeed 48 = .ok (.aload_n 1, 1) := by decide +kernel
theorem dX3_readNeed_49 : decode cX3_readNeed 49 = .ok (.iload_n 2, 1) := by decide +kernel
theorem dX3_readNeed_50 : decode cX3_readNeed 50 = .ok (.iload_n 3, 1) := by decide +kernel
theorem dX3_readNeed_51 : decode cX3_readNeed 51 = .ok (.invokevirtual 136, 3) := by decide +kernel
theorem dX3_readNeed_54 : decode cX3_readNeed 54 = .ok (.invokevirtual 106, 3) := by decide +kernel
theorem dX3_readNeed_57 : decode cX3_readNeed 57 = .ok (.istore 4, 2) := by decide +kernel
theorem dX3_readNeed_59 : decode cX3_readNeed 59 = .ok (.aload_n 0, 1) := by decide +kernel
theorem dX3_readNeed_60 : decode cX3_readNeed 60 = .ok (.invokevirtual 110, 3) := by decide +kernel
theorem dX3_readNeed_63 : decode cX3_readNeed 63 = .ok (.ifCond .eq 13, 3) := by decide +kernel
theorem dX3_readNeed_66 : decode cX3_readNeed 66 = .ok (.aload_n 1, 1) := by decide +kernel
theorem dX3_readNeed_67 : decode cX3_readNeed 67 = .ok (.getfield 139, 3) := by decide +kernel
theorem dX3_readNeed_70 : decode cX3_readNeed 70 = .ok (.iload_n 2, 1) := by decide +kernel
theorem dX3_readNeed_71 : decode cX3_readNeed 71 = .ok (.aaload, 1) := by decide +kernel
theorem dX3_readNeed_72 : decode cX3_readNeed 72 = .ok (.iload_n 3, 1) := by decide +kernel
theorem dX3_readNeed_73 : decode cX3_readNeed 73 = .ok (.iload 4, 2) := by decide +kernel
theorem dX3_readNeed_75 : decode cX3_readNeed 75 = .ok (.iastore, 1) := by decide +kernel
theorem dX3_readNeed_76 : decode cX3_readNeed 76 = .ok (.return_, 1) := by decide +kernel
theorem dX3_fail_0 : decode cX3_fail 0 = .ok (.aload_n 0, 1) := by decide +kernel
theorem dX3_fail_1 : decode cX3_fail 1 = .ok (.getfield 27, 3) := by decide +kernel
theorem dX3_fail_4 : decode cX3_fail 4 = .ok (.iconst (-1), 1) := by decide +kernel
theorem dX3_fail_5 : decode cX3_fail 5 = .ok (.if_icmp .ne 11, 3) := by decide +kernel
theorem dX3_fail_8 : decode cX3_fail 8 = .ok (.aload_n 0, 1) := by decide +kernel
theorem dX3_fail_9 : decode cX3_fail 9 = .ok (.aload_n 0, 1) := by decide +kernel
theorem dX3_fail_10 : decode cX3_fail 10 = .ok (.getfield 142, 3) := by decide +kernel
theorem dX3_fail_13 : decode cX3_fail 13 = .ok (.putfield 27, 3) := by decide +kernel
theorem dX3_fail_16 : decode cX3_fail 16 = .ok (.return_, 1) := by decide +kernel
theorem dX3_number_0 : decode cX3_number 0 = .ok (.aload_n 0, 1) := by decide +kernel
theorem dX3_number_1 : decode cX3_number 1 = .ok (.getfield 27, 3) := by decide +kernel
theorem dX3_number_4 : decode cX3_number 4 = .ok (.iconst (-1), 1) := by decide +kernel
theorem dX3_number_5 : decode cX3_number 5 = .ok (.if_icmp .eq 5, 3) := by decide +kernel
theorem dX3_number_8 : decode cX3_number 8 = .ok (.iconst (-1), 1) := by decide +kernel
theorem dX3_number_9 : decode cX3_number 9 = .ok (.ireturn, 1) := by decide +kernel
theorem dX3_number_10 : decode cX3_number 10 = .ok (.aload_n 0, 1) := by decide +kernel
theorem dX3_number_11 : decode cX3_number 11 = .ok (.invokevirtual 34, 3) := by decide +kernel
theorem dX3_number_14 : decode cX3_number 14 = .ok (.aload_n 0, 1) := by decide +kernel
theorem dX3_number_15 : decode cX3_number 15 = .ok (.getfield 37, 3) := by decide +kernel
theorem dX3_number_18 : decode cX3_number 18 = .ok (.iconst 2, 1) := by decide +kernel
theorem dX3_number_19 : decode cX3_number 19 = .ok (.if_icmp .ne 15, 3) := by decide +kernel
theorem dX3_number_22 : decode cX3_number 22 = .ok (.aload_n 0, 1) := by decide +kernel
theorem dX3_number_23 : decode cX3_number 23 = .ok (.invokevirtual 94, 3) := by decide +kernel
theorem dX3_number_26 : decode cX3_number 26 = .ok (.iload_n 1, 1) := by decide +kernel
theorem dX3_number_27 : decode cX3_number 27 = .ok (.iload_n 2, 1) := by decide +kernel
theorem dX3_number_28 : decode cX3_number 28 = .ok (.invokestatic 145, 3) := by decide +kernel
theorem dX3_number_31 : decode cX3_number 31 = .ok (.ifCond .ne 9, 3) := by decide +kernel
theorem dX3_number_34 : decode cX3_number 34 = .ok (.aload_n 0, 1) := by decide +kernel
theorem dX3_number_35 : decode cX3_number 35 = .ok (.invokevirtual 44, 3) := by decide +kernel
theorem dX3_number_38 : decode cX3_number 38 = .ok (.iconst (-1), 1) := by decide +kernel
theorem dX3_number_39 : decode cX3_number 39 = .ok (.ireturn, 1) := by decide +kernel
theorem dX3_number_40 : decode cX3_number 40 = .ok (.aload_n 0, 1) := by decide +kernel
theorem dX3_number_41 : decode cX3_number 41 = .ok (.invokevirtual 94, 3) := by decide +kernel
theorem dX3_number_44 : decode cX3_number 44 = .ok (.ireturn, 1) := by decide +kernel
theorem dX3_stops_0 : decode cX3_stops 0 = .ok (.aload_n 0, 1) := by decide +kernel
theorem dX3_stops_1 : decode cX3_stops 1 = .ok (.getfield 27, 3) := by decide +kernel
theorem dX3_stops_4 : decode cX3_stops 4 = .ok (.iconst (-1), 1) := by decide +kernel
theorem dX3_stops_5 : decode cX3_stops 5 = .ok (.if_icmp .ne 19, 3) := by decide +kernel
theorem dX3_stops_8 : decode cX3_stops 8 = .ok (.aload_n 0, 1) := by decide +kernel
theorem dX3_stops_9 : decode cX3_stops 9 = .ok (.invokevirtual 34, 3) := by decide +kernel
theorem dX3_stops_12 : decode cX3_stops 12 = .ok (.aload_n 0, 1) := by decide +kernel
theorem dX3_stops_13 : decode cX3_stops 13 = .ok (.getfield 37, 3) := by decide +kernel
theorem dX3_stops_16 : decode cX3_stops 16 = .ok (.iconst 3, 1) := by decide +kernel
theorem dX3_stops_17 : decode cX3_stops 17 = .ok (.if_icmp .eq 7, 3) := by decide +kernel
theorem dX3_stops_20 : decode cX3_stops 20 = .ok (.aload_n 0, 1) := by decide +kernel
theorem dX3_stops_21 : decode cX3_stops 21 = .ok (.invokevirtual 44, 3) := by decide +kernel
theorem dX3_stops_24 : decode cX3_stops 24 = .ok (.aload_n 0, 1) := by decide +kernel
theorem dX3_stops_25 : decode cX3_stops 25 = .ok (.getfield 27, 3) := by decide +kernel
theorem dX3_stops_28 : decode cX3_stops 28 = .ok (.iconst (-1), 1) := by decide +kernel
theorem dX3_stops_29 : decode cX3_stops 29 = .ok (.if_icmp .ne 7, 3) := by decide +kernel
theorem dX3_stops_32 : decode cX3_stops 32 = .ok (.iconst 1, 1) := by decide +kernel
theorem dX3_stops_33 : decode cX3_stops 33 = .ok (.goto 4, 3) := by decide +kernel
theorem dX3_stops_36 : decode cX3_stops 36 = .ok (.iconst 0, 1) := by decide +kernel
theorem dX3_stops_37 : decode cX3_stops 37 = .ok (.ireturn, 1) := by decide +kernel
theorem dX3_nextToken_0 : decode cX3_nextToken 0 = .ok (.aload_n 0, 1) := by decide +kernel
theorem dX3_nextToken_1 : decode cX3_nextToken 1 = .ok (.getfield 24, 3) := by decide +kernel
theorem dX3_nextToken_4 : decode cX3_nextToken 4 = .ok (.aload_n 0, 1) := by decide +kernel
theorem dX3_nextToken_5 : decode cX3_nextToken 5 = .ok (.getfield 15, 3) := by decide +kernel
theorem dX3_nextToken_8 : decode cX3_nextToken 8 = .ok (.if_icmp .ge 30, 3) := by decide +kernel
theorem dX3_nextToken_11 : decode cX3_nextToken 11 = .ok (.aload_n 0, 1) := by decide +kernel
theorem dX3_nextToken_12 : decode cX3_nextToken 12 = .ok (.getfield 9, 3) := by decide +kernel
theorem dX3_nextToken_15 : decode cX3_nextToken 15 = .ok (.aload_n 0, 1) := by decide +kernel
theorem dX3_nextToken_16 : decode cX3_nextToken 16 = .ok (.getfield 24, 3) := by decide +kernel
theorem dX3_nextToken_19 : decode cX3_nextToken 19 = .ok (.baload, 1) := by decide +kernel
theorem dX3_nextToken_20 : decode cX3_nextToken 20 = .ok (.bipush 32, 2) := by decide +kernel
theorem dX3_nextToken_22 : decode cX3_nextToken 22 = .ok (.if_icmp .ne 16, 3) := by decide +kernel
theorem dX3_nextToken_25 : decode cX3_nextToken 25 = .ok (.aload_n 0, 1) := by decide +kernel
theorem dX3_nextToken_26 : decode cX3_nextToken 26 = .ok (.dup, 1) := by decide +kernel
theorem dX3_nextToken_27 : decode cX3_nextToken 27 = .ok (.getfield 24, 3) := by decide +kernel
theorem dX3_nextToken_30 : decode cX3_nextToken 30 = .ok (.iconst 1, 1) := by decide +kernel
theorem dX3_nextToken_31 : decode cX3_nextToken 31 = .ok (.iadd, 1) := by decide +kernel
theorem dX3_nextToken_32 : decode cX3_nextToken 32 = .ok (.putfield 24, 3) := by decide +kernel
theorem dX3_nextToken_35 : decode cX3_nextToken 35 = .ok (.goto (-35), 3) := by decide +kernel
theorem dX3_nextToken_38 : decode cX3_nextToken 38 = .ok (.aload_n 0, 1) := by decide +kernel
theorem dX3_nextToken_39 : decode cX3_nextToken 39 = .ok (.aload_n 0, 1) := by decide +kernel
theorem dX3_nextToken_40 : decode cX3_nextToken 40 = .ok (.getfield 24, 3) := by decide +kernel
theorem dX3_nextToken_43 : decode cX3_nextToken 43 = .ok (.putfield 142, 3) := by decide +kernel
theorem dX3_nextToken_46 : decode cX3_nextToken 46 = .ok (.aload_n 0, 1) := by decide +kernel
theorem dX3_nextToken_47 : decode cX3_nextToken 47 = .ok (.getfield 24, 3) := by decide +kernel
theorem dX3_nextToken_50 : decode cX3_nextToken 50 = .ok (.aload_n 0, 1) := by decide +kernel
theorem dX3_nextToken_51 : decode cX3_nextToken 51 = .ok (.getfield 15, 3) := by decide +kernel
theorem dX3_nextToken_54 : decode cX3_nextToken 54 = .ok (.if_icmp .lt 9, 3) := by decide +kernel
theorem dX3_nextToken_57 : decode cX3_nextToken 57 = .ok (.aload_n 0, 1) := by decide +kernel
theorem dX3_nextToken_58 : decode cX3_nextToken 58 = .ok (.iconst 0, 1) := by decide +kernel
theorem dX3_nextToken_59 : decode cX3_nextToken 59 = .ok (.putfield 37, 3) := by decide +kernel
theorem dX3_nextToken_62 : decode cX3_nextToken 62 = .ok (.return_, 1) := by decide +kernel
theorem dX3_nextToken_63 : decode cX3_nextToken 63 = .ok (.aload_n 0, 1) := by decide +kernel
theorem dX3_nextToken_64 : decode cX3_nextToken 64 = .ok (.getfield 9, 3) := by decide +kernel
theorem dX3_nextToken_67 : decode cX3_nextToken 67 = .ok (.aload_n 0, 1) := by decide +kernel
theorem dX3_nextToken_68 : decode cX3_nextToken 68 = .ok (.getfield 24, 3) := by decide +kernel
theorem dX3_nextToken_71 : decode cX3_nextToken 71 = .ok (.baload, 1) := by decide +kernel
theorem dX3_nextToken_72 : decode cX3_nextToken 72 = .ok (.istore_n 1, 1) := by decide +kernel
theorem dX3_nextToken_73 : decode cX3_nextToken 73 = .ok (.aload_n 0, 1) := by decide +kernel
theorem dX3_nextToken_74 : decode cX3_nextToken 74 = .ok (.dup, 1) := by decide +kernel
theorem dX3_nextToken_75 : decode cX3_nextToken 75 = .ok (.getfield 24, 3) := by decide +kernel
theorem dX3_nextToken_78 : decode cX3_nextToken 78 = .ok (.iconst 1, 1) := by decide +kernel
theorem dX3_nextToken_79 : decode cX3_nextToken 79 = .ok (.iadd, 1) := by decide +kernel
theorem dX3_nextToken_80 : decode cX3_nextToken 80 = .ok (.putfield 24, 3) := by decide +kernel
theorem dX3_nextToken_83 : decode cX3_nextToken 83 = .ok (.iload_n 1, 1) := by decide +kernel
theorem dX3_nextToken_84 : decode cX3_nextToken 84 = .ok (.invokestatic 149, 3) := by decide +kernel
theorem dX3_nextToken_87 : decode cX3_nextToken 87 = .ok (.ifCond .eq 47, 3) := by decide +kernel
theorem dX3_nextToken_90 : decode cX3_nextToken 90 = .ok (.aload_n 0, 1) := by decide +kernel
theorem dX3_nextToken_91 : decode cX3_nextToken 91 = .ok (.iconst 1, 1) := by decide +kernel
theorem dX3_nextToken_92 : decode cX3_nextToken 92 = .ok (.putfield 37, 3) := by decide +kernel
theorem dX3_nextToken_95 : decode cX3_nextToken 95 = .ok (.aload_n 0, 1) := by decide +kernel
theorem dX3_nextToken_96 : decode cX3_nextToken 96 = .ok (.getfield 24, 3) := by decide +kernel
theorem dX3_nextToken_99 : decode cX3_nextToken 99 = .ok (.aload_n 0, 1) := by decide +kernel
theorem dX3_nextToken_100 : decode cX3_nextToken 100 = .ok (.getfield 15, 3) := by decide +kernel
theorem dX3_nextToken_103 : decode cX3_nextToken 103 = .ok (.if_icmp .ge 117, 3) := by decide +kernel
theorem dX3_nextToken_106 : decode cX3_nextToken 106 = .ok (.aload_n 0, 1) := by decide +kernel
theorem dX3_nextToken_107 : decode cX3_nextToken 107 = .ok (.getfield 9, 3) := by decide +kernel
theorem dX3_nextToken_110 : decode cX3_nextToken 110 = .ok (.aload_n 0, 1) := by decide +kernel
theorem dX3_nextToken_111 : decode cX3_nextToken 111 = .ok (.getfield 24, 3) := by decide +kernel
theorem dX3_nextToken_114 : decode cX3_nextToken 114 = .ok (.baload, 1) := by decide +kernel
theorem dX3_nextToken_115 : decode cX3_nextToken 115 = .ok (.invokestatic 149, 3) := by decide +kernel
theorem dX3_nextToken_118 : decode cX3_nextToken 118 = .ok (.ifCond .eq 102, 3) := by decide +kernel
theorem dX3_nextToken_121 : decode cX3_nextToken 121 = .ok (.aload_n 0, 1) := by decide +kernel
theorem dX3_nextToken_122 : decode cX3_nextToken 122 = .ok (.dup, 1) := by decide +kernel
theorem dX3_nextToken_123 : decode cX3_nextToken 123 = .ok (.getfield 24, 3) := by decide +kernel
theorem dX3_nextToken_126 : decode cX3_nextToken 126 = .ok (.iconst 1, 1) := by decide +kernel
theorem dX3_nextToken_127 : decode cX3_nextToken 127 = .ok (.iadd, 1) := by decide +kernel
theorem dX3_nextToken_128 : decode cX3_nextToken 128 = .ok (.putfield 24, 3) := by decide +kernel
theorem dX3_nextToken_131 : decode cX3_nextToken 131 = .ok (.goto (-36), 3) := by decide +kernel
theorem dX3_nextToken_134 : decode cX3_nextToken 134 = .ok (.iload_n 1, 1) := by decide +kernel
theorem dX3_nextToken_135 : decode cX3_nextToken 135 = .ok (.invokestatic 153, 3) := by decide +kernel
theorem dX3_nextToken_138 : decode cX3_nextToken 138 = .ok (.ifCond .eq 67, 3) := by decide +kernel
theorem dX3_nextToken_141 : decode cX3_nextToken 141 = .ok (.aload_n 0, 1) := by decide +kernel
theorem dX3_nextToken_142 : decode cX3_nextToken 142 = .ok (.getfield 24, 3) := by decide +kernel
theorem dX3_nextToken_145 : decode cX3_nextToken 145 = .ok (.aload_n 0, 1) := by decide +kernel
theorem dX3_nextToken_146 : decode cX3_nextToken 146 = .ok (.getfield 15, 3) := by decide +kernel
theorem dX3_nextToken_149 : decode cX3_nextToken 149 = .ok (.if_icmp .ge 31, 3) := by decide +kernel
theorem dX3_nextToken_152 : decode cX3_nextToken 152 = .ok (.aload_n 0, 1) := by decide +kernel
theorem dX3_nextToken_153 : decode cX3_nextToken 153 = .ok (.getfield 9, 3) := by decide +kernel
theorem dX3_nextToken_156 : decode cX3_nextToken 156 = .ok (.aload_n 0, 1) := by decide +kernel
theorem dX3_nextToken_157 : decode cX3_nextToken 157 = .ok (.getfield 24, 3) := by decide +kernel
theorem dX3_nextToken_160 : decode cX3_nextToken 160 = .ok (.baload, 1) := by decide +kernel
theorem dX3_nextToken_161 : decode cX3_nextToken 161 = .ok (.invokestatic 153, 3) := by decide +kernel
theorem dX3_nextToken_164 : decode cX3_nextToken 164 = .ok (.ifCond .eq 16, 3) := by decide +kernel
theorem dX3_nextToken_167 : decode cX3_nextToken 167 = .ok (.aload_n 0, 1) := by decide +kernel
theorem dX3_nextToken_168 : decode cX3_nextToken 168 = .ok (.dup, 1) := by decide +kernel
theorem dX3_nextToken_169 : decode cX3_nextToken 169 = .ok (.getfield 24, 3) := by decide +kernel
theorem dX3_nextToken_172 : decode cX3_nextToken 172 = .ok (.iconst 1, 1) := by decide +kernel
theorem dX3_nextToken_173 : decode cX3_nextToken 173 = .ok (.iadd, 1) := by decide +kernel
theorem dX3_nextToken_174 : decode cX3_nextToken 174 = .ok (.putfield 24, 3) := by decide +kernel
theorem dX3_nextToken_177 : decode cX3_nextToken 177 = .ok (.goto (-36), 3) := by decide +kernel
theorem dX3_nextToken_180 : decode cX3_nextToken 180 = .ok (.aload_n 0, 1) := by decide +kernel
theorem dX3_nextToken_181 : decode cX3_nextToken 181 = .ok (.aload_n 0, 1) := by decide +kernel
theorem dX3_nextToken_182 : decode cX3_nextToken 182 = .ok (.getfield 24, 3) := by decide +kernel
theorem dX3_nextToken_185 : decode cX3_nextToken 185 = .ok (.aload_n 0, 1) := by decide +kernel
theorem dX3_nextToken_186 : decode cX3_nextToken 186 = .ok (.getfield 142, 3) := by decide +kernel
theorem dX3_nextToken_189 : decode cX3_nextToken 189 = .ok (.iconst 1, 1) := by decide +kernel
theorem dX3_nextToken_190 : decode cX3_nextToken 190 = .ok (.iadd, 1) := by decide +kernel
theorem dX3_nextToken_191 : decode cX3_nextToken 191 = .ok (.if_icmp .ne 7, 3) := by decide +kernel
theorem dX3_nextToken_194 : decode cX3_nextToken 194 = .ok (.iconst 2, 1) := by decide +kernel
theorem dX3_nextToken_195 : decode cX3_nextToken 195 = .ok (.goto 4, 3) := by decide +kernel
theorem dX3_nextToken_198 : decode cX3_nextToken 198 = .ok (.iconst 4, 1) := by decide +kernel
theorem dX3_nextToken_199 : decode cX3_nextToken 199 = .ok (.putfield 37, 3) := by decide +kernel
theorem dX3_nextToken_202 : decode cX3_nextToken 202 = .ok (.goto 18, 3) := by decide +kernel
theorem dX3_nextToken_205 : decode cX3_nextToken 205 = .ok (.aload_n 0, 1) := by decide +kernel
theorem dX3_nextToken_206 : decode cX3_nextToken 206 = .ok (.iload_n 1, 1) := by decide +kernel
theorem dX3_nextToken_207 : decode cX3_nextToken 207 = .ok (.bipush 59, 2) := by decide +kernel
theorem dX3_nextToken_209 : decode cX3_nextToken 209 = .ok (.if_icmp .ne 7, 3) := by decide +kernel
theorem dX3_nextToken_212 : decode cX3_nextToken 212 = .ok (.iconst 3, 1) := by decide +kernel
theorem dX3_nextToken_213 : decode cX3_nextToken 213 = .ok (.goto 4, 3) := by decide +kernel
theorem dX3_nextToken_216 : decode cX3_nextToken 216 = .ok (.iconst 4, 1) := by decide +kernel
theorem dX3_nextToken_217 : decode cX3_nextToken 217 = .ok (.putfield 37, 3) := by decide +kernel
theorem dX3_nextToken_220 : decode cX3_nextToken 220 = .ok (.return_, 1) := by decide +kernel
theorem dX3_figure_0 : decode cX3_figure 0 = .ok (.aload_n 0, 1) := by decide +kernel
theorem dX3_figure_1 : decode cX3_figure 1 = .ok (.getfield 142, 3) := by decide +kernel
theorem dX3_figure_4 : decode cX3_figure 4 = .ok (.aload_n 0, 1) := by decide +kernel
theorem dX3_figure_5 : decode cX3_figure 5 = .ok (.getfield 15, 3) := by decide +kernel
theorem dX3_figure_8 : decode cX3_figure 8 = .ok (.if_icmp .ge 18, 3) := by decide +kernel
theorem dX3_figure_11 : decode cX3_figure 11 = .ok (.aload_n 0, 1) := by decide +kernel
theorem dX3_figure_12 : decode cX3_figure 12 = .ok (.getfield 9, 3) := by decide +kernel
theorem dX3_figure_15 : decode cX3_figure 15 = .ok (.aload_n 0, 1) := by decide +kernel
theorem dX3_figure_16 : decode cX3_figure 16 = .ok (.getfield 142, 3) := by decide +kernel
theorem dX3_figure_19 : decode cX3_figure 19 = .ok (.baload, 1) := by decide +kernel
theorem dX3_figure_20 : decode cX3_figure 20 = .ok (.bipush 48, 2) := by decide +kernel
theorem dX3_figure_22 : decode cX3_figure 22 = .ok (.isub, 1) := by decide +kernel
theorem dX3_figure_23 : decode cX3_figure 23 = .ok (.goto 4, 3) := by decide +kernel
theorem dX3_figure_26 : decode cX3_figure 26 = .ok (.iconst (-1), 1) := by decide +kernel
theorem dX3_figure_27 : decode cX3_figure 27 = .ok (.ireturn, 1) := by decide +kernel
theorem dX3_spells_0 : decode cX3_spells 0 = .ok (.aload_n 1, 1) := by decide +kernel
theorem dX3_spells_1 : decode cX3_spells 1 = .ok (.invokevirtual 156, 3) := by decide +kernel
theorem dX3_spells_4 : decode cX3_spells 4 = .ok (.aload_n 0, 1) := by decide +kernel
theorem dX3_spells_5 : decode cX3_spells 5 = .ok (.getfield 24, 3) := by decide +kernel
theorem dX3_spells_8 : decode cX3_spells 8 = .ok (.aload_n 0, 1) := by decide +kernel
theorem dX3_spells_9 : decode cX3_spells 9 = .ok (.getfield 142, 3) := by decide +kernel
theorem dX3_spells_12 : decode cX3_spells 12 = .ok (.isub, 1) := by decide +kernel
theorem dX3_spells_13 : decode cX3_spells 13 = .ok (.if_icmp .eq 5, 3) := by decide +kernel
theorem dX3_spells_16 : decode cX3_spells 16 = .ok (.iconst 0, 1) := by decide +kernel
theorem dX3_spells_17 : decode cX3_spells 17 = .ok (.ireturn, 1) := by decide +kernel
theorem dX3_spells_18 : decode cX3_spells 18 = .ok (.iconst 0, 1) := by decide +kernel
theorem dX3_spells_19 : decode cX3_spells 19 = .ok (.istore_n 2, 1) := by decide +kernel
theorem dX3_spells_20 : decode cX3_spells 20 = .ok (.iload_n 2, 1) := by decide +kernel
theorem dX3_spells_21 : decode cX3_spells 21 = .ok (.aload_n 1, 1) := by decide +kernel
theorem dX3_spells_22 : decode cX3_spells 22 = .ok (.invokevirtual 156, 3) := by decide +kernel
theorem dX3_spells_25 : decode cX3_spells 25 = .ok (.if_icmp .ge 30, 3) := by decide +kernel
theorem dX3_spells_28 : decode cX3_spells 28 = .ok (.aload_n 0, 1) := by decide +kernel
theorem dX3_spells_29 : decode cX3_spells 29 = .ok (.getfield 9, 3) := by decide +kernel
theorem dX3_spells_32 : decode cX3_spells 32 = .ok (.aload_n 0, 1) := by decide +kernel
theorem dX3_spells_33 : decode cX3_spells 33 = .ok (.getfield 142, 3) := by decide +kernel
theorem dX3_spells_36 : decode cX3_spells 36 = .ok (.iload_n 2, 1) := by decide +kernel
theorem dX3_spells_37 : decode cX3_spells 37 = .ok (.iadd, 1) := by decide +kernel
theorem dX3_spells_38 : decode cX3_spells 38 = .ok (.baload, 1) := by decide +kernel
theorem dX3_spells_39 : decode cX3_spells 39 = .ok (.aload_n 1, 1) := by decide +kernel
theorem dX3_spells_40 : decode cX3_spells 40 = .ok (.iload_n 2, 1) := by decide +kernel
theorem dX3_spells_41 : decode cX3_spells 41 = .ok (.invokevirtual 160, 3) := by decide +kernel
theorem dX3_spells_44 : decode cX3_spells 44 = .ok (.if_icmp .eq 5, 3) := by decide +kernel
theorem dX3_spells_47 : decode cX3_spells 47 = .ok (.iconst 0, 1) := by decide +kernel
theorem dX3_spells_48 : decode cX3_spells 48 = .ok (.ireturn, 1) := by decide +kernel
theorem dX3_spells_49 : decode cX3_spells 49 = .ok (.iinc 2 1, 3) := by decide +kernel
theorem dX3_spells_52 : decode cX3_spells 52 = .ok (.goto (-32), 3) := by decide +kernel
theorem dX3_spells_55 : decode cX3_spells 55 = .ok (.iconst 1, 1) := by decide +kernel
theorem dX3_spells_56 : decode cX3_spells 56 = .ok (.ireturn, 1) := by decide +kernel
theorem dX3_isLetter_0 : decode cX3_isLetter 0 = .ok (.iload_n 0, 1) := by decide +kernel
theorem dX3_isLetter_1 : decode cX3_isLetter 1 = .ok (.bipush 97, 2) := by decide +kernel
theorem dX3_isLetter_3 : decode cX3_isLetter 3 = .ok (.if_icmp .lt 13, 3) := by decide +kernel
theorem dX3_isLetter_6 : decode cX3_isLetter 6 = .ok (.iload_n 0, 1) := by decide +kernel
theorem dX3_isLetter_7 : decode cX3_isLetter 7 = .ok (.bipush 122, 2) := by decide +kernel
theorem dX3_isLetter_9 : decode cX3_isLetter 9 = .ok (.if_icmp .gt 7, 3) := by decide +kernel
theorem dX3_isLetter_12 : decode cX3_isLetter 12 = .ok (.iconst 1, 1) := by decide +kernel
theorem dX3_isLetter_13 : decode cX3_isLetter 13 = .ok (.goto 4, 3) := by decide +kernel
theorem dX3_isLetter_16 : decode cX3_isLetter 16 = .ok (.iconst 0, 1) := by decide +kernel
theorem dX3_isLetter_17 : decode cX3_isLetter 17 = .ok (.ireturn, 1) := by decide +kernel
theorem dX3_isFigure_0 : decode cX3_isFigure 0 = .ok (.iload_n 0, 1) := by decide +kernel
theorem dX3_isFigure_1 : decode cX3_isFigure 1 = .ok (.bipush 48, 2) := by decide +kernel
theorem dX3_isFigure_3 : decode cX3_isFigure 3 = .ok (.if_icmp .lt 13, 3) := by decide +kernel
theorem dX3_isFigure_6 : decode cX3_isFigure 6 = .ok (.iload_n 0, 1) := by decide +kernel
theorem dX3_isFigure_7 : decode cX3_isFigure 7 = .ok (.bipush 57, 2) := by decide +kernel
theorem dX3_isFigure_9 : decode cX3_isFigure 9 = .ok (.if_icmp .gt 7, 3) := by decide +kernel
theorem dX3_isFigure_12 : decode cX3_isFigure 12 = .ok (.iconst 1, 1) := by decide +kernel
theorem dX3_isFigure_13 : decode cX3_isFigure 13 = .ok (.goto 4, 3) := by decide +kernel
theorem dX3_isFigure_16 : decode cX3_isFigure 16 = .ok (.iconst 0, 1) := by decide +kernel
theorem dX3_isFigure_17 : decode cX3_isFigure 17 = .ok (.ireturn, 1) := by decide +kernel
theorem dX4_init_0 : decode cX4_init 0 = .ok (.aload_n 0, 1) := by decide +kernel
theorem dX4_init_1 : decode cX4_init 1 = .ok (.invokespecial 3, 3) := by decide +kernel
theorem dX4_init_4 : decode cX4_init 4 = .ok (.aload_n 0, 1) := by decide +kernel
theorem dX4_init_5 : decode cX4_init 5 = .ok (.bipush 9, 2) := by decide +kernel
theorem dX4_init_7 : decode cX4_init 7 = .ok (.newarray .int, 2) := by decide +kernel
theorem dX4_init_9 : decode cX4_init 9 = .ok (.putfield 9, 3) := by decide +kernel
theorem dX4_init_12 : decode cX4_init 12 = .ok (.aload_n 0, 1) := by decide +kernel
theorem dX4_init_13 : decode cX4_init 13 = .ok (.iconst 5, 1) := by decide +kernel
theorem dX4_init_14 : decode cX4_init 14 = .ok (.newarray .int, 2) := by decide +kernel
theorem dX4_init_16 : decode cX4_init 16 = .ok (.putfield 15, 3) := by decide +kernel
theorem dX4_init_19 : decode cX4_init 19 = .ok (.aload_n 0, 1) := by decide +kernel
theorem dX4_init_20 : decode cX4_init 20 = .ok (.iconst 5, 1) := by decide +kernel
theorem dX4_init_21 : decode cX4_init 21 = .ok (.iconst 5, 1) := by decide +kernel
theorem dX4_init_22 : decode cX4_init 22 = .ok (.multianewarray 18 2, 4) := by decide +kernel
theorem dX4_init_26 : decode cX4_init 26 = .ok (.putfield 20, 3) := by decide +kernel
theorem dX4_init_29 : decode cX4_init 29 = .ok (.aload_n 0, 1) := by decide +kernel
theorem dX4_init_30 : decode cX4_init 30 = .ok (.iconst 5, 1) := by decide +kernel
theorem dX4_init_31 : decode cX4_init 31 = .ok (.bipush 9, 2) := by decide +kernel
theorem dX4_init_33 : decode cX4_init 33 = .ok (.multianewarray 18 2, 4) := by decide +kernel
theorem dX4_init_37 : decode cX4_init 37 = .ok (.putfield 23, 3) := by decide +kernel
theorem dX4_init_40 : decode cX4_init 40 = .ok (.aload_n 0, 1) := by decide +kernel
theorem dX4_init_41 : decode cX4_init 41 = .ok (.iconst 5, 1) := by decide +kernel
theorem dX4_init_42 : decode cX4_init 42 = .ok (.newarray .int, 2) := by decide +kernel
theorem dX4_init_44 : decode cX4_init 44 = .ok (.putfield 26, 3) := by decide +kernel
theorem dX4_init_47 : decode cX4_init 47 = .ok (.aload_n 0, 1) := by decide +kernel
theorem dX4_init_48 : decode cX4_init 48 = .ok (.bipush 10, 2) := by decide +kernel
theorem dX4_init_50 : decode cX4_init 50 = .ok (.newarray .int, 2) := by decide +kernel
theorem dX4_init_52 : decode cX4_init 52 = .ok (.putfield 29, 3) := by decide +kernel
theorem dX4_init_55 : decode cX4_init 55 = .ok (.aload_n 0, 1) := by decide +kernel
theorem dX4_init_56 : decode cX4_init 56 = .ok (.bipush 10, 2) := by decide +kernel
theorem dX4_init_58 : decode cX4_init 58 = .ok (.newarray .int, 2) := by decide +kernel
theorem dX4_init_60 : decode cX4_init 60 = .ok (.putfield 32, 3) := by decide +kernel
theorem dX4_init_63 : decode cX4_init 63 = .ok (.aload_n 0, 1) := by decide +kernel
theorem dX4_init_64 : decode cX4_init 64 = .ok (.bipush 10, 2) := by decide +kernel
theorem dX4_init_66 : decode cX4_init 66 = .ok (.newarray .int, 2) := by decide +kernel
theorem dX4_init_68 : decode cX4_init 68 = .ok (.putfield 35, 3) := by decide +kernel
theorem dX4_init_71 : decode cX4_init 71 = .ok (.aload_n 0, 1) := by decide +kernel
theorem dX4_init_72 : decode cX4_init 72 = .ok (.invokevirtual 38, 3) := by decide +kernel
theorem dX4_init_75 : decode cX4_init 75 = .ok (.return_, 1) := by decide +kernel
theorem dX4_begin_0 : decode cX4_begin 0 = .ok (.aload_n 0, 1) := by decide +kernel
theorem dX4_begin_1 : decode cX4_begin 1 = .ok (.iconst 0, 1) := by decide +kernel
theorem dX4_begin_2 : decode cX4_begin 2 = .ok (.putfield 41, 3) := by decide +kernel
theorem dX4_begin_5 : decode cX4_begin 5 = .ok (.aload_n 0, 1) := by decide +kernel
theorem dX4_begin_6 : decode cX4_begin 6 = .ok (.iconst 4, 1) := by decide +kernel
theorem dX4_begin_7 : decode cX4_begin 7 = .ok (.putfield 45, 3) := by decide +kernel
theorem dX4_begin_10 : decode cX4_begin 10 = .ok (.aload_n 0, 1) := by decide +kernel
theorem dX4_begin_11 : decode cX4_begin 11 = .ok (.iconst 3, 1) := by decide +kernel
theorem dX4_begin_12 : decode cX4_begin 12 = .ok (.iconst 4, 1) := by decide +kernel
theorem dX4_begin_13 : decode cX4_begin 13 = .ok (.invokevirtual 48, 3) := by decide +kernel
theorem dX4_begin_16 : decode cX4_begin 16 = .ok (.return_, 1) := by decide +kernel
theorem dX4_settle_0 : decode cX4_settle 0 = .ok (.aload_n 0, 1) := by decide +kernel
theorem dX4_settle_1 : decode cX4_settle 1 = .ok (.iload_n 1, 1) := by decide +kernel
theorem dX4_settle_2 : decode cX4_settle 2 = .ok (.putfield 52, 3) := by decide +kernel
theorem dX4_settle_5 : decode cX4_settle 5 = .ok (.aload_n 0, 1) := by decide +kernel
theorem dX4_settle_6 : decode cX4_settle 6 = .ok (.iload_n 2, 1) := by decide +kernel
theorem dX4_settle_7 : decode cX4_settle 7 = .ok (.putfield 55, 3) := by decide +kernel
theorem dX4_settle_10 : decode cX4_settle 10 = .ok (.aload_n 0, 1) := by decide +kernel
theorem dX4_settle_11 : decode cX4_settle 11 = .ok (.iconst 0, 1) := by decide +kernel
theorem dX4_settle_12 : decode cX4_settle 12 = .ok (.putfield 58, 3) := by decide +kernel
theorem dX4_settle_15 : decode cX4_settle 15 = .ok (.aload_n 0, 1) := by decide +kernel
theorem dX4_settle_16 : decode cX4_settle 16 = .ok (.iconst 0, 1) := by decide +kernel
theorem dX4_settle_17 : decode cX4_settle 17 = .ok (.putfield 61, 3) := by decide +kernel
theorem dX4_settle_20 : decode cX4_settle 20 = .ok (.aload_n 0, 1) := by decide +kernel
theorem dX4_settle_21 : decode cX4_settle 21 = .ok (.getfield 15, 3) := by decide +kernel
theorem dX4_settle_24 : decode cX4_settle 24 = .ok (.iconst 0, 1) := by decide +kernel
theorem dX4_settle_25 : decode cX4_settle 25 = .ok (.invokestatic 64, 3) := by decide +kernel
theorem dX4_settle_28 : decode cX4_settle 28 = .ok (.aload_n 0, 1) := by decide +kernel
theorem dX4_settle_29 : decode cX4_settle 29 = .ok (.getfield 26, 3) := by decide +kernel
theorem dX4_settle_32 : decode cX4_settle 32 = .ok (.iconst 0, 1) := by decide +kernel
theorem dX4_settle_33 : decode cX4_settle 33 = .ok (.invokestatic 64, 3) := by decide +kernel
theorem dX4_settle_36 : decode cX4_settle 36 = .ok (.iconst 0, 1) := by decide +kernel
theorem dX4_settle_37 : decode cX4_settle 37 = .ok (.istore_n 3, 1) := by decide +kernel
theorem dX4_settle_38 : decode cX4_settle 38 = .ok (.iload_n 3, 1) := by decide +kernel
theorem dX4_settle_39 : decode cX4_settle 39 = .ok (.iconst 5, 1) := by decide +kernel
theorem dX4_settle_40 : decode cX4_settle 40 = .ok (.if_icmp .ge 20, 3) := by decide +kernel
theorem dX4_settle_43 : decode cX4_settle 43 = .ok (.aload_n 0, 1) := by decide +kernel
theorem dX4_settle_44 : decode cX4_settle 44 = .ok (.getfield 20, 3) := by decide +kernel
theorem dX4_settle_47 : decode cX4_settle 47 = .ok (.iload_n 3, 1) := by decide +kernel
theorem dX4_settle_48 : decode cX4_settle 48 = .ok (.aaload, 1) := by decide +kernel
theorem dX4_settle_49 : decode cX4_settle 49 = .ok (.bipush 9, 2) := by decide +kernel
theorem dX4_settle_51 : decode cX4_settle 51 = .ok (.invokestatic 64, 3) := by decide +kernel
theorem dX4_settle_54 : decode cX4_settle 54 = .ok (.iinc 3 1, 3) := by decide +kernel
theorem dX4_settle_57 : decode cX4_settle 57 = .ok (.goto (-19), 3) := by decide +kernel
theorem dX4_settle_60 : decode cX4_settle 60 = .ok (.iconst 0, 1) := by decide +kernel
theorem dX4_settle_61 : decode cX4_settle 61 = .ok (.istore_n 3, 1) := by decide +kernel
theorem dX4_settle_62 : decode cX4_settle 62 = .ok (.iload_n 3, 1) := by decide +kernel
theorem dX4_settle_63 : decode cX4_settle 63 = .ok (.iconst 5, 1) := by decide +kernel
theorem dX4_settle_64 : decode cX4_settle 64 = .ok (.if_icmp .ge 19, 3) := by decide +kernel
theorem dX4_settle_67 : decode cX4_settle 67 = .ok (.aload_n 0, 1) := by decide +kernel
theorem dX4_settle_68 : decode cX4_settle 68 = .ok (.getfield 23, 3) := by decide +kernel
theorem dX4_settle_71 : decode cX4_settle 71 = .ok (.iload_n 3, 1) := by decide +kernel
theorem dX4_settle_72 : decode cX4_settle 72 = .ok (.aaload, 1) := by decide +kernel
theorem dX4_settle_73 : decode cX4_settle 73 = .ok (.iconst 0, 1) := by decide +kernel
theorem dX4_settle_74 : decode cX4_settle 74 = .ok (.invokestatic 64, 3) := by decide +kernel
theorem dX4_settle_77 : decode cX4_settle 77 = .ok (.iinc 3 1, 3) := by decide +kernel
theorem dX4_settle_80 : decode cX4_settle 80 = .ok (.goto (-18), 3) := by decide +kernel
theorem dX4_settle_83 : decode cX4_settle 83 = .ok (.return_, 1) := by decide +kernel
theorem dX4_takeOver_0 : decode cX4_takeOver 0 = .ok (.aload_n 0, 1) := by decide +kernel
theorem dX4_takeOver_1 : decode cX4_takeOver 1 = .ok (.aload_n 1, 1) := by decide +kernel
theorem dX4_takeOver_2 : decode cX4_takeOver 2 = .ok (.getfield 41, 3) := by decide +kernel
theorem dX4_takeOver_5 : decode cX4_takeOver 5 = .ok (.putfield 41, 3) := by decide +kernel
theorem dX4_takeOver_8 : decode cX4_takeOver 8 = .ok (.aload_n 0, 1) := by decide +kernel
theorem dX4_takeOver_9 : decode cX4_takeOver 9 = .ok (.aload_n 1, 1) := by decide +kernel
theorem dX4_takeOver_10 : decode cX4_takeOver 10 = .ok (.getfield 45, 3) := by decide +kernel
theorem dX4_takeOver_13 : decode cX4_takeOver 13 = .ok (.putfield 45, 3) := by decide +kernel
theorem dX4_takeOver_16 : decode cX4_takeOver 16 = .ok (.aload_n 0, 1) := by decide +kernel
theorem dX4_takeOver_17 : decode cX4_takeOver 17 = .ok (.aload_n 1, 1) := by decide +kernel
theorem dX4_takeOver_18 : decode cX4_takeOver 18 = .ok (.getfield 52, 3) := by decide +kernel
theorem dX4_takeOver_21 : decode cX4_takeOver 21 = .ok (.putfield 52, 3) := by decide +kernel
theorem dX4_takeOver_24 : decode cX4_takeOver 24 = .ok (.aload_n 0, 1) := by decide +kernel
theorem dX4_takeOver_25 : decode cX4_takeOver 25 = .ok (.aload_n 1, 1) := by decide +kernel
theorem dX4_takeOver_26 : decode cX4_takeOver 26 = .ok (.getfield 55, 3) := by decide +kernel
theorem dX4_takeOver_29 : decode cX4_takeOver 29 = .ok (.putfield 55, 3) := by decide +kernel
theorem dX4_takeOver_32 : decode cX4_takeOver 32 = .ok (.aload_n 0, 1) := by decide +kernel
theorem dX4_takeOver_33 : decode cX4_takeOver 33 = .ok (.aload_n 1, 1) := by decide +kernel
theorem dX4_takeOver_34 : decode cX4_takeOver 34 = .ok (.getfield 58, 3) := by decide +kernel
theorem dX4_takeOver_37 : decode cX4_takeOver 37 = .ok (.putfield 58, 3) := by decide +kernel
theorem dX4_takeOver_40 : decode cX4_takeOver 40 = .ok (.aload_n 0, 1) := by decide +kernel
theorem dX4_takeOver_41 : decode cX4_takeOver 41 = .ok (.aload_n 1, 1) := by decide +kernel
theorem dX4_takeOver_42 : decode cX4_takeOver 42 = .ok (.getfield 61, 3) := by decide +kernel
theorem dX4_takeOver_45 : decode cX4_takeOver 45 = .ok (.putfield 61, 3) := by decide +kernel
theorem dX4_takeOver_48 : decode cX4_takeOver 48 = .ok (.aload_n 1, 1) := by decide +kernel
theorem dX4_takeOver_49 : decode cX4_takeOver 49 = .ok (.getfield 9, 3) := by decide +kernel
theorem dX4_takeOver_52 : decode cX4_takeOver 52 = .ok (.iconst 0, 1) := by decide +kernel
theorem dX4_takeOver_53 : decode cX4_takeOver 53 = .ok (.aload_n 0, 1) := by decide +kernel
theorem dX4_takeOver_54 : decode cX4_takeOver 54 = .ok (.getfield 9, 3) := by decide +kernel
theorem dX4_takeOver_57 : decode cX4_takeOver 57 = .ok (.iconst 0, 1) := by decide +kernel
theorem dX4_takeOver_58 : decode cX4_takeOver 58 = .ok (.bipush 9, 2) := by decide +kernel
theorem dX4_takeOver_60 : decode cX4_takeOver 60 = .ok (.invokestatic 70, 3) := by decide +kernel
theorem dX4_takeOver_63 : decode cX4_takeOver 63 = .ok (.aload_n 1, 1) := by decide +kernel
theorem dX4_takeOver_64 : decode cX4_takeOver 64 = .ok (.getfield 15, 3) := by decide +kernel
theorem dX4_takeOver_67 : decode cX4_takeOver 67 = .ok (.iconst 0, 1) := by decide +kernel
theorem dX4_takeOver_68 : decode cX4_takeOver 68 = .ok (.aload_n 0, 1) := by decide +kernel
theorem dX4_takeOver_69 : decode cX4_takeOver 69 = .ok (.getfield 15, 3) := by decide +kernel
theorem dX4_takeOver_72 : decode cX4_takeOver 72 = .ok (.iconst 0, 1) := by decide +kernel
theorem dX4_takeOver_73 : decode cX4_takeOver 73 = .ok (.iconst 5, 1) := by decide +kernel
theorem dX4_takeOver_74 : decode cX4_takeOver 74 = .ok (.invokestatic 70, 3) := by decide +kernel
theorem dX4_takeOver_77 : decode cX4_takeOver 77 = .ok (.aload_n 1, 1) := by decide +kernel
theorem dX4_takeOver_78 : decode cX4_takeOver 78 = .ok (.getfield 26, 3) := by decide +kernel
theorem dX4_takeOver_81 : decode cX4_takeOver 81 = .ok (.iconst 0, 1) := by decide +kernel
theorem dX4_takeOver_82 : decode cX4_takeOver 82 = .ok (.aload_n 0, 1) := by decide +kernel
theorem dX4_takeOver_83 : decode cX4_takeOver 83 = .ok (.getfield 26, 3) := by decide +kernel
theorem dX4_takeOver_86 : decode cX4_takeOver 86 = .ok (.iconst 0, 1) := by decide +kernel
theorem dX4_takeOver_87 : decode cX4_takeOver 87 = .ok (.iconst 5, 1) := by decide +kernel
theorem dX4_takeOver_88 : decode cX4_takeOver 88 = .ok (.invokestatic 70, 3) := by decide +kernel
theorem dX4_takeOver_91 : decode cX4_takeOver 91 = .ok (.aload_n 1, 1) := by decide +kernel
theorem dX4_takeOver_92 : decode cX4_takeOver 92 = .ok (.getfield 29, 3) := by decide +kernel
theorem dX4_takeOver_95 : decode cX4_takeOver 95 = .ok (.iconst 0, 1) := by decide +kernel
theorem dX4_takeOver_96 : decode cX4_takeOver 96 = .ok (.aload_n 0, 1) := by decide +kernel
theorem dX4_takeOver_97 : decode cX4_takeOver 97 = .ok (.getfield 29, 3) := by decide +kernel
theorem dX4_takeOver_100 : decode cX4_takeOver 100 = .ok (.iconst 0, 1) := by decide +kernel
theorem dX4_takeOver_101 : decode cX4_takeOver 101 = .ok (.bipush 10, 2) := by decide +kernel
theorem dX4_takeOver_103 : decode cX4_takeOver 103 = .ok (.invokestatic 70, 3) := by decide +kernel
theorem dX4_takeOver_106 : decode cX4_takeOver 106 = .ok (.aload_n 1, 1) := by decide +kernel
theorem dX4_takeOver_107 : decode cX4_takeOver 107 = .ok (.getfield 32, 3) := by decide +kernel
theorem dX4_takeOver_110 : decode cX4_takeOver 110 = .ok (.iconst 0, 1) := by decide +kernel
theorem dX4_takeOver_111 : decode cX4_takeOver 111 = .ok (.aload_n 0, 1) := by decide +kernel
theorem dX4_takeOver_112 : decode cX4_takeOver 112 = .ok (.getfield 32, 3) := by decide +kernel
theorem dX4_takeOver_115 : decode cX4_takeOver 115 = .ok (.iconst 0, 1) := by decide +kernel
theorem dX4_takeOver_116 : decode cX4_takeOver 116 = .ok (.bipush 10, 2) := by decide +kernel
theorem dX4_takeOver_118 : decode cX4_takeOver 118 = .ok (.invokestatic 70, 3) := by decide +kernel
theorem dX4_takeOver_121 : decode cX4_takeOver 121 = .ok (.aload_n 1, 1) := by decide +kernel
theorem dX4_takeOver_122 : decode cX4_takeOver 122 = .ok (.getfield 35, 3) := by decide +kernel
theorem dX4_takeOver_125 : decode cX4_takeOver 125 = .ok (.iconst 0, 1) := by decide +kernel
theorem dX4_takeOver_126 : decode cX4_takeOver 126 = .ok (.aload_n 0, 1) := by decide +kernel
theorem dX4_takeOver_127 : decode cX4_takeOver 127 = .ok (.getfield 35, 3) := by decide +kernel
theorem dX4_takeOver_130 : decode cX4_takeOver 130 = .ok (.iconst 0, 1) := by decide +kernel
theorem dX4_takeOver_131 : decode cX4_takeOver 131 = .ok (.bipush 10, 2) := by decide +kernel
theorem dX4_takeOver_133 : decode cX4_takeOver 133 = .ok (.invokestatic 70, 3) := by decide +kernel
theorem dX4_takeOver_136 : decode cX4_takeOver 136 = .ok (.iconst 0, 1) := by decide +kernel
theorem dX4_takeOver_137 : decode cX4_takeOver 137 = .ok (.istore_n 2, 1) := by decide +kernel
theorem dX4_takeOver_138 : decode cX4_takeOver 138 = .ok (.iload_n 2, 1) := by decide +kernel
theorem dX4_takeOver_139 : decode cX4_takeOver 139 = .ok (.iconst 5, 1) := by decide +kernel
theorem dX4_takeOver_140 : decode cX4_takeOver 140 = .ok (.if_icmp .ge 27, 3) := by decide +kernel
theorem dX4_takeOver_143 : decode cX4_takeOver 143 = .ok (.aload_n 1, 1) := by decide +kernel
theorem dX4_takeOver_144 : decode cX4_takeOver 144 = .ok (.getfield 20, 3) := by decide +kernel
theorem dX4_takeOver_147 : decode cX4_takeOver 147 = .ok (.iload_n 2, 1) := by decide +kernel
theorem dX4_takeOver_148 : decode cX4_takeOver 148 = .ok (.aaload, 1) := by decide +kernel
theorem dX4_takeOver_149 : decode cX4_takeOver 149 = .ok (.iconst 0, 1) := by decide +kernel
theorem dX4_takeOver_150 : decode cX4_takeOver 150 = .ok (.aload_n 0, 1) := by decide +kernel
theorem dX4_takeOver_151 : decode cX4_takeOver 151 = .ok (.getfield 20, 3) := by decide +kernel
theorem dX4_takeOver_154 : decode cX4_takeOver 154 = .ok (.iload_n 2, 1) := by decide +kernel
theorem dX4_takeOver_155 : decode cX4_takeOver 155 = .ok (.aaload, 1) := by decide +kernel
theorem dX4_takeOver_156 : decode cX4_takeOver 156 = .ok (.iconst 0, 1) := by decide +kernel
theorem dX4_takeOver_157 : decode cX4_takeOver 157 = .ok (.iconst 5, 1) := by decide +kernel
theorem dX4_takeOver_158 : decode cX4_takeOver 158 = .ok (.invokestatic 70, 3) := by decide +kernel
theorem dX4_takeOver_161 : decode cX4_takeOver 161 = .ok (.iinc 2 1, 3) := by decide +kernel
theorem dX4_takeOver_164 : decode cX4_takeOver 164 = .ok (.goto (-26), 3) := by decide +kernel
theorem dX4_takeOver_167 : decode cX4_takeOver 167 = .ok (.iconst 0, 1) := by decide +kernel
theorem dX4_takeOver_168 : decode cX4_takeOver 168 = .ok (.istore_n 2, 1) := by decide +kernel
theorem dX4_takeOver_169 : decode cX4_takeOver 169 = .ok (.iload_n 2, 1) := by decide +kernel
theorem dX4_takeOver_170 : decode cX4_takeOver 170 = .ok (.iconst 5, 1) := by decide +kernel
theorem dX4_takeOver_171 : decode cX4_takeOver 171 = .ok (.if_icmp .ge 28, 3) := by decide +kernel
theorem dX4_takeOver_174 : decode cX4_takeOver 174 = .ok (.aload_n 1, 1) := by decide +kernel
theorem dX4_takeOver_175 : decode cX4_takeOver 175 = .ok (.getfield 23, 3) := by decide +kernel
theorem dX4_takeOver_178 : decode cX4_takeOver 178 = .ok (.iload_n 2, 1) := by decide +kernel
theorem dX4_takeOver_179 : decode cX4_takeOver 179 = .ok (.aaload, 1) := by decide +kernel
theorem dX4_takeOver_180 : decode cX4_takeOver 180 = .ok (.iconst 0, 1) := by decide +kernel
theorem dX4_takeOver_181 : decode cX4_takeOver 181 = .ok (.aload_n 0, 1) := by decide +kernel
theorem dX4_takeOver_182 : decode cX4_takeOver 182 = .ok (.getfield 23, 3) := by decide +kernel
theorem dX4_takeOver_185 : decode cX4_takeOver 185 = .ok (.iload_n 2, 1) := by decide +kernel
theorem dX4_takeOver_186 : decode cX4_takeOver 186 = .ok (.aaload, 1) := by decide +kernel
theorem dX4_takeOver_187 : decode cX4_takeOver 187 = .ok (.iconst 0, 1) := by decide +kernel
theorem dX4_takeOver_188 : decode cX4_takeOver 188 = .ok (.bipush 9, 2) := by decide +kernel
theorem dX4_takeOver_190 : decode cX4_takeOver 190 = .ok (.invokestatic 70, 3) := by decide +kernel
theorem dX4_takeOver_193 : decode cX4_takeOver 193 = .ok (.iinc 2 1, 3) := by decide +kernel
theorem dX4_takeOver_196 : decode cX4_takeOver 196 = .ok (.goto (-27), 3) := by decide +kernel
theorem dX4_takeOver_199 : decode cX4_takeOver 199 = .ok (.return_, 1) := by decide +kernel
theorem dX4_hasThing_0 : decode cX4_hasThing 0 = .ok (.iload_n 1, 1) := by decide +kernel
theorem dX4_hasThing_1 : decode cX4_hasThing 1 = .ok (.iconst 0, 1) := by decide +kernel
theorem dX4_hasThing_2 : decode cX4_hasThing 2 = .ok (.aload_n 0, 1) := by decide +kernel
theorem dX4_hasThing_3 : decode cX4_hasThing 3 = .ok (.getfield 41, 3) := by decide +kernel
theorem dX4_hasThing_6 : decode cX4_hasThing 6 = .ok (.iconst 1, 1) := by decide +kernel
theorem dX4_hasThing_7 : decode cX4_hasThing 7 = .ok (.isub, 1) := by decide +kernel
theorem dX4_hasThing_8 : decode cX4_hasThing 8 = .ok (.invokestatic 76, 3) := by decide +kernel
theorem dX4_hasThing_11 : decode cX4_hasThing 11 = .ok (.ireturn, 1) := by decide +kernel
theorem dX4_hasPerson_0 : decode cX4_hasPerson 0 = .ok (.iload_n 1, 1) := by decide +kernel
theorem dX4_hasPerson_1 : decode cX4_hasPerson 1 = .ok (.iconst 0, 1) := by decide +kernel
theorem dX4_hasPerson_2 : decode cX4_hasPerson 2 = .ok (.aload_n 0, 1) := by decide +kernel
theorem dX4_hasPerson_3 : decode cX4_hasPerson 3 = .ok (.getfield 52, 3) := by decide +kernel
theorem dX4_hasPerson_6 : decode cX4_hasPerson 6 = .ok (.iconst 1, 1) := by decide +kernel
theorem dX4_hasPerson_7 : decode cX4_hasPerson 7 = .ok (.isub, 1) := by decide +kernel
theorem dX4_hasPerson_8 : decode cX4_hasPerson 8 = .ok (.invokestatic 76, 3) := by decide +kernel
theorem dX4_hasPerson_11 : decode cX4_hasPerson 11 = .ok (.ireturn, 1) := by decide +kernel
theorem dX4_hasHour_0 : decode cX4_hasHour 0 = .ok (.iload_n 1, 1) := by decide +kernel
theorem dX4_hasHour_1 : decode cX4_hasHour 1 = .ok (.iconst 0, 1) := by decide +kernel
theorem dX4_hasHour_2 : decode cX4_hasHour 2 = .ok (.aload_n 0, 1) := by decide +kernel
theorem dX4_hasHour_3 : decode cX4_hasHour 3 = .ok (.getfield 55, 3) := by decide +kernel
theorem dX4_hasHour_6 : decode cX4_hasHour 6 = .ok (.iconst 1, 1) := by decide +kernel
theorem dX4_hasHour_7 : decode cX4_hasHour 7 = .ok (.isub, 1) := by decide +kernel
theorem dX4_hasHour_8 : decode cX4_hasHour 8 = .ok (.invokestatic 76, 3) := by decide +kernel
theorem dX4_hasHour_11 : decode cX4_hasHour 11 = .ok (.ireturn, 1) := by decide +kernel
theorem dX4_addThing_0 : decode cX4_addThing 0 = .ok (.aload_n 0, 1) := by decide +kernel
theorem dX4_addThing_1 : decode cX4_addThing 1 = .ok (.getfield 41, 3) := by decide +kernel
theorem dX4_addThing_4 : decode cX4_addThing 4 = .ok (.bipush 9, 2) := by decide +kernel
theorem dX4_addThing_6 : decode cX4_addThing 6 = .ok (.if_icmp .ge 23, 3) := by decide +kernel
theorem dX4_addThing_9 : decode cX4_addThing 9 = .ok (.aload_n 0, 1) := by decide +kernel
theorem dX4_addThing_10 : decode cX4_addThing 10 = .ok (.getfield 9, 3) := by decide +kernel
theorem dX4_addThing_13 : decode cX4_addThing 13 = .ok (.aload_n 0, 1) := by decide +kernel
theorem dX4_addThing_14 : decode cX4_addThing 14 = .ok (.getfield 41, 3) := by decide +kernel
theorem dX4_addThing_17 : decode cX4_addThing 17 = .ok (.iload_n 1, 1) := by decide +kernel
theorem dX4_addThing_18 : decode cX4_addThing 18 = .ok (.iastore, 1) := by decide +kernel
theorem dX4_addThing_19 : decode cX4_addThing 19 = .ok (.aload_n 0, 1) := by decide +kernel
theorem dX4_addThing_20 : decode cX4_addThing 20 = .ok (.dup, 1) := by decide +kernel
theorem dX4_addThing_21 : decode cX4_addThing 21 = .ok (.getfield 41, 3) := by decide +kernel
theorem dX4_addThing_24 : decode cX4_addThing 24 = .ok (.iconst 1, 1) := by decide +kernel
theorem dX4_addThing_25 : decode cX4_addThing 25 = .ok (.iadd, 1) := by decide +kernel
theorem dX4_addThing_26 : decode cX4_addThing 26 = .ok (.putfield 41, 3) := by decide +kernel
theorem dX4_addThing_29 : decode cX4_addThing 29 = .ok (.return_, 1) := by decide +kernel
theorem dX4_kindOf_0 : decode cX4_kindOf 0 = .ok (.iload_n 1, 1) := by decide +kernel
theorem dX4_kindOf_1 : decode cX4_kindOf 1 = .ok (.ifCond .lt 20, 3) := by decide +kernel
theorem dX4_kindOf_4 : decode cX4_kindOf 4 = .ok (.iload_n 1, 1) := by decide +kernel
theorem dX4_kindOf_5 : decode cX4_kindOf 5 = .ok (.aload_n 0, 1) := by decide +kernel
theorem dX4_kindOf_6 : decode cX4_kindOf 6 = .ok (.getfield 55, 3) := by decide +kernel
theorem dX4_kindOf_9 : decode cX4_kindOf 9 = .ok (.if_icmp .ge 12, 3) := by decide +kernel
theorem dX4_kindOf_12 : decode cX4_kindOf 12 = .ok (.aload_n 0, 1) := by decide +kernel
theorem dX4_kindOf_13 : decode cX4_kindOf 13 = .ok (.getfield 15, 3) := by decide +kernel
theorem dX4_kindOf_16 : decode cX4_kindOf 16 = .ok (.iload_n 1, 1) := by decide +kernel
theorem dX4_kindOf_17 : decode cX4_kindOf 17 = .ok (.iaload, 1) := by decide +kernel
theorem dX4_kindOf_18 : decode cX4_kindOf 18 = .ok (.goto 4, 3) := by decide +kernel
theorem dX4_kindOf_21 : decode cX4_kindOf 21 = .ok (.iconst 0, 1) := by decide +kernel
theorem dX4_kindOf_22 : decode cX4_kindOf 22 = .ok (.ireturn, 1) := by decide +kernel
theorem dX4_needed_0 : decode cX4_needed 0 = .ok (.iconst 0, 1) := by decide +kernel
theorem dX4_needed_1 : decode cX4_needed 1 = .ok (.istore_n 2, 1) := by decide +kernel
theorem dX4_needed_2 : decode cX4_needed 2 = .ok (.iconst 0, 1) := by decide +kernel
theorem dX4_needed_3 : decode cX4_needed 3 = .ok (.istore_n 3, 1) := by decide +kernel
theorem dX4_needed_4 : decode cX4_needed 4 = .ok (.iload_n 3, 1) := by decide +kernel
theorem dX4_needed_5 : decode cX4_needed 5 = .ok (.aload_n 0, 1) := by decide +kernel
theorem dX4_needed_6 : decode cX4_needed 6 = .ok (.getfield 41, 3) := by decide +kernel
theorem dX4_needed_9 : decode cX4_needed 9 = .ok (.if_icmp .ge 20, 3) := by decide +kernel
theorem dX4_needed_12 : decode cX4_needed 12 = .ok (.iload_n 2, 1) := by decide +kernel
theorem dX4_needed_13 : decode cX4_needed 13 = .ok (.aload_n 0, 1) := by decide +kernel
theorem dX4_needed_14 : decode cX4_needed 14 = .ok (.getfield 23, 3) := by decide +kernel
theorem dX4_needed_17 : decode cX4_needed 17 = .ok (.iload_n 1, 1) := by decide +kernel
theorem dX4_needed_18 : decode cX4_needed 18 = .ok (.aaload, 1) := by decide +kernel
theorem dX4_needed_19 : decode cX4_needed 19 = .ok (.iload_n 3, 1) := by decide +kernel
theorem dX4_needed_20 : decode cX4_needed 20 = .ok (.iaload, 1) := by decide +kernel
theorem dX4_needed_21 : decode cX4_needed 21 = .ok (.iadd, 1) := by decide +kernel
theorem dX4_needed_22 : decode cX4_needed 22 = .ok (.istore_n 2, 1) := by decide +kernel
theorem dX4_needed_23 : decode cX4_needed 23 = .ok (.iinc 3 1, 3) := by decide +kernel
theorem dX4_needed_26 : decode cX4_needed 26 = .ok (.goto (-22), 3) := by decide +kernel
theorem dX4_needed_29 : decode cX4_needed 29 = .ok (.iload_n 2, 1) := by decide +kernel
theorem dX4_needed_30 : decode cX4_needed 30 = .ok (.ireturn, 1) := by decide +kernel
theorem dX4_mostNeeded_0 : decode cX4_mostNeeded 0 = .ok (.iconst 5, 1) := by decide +kernel
theorem dX4_mostNeeded_1 : decode cX4_mostNeeded 1 = .ok (.aload_n 0, 1) := by decide +kernel
theorem dX4_mostNeeded_2 : decode cX4_mostNeeded 2 = .ok (.getfield 55, 3) := by decide +kernel
theorem dX4_mostNeeded_5 : decode cX4_mostNeeded 5 = .ok (.aload_n 0, 1) := by decide +kernel
theorem dX4_mostNeeded_6 : decode cX4_mostNeeded 6 = .ok (.iload_n 1, 1) := by decide +kernel
theorem dX4_mostNeeded_7 : decode cX4_mostNeeded 7 = .ok (.invokevirtual 80, 3) := by decide +kernel
theorem dX4_mostNeeded_10 : decode cX4_mostNeeded 10 = .ok (.isub, 1) := by decide +kernel
theorem dX4_mostNeeded_11 : decode cX4_mostNeeded 11 = .ok (.aload_n 0, 1) := by decide +kernel
theorem dX4_mostNeeded_12 : decode cX4_mostNeeded 12 = .ok (.getfield 23, 3) := by decide +kernel
theorem dX4_mostNeeded_15 : decode cX4_mostNeeded 15 = .ok (.iload_n 1, 1) := by decide +kernel
theorem dX4_mostNeeded_16 : decode cX4_mostNeeded 16 = .ok (.aaload, 1) := by decide +kernel
theorem dX4_mostNeeded_17 : decode cX4_mostNeeded 17 = .ok (.iload_n 2, 1) := by decide +kernel
theorem dX4_mostNeeded_18 : decode cX4_mostNeeded 18 = .ok (.iaload, 1) := by decide +kernel
theorem dX4_mostNeeded_19 : decode cX4_mostNeeded 19 = .ok (.iadd, 1) := by decide +kernel
theorem dX4_mostNeeded_20 : decode cX4_mostNeeded 20 = .ok (.invokestatic 84, 3) := by decide +kernel
theorem dX4_mostNeeded_23 : decode cX4_mostNeeded 23 = .ok (.ireturn, 1) := by decide +kernel
theorem dX4_rememberDoing_0 : decode cX4_rememberDoing 0 = .ok (.aload_n 0, 1) := by decide +kernel
theorem dX4_rememberDoing_1 : decode cX4_rememberDoing 1 = .ok (.getfield 61, 3) := by decide +kernel
theorem dX4_rememberDoing_4 : decode cX4_rememberDoing 4 = .ok (.bipush 10, 2) := by decide +kernel
theorem dX4_rememberDoing_6 : decode cX4_rememberDoing 6 = .ok (.if_icmp .lt 7, 3) := by decide +kernel
theorem dX4_rememberDoing_9 : decode cX4_rememberDoing 9 = .ok (.aload_n 0, 1) := by decide +kernel
theorem dX4_rememberDoing_10 : decode cX4_rememberDoing 10 = .ok (.invokevirtual 90, 3) := by decide +kernel
theorem dX4_rememberDoing_13 : decode cX4_rememberDoing 13 = .ok (.aload_n 0, 1) := by decide +kernel
theorem dX4_rememberDoing_14 : decode cX4_rememberDoing 14 = .ok (.getfield 29, 3) := by decide +kernel
theorem dX4_rememberDoing_17 : decode cX4_rememberDoing 17 = .ok (.aload_n 0, 1) := by decide +kernel
theorem dX4_rememberDoing_18 : decode cX4_rememberDoing 18 = .ok (.getfield 61, 3) := by decide +kernel
theorem dX4_rememberDoing_21 : decode cX4_rememberDoing 21 = .ok (.iload_n 1, 1) := by decide +kernel
theorem dX4_rememberDoing_22 : decode cX4_rememberDoing 22 = .ok (.iastore, 1) := by decide +kernel
theorem dX4_rememberDoing_23 : decode cX4_rememberDoing 23 = .ok (.aload_n 0, 1) := by decide +kernel
theorem dX4_rememberDoing_24 : decode cX4_rememberDoing 24 = .ok (.getfield 32, 3) := by decide +kernel
theorem dX4_rememberDoing_27 : decode cX4_rememberDoing 27 = .ok (.aload_n 0, 1) := by decide +kernel
theorem dX4_rememberDoing_28 : decode cX4_rememberDoing 28 = .ok (.getfield 61, 3) := by decide +kernel
theorem dX4_rememberDoing_31 : decode cX4_rememberDoing 31 = .ok (.iload_n 2, 1) := by decide +kernel
theorem dX4_rememberDoing_32 : decode cX4_rememberDoing 32 = .ok (.iastore, 1) := by decide +kernel
theorem dX4_rememberDoing_33 : decode cX4_rememberDoing 33 = .ok (.aload_n 0, 1) := by decide +kernel
theorem dX4_rememberDoing_34 : decode cX4_rememberDoing 34 = .ok (.getfield 35, 3) := by decide +kernel
theorem dX4_rememberDoing_37 : decode cX4_rememberDoing 37 = .ok (.aload_n 0, 1) := by decide +kernel
theorem dX4_rememberDoing_38 : decode cX4_rememberDoing 38 = .ok (.getfield 61, 3) := by decide +kernel
theorem dX4_rememberDoing_41 : decode cX4_rememberDoing 41 = .ok (.iload_n 3, 1) := by decide +kernel
theorem dX4_rememberDoing_42 : decode cX4_rememberDoing 42 = .ok (.iastore, 1) := by decide +kernel
theorem dX4_rememberDoing_43 : decode cX4_rememberDoing 43 = .ok (.aload_n 0, 1) := by decide +kernel
theorem dX4_rememberDoing_44 : decode cX4_rememberDoing 44 = .ok (.dup, 1) := by decide +kernel
theorem dX4_rememberDoing_45 : decode cX4_rememberDoing 45 = .ok (.getfield 61, 3) := by decide +kernel
theorem dX4_rememberDoing_48 : decode cX4_rememberDoing 48 = .ok (.iconst 1, 1) := by decide +kernel
theorem dX4_rememberDoing_49 : decode cX4_rememberDoing 49 = .ok (.iadd, 1) := by decide +kernel
theorem dX4_rememberDoing_50 : decode cX4_rememberDoing 50 = .ok (.putfield 61, 3) := by decide +kernel
theorem dX4_rememberDoing_53 : decode cX4_rememberDoing 53 = .ok (.return_, 1) := by decide +kernel
theorem dX4_forgetOldest_0 : decode cX4_forgetOldest 0 = .ok (.aload_n 0, 1) := by decide +kernel
theorem dX4_forgetOldest_1 : decode cX4_forgetOldest 1 = .ok (.getfield 29, 3) := by decide +kernel
theorem dX4_forgetOldest_4 : decode cX4_forgetOldest 4 = .ok (.iconst 1, 1) := by decide +kernel
theorem dX4_forgetOldest_5 : decode cX4_forgetOldest 5 = .ok (.aload_n 0, 1) := by decide +kernel
theorem dX4_forgetOldest_6 : decode cX4_forgetOldest 6 = .ok (.getfield 29, 3) := by decide +kernel
theorem dX4_forgetOldest_9 : decode cX4_forgetOldest 9 = .ok (.iconst 0, 1) := by decide +kernel
theorem dX4_forgetOldest_10 : decode cX4_forgetOldest 10 = .ok (.bipush 9, 2) := by decide +kernel
theorem dX4_forgetOldest_12 : decode cX4_forgetOldest 12 = .ok (.invokestatic 70, 3) := by decide +kernel
theorem dX4_forgetOldest_15 : decode cX4_forgetOldest 15 = .ok (.aload_n 0, 1) := by decide +kernel
theorem dX4_forgetOldest_16 : decode cX4_forgetOldest 16 = .ok (.getfield 32, 3) := by decide +kernel
theorem dX4_forgetOldest_19 : decode cX4_forgetOldest 19 = .ok (.iconst 1, 1) := by decide +kernel
theorem dX4_forgetOldest_20 : decode cX4_forgetOldest 20 = .ok (.aload_n 0, 1) := by decide +kernel
theorem dX4_forgetOldest_21 : decode cX4_forgetOldest 21 = .ok (.getfield 32, 3) := by decide +kernel
theorem dX4_forgetOldest_24 : decode cX4_forgetOldest 24 = .ok (.iconst 0, 1) := by decide +kernel
theorem dX4_forgetOldest_25 : decode cX4_forgetOldest 25 = .ok (.bipush 9, 2) := by decide +kernel
theorem dX4_forgetOldest_27 : decode cX4_forgetOldest 27 = .ok (.invokestatic 70, 3) := by decide +kernel
theorem dX4_forgetOldest_30 : decode cX4_forgetOldest 30 = .ok (.aload_n 0, 1) := by decide +kernel
theorem dX4_forgetOldest_31 : decode cX4_forgetOldest 31 = .ok (.getfield 35, 3) := by decide +kernel
theorem dX4_forgetOldest_34 : decode cX4_forgetOldest 34 = .ok (.iconst 1, 1) := by decide +kernel
theorem dX4_forgetOldest_35 : decode cX4_forgetOldest 35 = .ok (.aload_n 0, 1) := by decide +kernel
theorem dX4_forgetOldest_36 : decode cX4_forgetOldest 36 = .ok (.getfield 35, 3) := by decide +kernel
theorem dX4_forgetOldest_39 : decode cX4_forgetOldest 39 = .ok (.iconst 0, 1) := by decide +kernel
theorem dX4_forgetOldest_40 : decode cX4_forgetOldest 40 = .ok (.bipush 9, 2) := by decide +kernel
theorem dX4_forgetOldest_42 : decode cX4_forgetOldest 42 = .ok (.invokestatic 70, 3) := by decide +kernel
theorem dX4_forgetOldest_45 : decode cX4_forgetOldest 45 = .ok (.aload_n 0, 1) := by decide +kernel
theorem dX4_forgetOldest_46 : decode cX4_forgetOldest 46 = .ok (.bipush 9, 2) := by decide +kernel
theorem dX4_forgetOldest_48 : decode cX4_forgetOldest 48 = .ok (.putfield 61, 3) := by decide +kernel
theorem dX4_forgetOldest_51 : decode cX4_forgetOldest 51 = .ok (.return_, 1) := by decide +kernel
theorem dX4_undoLast_0 : decode cX4_undoLast 0 = .ok (.aload_n 0, 1) := by decide +kernel
theorem dX4_undoLast_1 : decode cX4_undoLast 1 = .ok (.getfield 61, 3) := by decide +kernel
theorem dX4_undoLast_4 : decode cX4_undoLast 4 = .ok (.ifCond .le 46, 3) := by decide +kernel
theorem dX4_undoLast_7 : decode cX4_undoLast 7 = .ok (.aload_n 0, 1) := by decide +kernel
theorem dX4_undoLast_8 : decode cX4_undoLast 8 = .ok (.dup, 1) := by decide +kernel
theorem dX4_undoLast_9 : decode cX4_undoLast 9 = .ok (.getfield 61, 3) := by decide +kernel
theorem dX4_undoLast_12 : decode cX4_undoLast 12 = .ok (.iconst 1, 1) := by decide +kernel
theorem dX4_undoLast_13 : decode cX4_undoLast 13 = .ok (.isub, 1) := by decide +kernel
theorem dX4_undoLast_14 : decode cX4_undoLast 14 = .ok (.putfield 61, 3) := by decide +kernel
theorem dX4_undoLast_17 : decode cX4_undoLast 17 = .ok (.aload_n 0, 1) := by decide +kernel
theorem dX4_undoLast_18 : decode cX4_undoLast 18 = .ok (.getfield 20, 3) := by decide +kernel
theorem dX4_undoLast_21 : decode cX4_undoLast 21 = .ok (.aload_n 0, 1) := by decide +kernel
theorem dX4_undoLast_22 : decode cX4_undoLast 22 = .ok (.getfield 32, 3) := by decide +kernel
theorem dX4_undoLast_25 : decode cX4_undoLast 25 = .ok (.aload_n 0, 1) := by decide +kernel
theorem dX4_undoLast_26 : decode cX4_undoLast 26 = .ok (.getfield 61, 3) := by decide +kernel
theorem dX4_undoLast_29 : decode cX4_undoLast 29 = .ok (.iaload, 1) := by decide +kernel
theorem dX4_undoLast_30 : decode cX4_undoLast 30 = .ok (.aaload, 1) := by decide +kernel
theorem dX4_undoLast_31 : decode cX4_undoLast 31 = .ok (.aload_n 0, 1) := by decide +kernel
theorem dX4_undoLast_32 : decode cX4_undoLast 32 = .ok (.getfield 29, 3) := by decide +kernel
theorem dX4_undoLast_35 : decode cX4_undoLast 35 = .ok (.aload_n 0, 1) := by decide +kernel
theorem dX4_undoLast_36 : decode cX4_undoLast 36 = .ok (.getfield 61, 3) := by decide +kernel
theorem dX4_undoLast_39 : decode cX4_undoLast 39 = .ok (.iaload, 1) := by decide +kernel
theorem dX4_undoLast_40 : decode cX4_undoLast 40 = .ok (.aload_n 0, 1) := by decide +kernel
theorem dX4_undoLast_41 : decode cX4_undoLast 41 = .ok (.getfield 35, 3) := by decide +kernel
theorem dX4_undoLast_44 : decode cX4_undoLast 44 = .ok (.aload_n 0, 1) := by decide +kernel
theorem dX4_undoLast_45 : decode cX4_undoLast 45 = .ok (.getfield 61, 3) := by decide +kernel
theorem dX4_undoLast_48 : decode cX4_undoLast 48 = .ok (.iaload, 1) := by decide +kernel
theorem dX4_undoLast_49 : decode cX4_undoLast 49 = .ok (.iastore, 1) := by decide +kernel
theorem dX4_undoLast_50 : decode cX4_undoLast 50 = .ok (.return_, 1) := by decide +kernel
theorem dX5_init_0 : decode cX5_init 0 = .ok (.aload_n 0, 1) := by decide +kernel
theorem dX5_init_1 : decode cX5_init 1 = .ok (.invokespecial 1, 3) := by decide +kernel
theorem dX5_init_4 : decode cX5_init 4 = .ok (.aload_n 0, 1) := by decide +kernel
theorem dX5_init_5 : decode cX5_init 5 = .ok (.new 7, 3) := by decide +kernel
theorem dX5_init_8 : decode cX5_init 8 = .ok (.dup, 1) := by decide +kernel
theorem dX5_init_9 : decode cX5_init 9 = .ok (.invokespecial 9, 3) := by decide +kernel
theorem dX5_init_12 : decode cX5_init 12 = .ok (.putfield 10, 3) := by decide +kernel
theorem dX5_init_15 : decode cX5_init 15 = .ok (.aload_n 0, 1) := by decide +kernel
theorem dX5_init_16 : decode cX5_init 16 = .ok (.new 7, 3) := by decide +kernel
theorem dX5_init_19 : decode cX5_init 19 = .ok (.dup, 1) := by decide +kernel
theorem dX5_init_20 : decode cX5_init 20 = .ok (.invokespecial 9, 3) := by decide +kernel
theorem dX5_init_23 : decode cX5_init 23 = .ok (.putfield 16, 3) := by decide +kernel
theorem dX5_init_26 : decode cX5_init 26 = .ok (.aload_n 0, 1) := by decide +kernel
theorem dX5_init_27 : decode cX5_init 27 = .ok (.iconst 2, 1) := by decide +kernel
theorem dX5_init_28 : decode cX5_init 28 = .ok (.anewarray 7, 3) := by decide +kernel
theorem dX5_init_31 : decode cX5_init 31 = .ok (.putfield 19, 3) := by decide +kernel
theorem dX5_init_34 : decode cX5_init 34 = .ok (.aload_n 0, 1) := by decide +kernel
theorem dX5_init_35 : decode cX5_init 35 = .ok (.iconst 2, 1) := by decide +kernel
theorem dX5_init_36 : decode cX5_init 36 = .ok (.newarray .boolean, 2) := by decide +kernel
theorem dX5_init_38 : decode cX5_init 38 = .ok (.putfield 23, 3) := by decide +kernel
theorem dX5_init_41 : decode cX5_init 41 = .ok (.aload_n 0, 1) := by decide +kernel
theorem dX5_init_42 : decode cX5_init 42 = .ok (.new 27, 3) := by decide +kernel
theorem dX5_init_45 : decode cX5_init 45 = .ok (.dup, 1) := by decide +kernel
theorem dX5_init_46 : decode cX5_init 46 = .ok (.invokespecial 29, 3) := by decide +kernel
theorem dX5_init_49 : decode cX5_init 49 = .ok (.putfield 30, 3) := by decide +kernel
theorem dX5_init_52 : decode cX5_init 52 = .ok (.aload_n 0, 1) := by decide +kernel
theorem dX5_init_53 : decode cX5_init 53 = .ok (.new 34, 3) := by decide +kernel
theorem dX5_init_56 : decode cX5_init 56 = .ok (.dup, 1) := by decide +kernel
theorem dX5_init_57 : decode cX5_init 57 = .ok (.invokespecial 36, 3) := by decide +kernel
theorem dX5_init_60 : decode cX5_init 60 = .ok (.putfield 37, 3) := by decide +kernel
theorem dX5_init_63 : decode cX5_init 63 = .ok (.aload_n 0, 1) := by decide +kernel
theorem dX5_init_64 : decode cX5_init 64 = .ok (.new 41, 3) := by decide +kernel
theorem dX5_init_67 : decode cX5_init 67 = .ok (.dup, 1) := by decide +kernel
theorem dX5_init_68 : decode cX5_init 68 = .ok (.invokespecial 43, 3) := by decide +kernel
theorem dX5_init_71 : decode cX5_init 71 = .ok (.putfield 44, 3) := by decide +kernel
theorem dX5_init_74 : decode cX5_init 74 = .ok (.aload_n 0, 1) := by decide +kernel
theorem dX5_init_75 : decode cX5_init 75 = .ok (.new 48, 3) := by decide +kernel
theorem dX5_init_78 : decode cX5_init 78 = .ok (.dup, 1) := by decide +kernel
theorem dX5_init_79 : decode cX5_init 79 = .ok (.invokespecial 50, 3) := by decide +kernel
theorem dX5_init_82 : decode cX5_init 82 = .ok (.putfield 51, 3) := by decide +kernel
theorem dX5_init_85 : decode cX5_init 85 = .ok (.iconst 0, 1) := by decide +kernel
theorem dX5_init_86 : decode cX5_init 86 = .ok (.istore_n 1, 1) := by decide +kernel
theorem dX5_init_87 : decode cX5_init 87 = .ok (.iload_n 1, 1) := by decide +kernel
theorem dX5_init_88 : decode cX5_init 88 = .ok (.iconst 2, 1) := by decide +kernel
theorem dX5_init_89 : decode cX5_init 89 = .ok (.if_icmp .ge 22, 3) := by decide +kernel
theorem dX5_init_92 : decode cX5_init 92 = .ok (.aload_n 0, 1) := by decide +kernel
theorem dX5_init_93 : decode cX5_init 93 = .ok (.getfield 19, 3) := by decide +kernel
theorem dX5_init_96 : decode cX5_init 96 = .ok (.iload_n 1, 1) := by decide +kernel
theorem dX5_init_97 : decode cX5_init 97 = .ok (.new 7, 3) := by decide +kernel
theorem dX5_init_100 : decode cX5_init 100 = .ok (.dup, 1) := by decide +kernel
theorem dX5_init_101 : decode cX5_init 101 = .ok (.invokespecial 9, 3) := by decide +kernel
theorem dX5_init_104 : decode cX5_init 104 = .ok (.aastore, 1) := by decide +kernel
theorem dX5_init_105 : decode cX5_init 105 = .ok (.iinc 1 1, 3) := by decide +kernel
theorem dX5_init_108 : decode cX5_init 108 = .ok (.goto (-21), 3) := by decide +kernel
theorem dX5_init_111 : decode cX5_init 111 = .ok (.aload_n 0, 1) := by decide +kernel
theorem dX5_init_112 : decode cX5_init 112 = .ok (.lconst 1, 1) := by decide +kernel
theorem dX5_init_113 : decode cX5_init 113 = .ok (.putfield 55, 3) := by decide +kernel
theorem dX5_init_116 : decode cX5_init 116 = .ok (.return_, 1) := by decide +kernel
theorem dX5_thing_0 : decode cX5_thing 0 = .ok (.iload_n 1, 1) := by decide +kernel
theorem dX5_thing_1 : decode cX5_thing 1 = .ok (.iconst (-1), 1) := by decide +kernel
theorem dX5_thing_2 : decode cX5_thing 2 = .ok (.if_icmp .eq 21, 3) := by decide +kernel
theorem dX5_thing_5 : decode cX5_thing 5 = .ok (.aload_n 0, 1) := by decide +kernel
theorem dX5_thing_6 : decode cX5_thing 6 = .ok (.getfield 10, 3) := by decide +kernel
theorem dX5_thing_9 : decode cX5_thing 9 = .ok (.iload_n 1, 1) := by decide +kernel
theorem dX5_thing_10 : decode cX5_thing 10 = .ok (.invokevirtual 59, 3) := by decide +kernel
theorem dX5_thing_13 : decode cX5_thing 13 = .ok (.ifCond .ne 10, 3) := by decide +kernel
theorem dX5_thing_16 : decode cX5_thing 16 = .ok (.aload_n 0, 1) := by decide +kernel
theorem dX5_thing_17 : decode cX5_thing 17 = .ok (.bipush (-2), 2) := by decide +kernel
theorem dX5_thing_19 : decode cX5_thing 19 = .ok (.invokevirtual 63, 3) := by decide +kernel
theorem dX5_thing_22 : decode cX5_thing 22 = .ok (.ireturn, 1) := by decide +kernel
theorem dX5_thing_23 : decode cX5_thing 23 = .ok (.aload_n 0, 1) := by decide +kernel
theorem dX5_thing_24 : decode cX5_thing 24 = .ok (.getfield 10, 3) := by decide +kernel
theorem dX5_thing_27 : decode cX5_thing 27 = .ok (.getfield 67, 3) := by decide +kernel
theorem dX5_thing_30 : decode cX5_thing 30 = .ok (.bipush 9, 2) := by decide +kernel
theorem dX5_thing_32 : decode cX5_thing 32 = .ok (.if_icmp .lt 8, 3) := by decide +kernel
theorem dX5_thing_35 : decode cX5_thing 35 = .ok (.aload_n 0, 1) := by decide +kernel
theorem dX5_thing_36 : decode cX5_thing 36 = .ok (.invokevirtual 71, 3) := by decide +kernel
theorem dX5_thing_39 : decode cX5_thing 39 = .ok (.ireturn, 1) := by decide +kernel
theorem dX5_thing_40 : decode cX5_thing 40 = .ok (.aload_n 0, 1) := by decide +kernel
theorem dX5_thing_41 : decode cX5_thing 41 = .ok (.dup, 1) := by decide +kernel
theorem dX5_thing_42 : decode cX5_thing 42 = .ok (.getfield 75, 3) := by decide +kernel
theorem dX5_thing_45 : decode cX5_thing 45 = .ok (.iconst 1, 1) := by decide +kernel
theorem dX5_thing_46 : decode cX5_thing 46 = .ok (.iadd, 1) := by decide +kernel
theorem dX5_thing_47 : decode cX5_thing 47 = .ok (.putfield 75, 3) := by decide +kernel
theorem dX5_thing_50 : decode cX5_thing 50 = .ok (.aload_n 0, 1) := by decide +kernel
theorem dX5_thing_51 : decode cX5_thing 51 = .ok (.getfield 10, 3) := by decide +kernel
theorem dX5_thing_54 : decode cX5_thing 54 = .ok (.iload_n 1, 1) := by decide +kernel
theorem dX5_thing_55 : decode cX5_thing 55 = .ok (.invokevirtual 78, 3) := by decide +kernel
theorem dX5_thing_58 : decode cX5_thing 58 = .ok (.aload_n 0, 1) := by decide +kernel
theorem dX5_thing_59 : decode cX5_thing 59 = .ok (.getfield 10, 3) := by decide +kernel
theorem dX5_thing_62 : decode cX5_thing 62 = .ok (.getfield 67, 3) := by decide +kernel
theorem dX5_thing_65 : decode cX5_thing 65 = .ok (.iconst 1, 1) := by decide +kernel
theorem dX5_thing_66 : decode cX5_thing 66 = .ok (.isub, 1) := by decide +kernel
theorem dX5_thing_67 : decode cX5_thing 67 = .ok (.ireturn, 1) := by decide +kernel
theorem dX5_town_0 : decode cX5_town 0 = .ok (.iload_n 1, 1) := by decide +kernel
theorem dX5_town_1 : decode cX5_town 1 = .ok (.iconst 1, 1) := by decide +kernel
theorem dX5_town_2 : decode cX5_town 2 = .ok (.iconst 5, 1) := by decide +kernel
theorem dX5_town_3 : decode cX5_town 3 = .ok (.invokestatic 82, 3) := by decide +kernel
theorem dX5_town_6 : decode cX5_town 6 = .ok (.ifCond .eq 12, 3) := by decide +kernel
theorem dX5_town_9 : decode cX5_town 9 = .ok (.iload_n 2, 1) := by decide +kernel
theorem dX5_town_10 : decode cX5_town 10 = .ok (.iconst 1, 1) := by decide +kernel
theorem dX5_town_11 : decode cX5_town 11 = .ok (.iconst 5, 1) := by decide +kernel
theorem dX5_town_12 : decode cX5_town 12 = .ok (.invokestatic 82, 3) := by decide +kernel
theorem dX5_town_15 : decode cX5_town 15 = .ok (.ifCond .ne 10, 3) := by decide +kernel
theorem dX5_town_18 : decode cX5_town 18 = .ok (.aload_n 0, 1) := by decide +kernel
theorem dX5_town_19 : decode cX5_town 19 = .ok (.bipush (-2), 2) := by decide +kernel
theorem dX5_town_21 : decode cX5_town 21 = .ok (.invokevirtual 63, 3) := by decide +kernel
theorem dX5_town_24 : decode cX5_town 24 = .ok (.ireturn, 1) := by decide +kernel
theorem dX5_town_25 : decode cX5_town 25 = .ok (.aload_n 0, 1) := by decide +kernel
theorem dX5_town_26 : decode cX5_town 26 = .ok (.dup, 1) := by decide +kernel
theorem dX5_town_27 : decode cX5_town 27 = .ok (.getfield 75, 3) := by decide +kernel
theorem dX5_town_30 : decode cX5_town 30 = .ok (.iconst 1, 1) := by decide +kernel
theorem dX5_town_31 : decode cX5_town 31 = .ok (.iadd, 1) := by decide +kernel
theorem dX5_town_32 : decode cX5_town 32 = .ok (.putfield 75, 3) := by decide +kernel
theorem dX5_town_35 : decode cX5_town 35 = .ok (.aload_n 0, 1) := by decide +kernel
theorem dX5_town_36 : decode cX5_town 36 = .ok (.getfield 10, 3) := by decide +kernel
theorem dX5_town_39 : decode cX5_town 39 = .ok (.iload_n 1, 1) := by decide +kernel
theorem dX5_town_40 : decode cX5_town 40 = .ok (.iload_n 2, 1) := by decide +kernel
theorem dX5_town_41 : decode cX5_town 41 = .ok (.invokevirtual 86, 3) := by decide +kernel
theorem dX5_town_44 : decode cX5_town 44 = .ok (.iconst 1, 1) := by decide +kernel
theorem dX5_town_45 : decode cX5_town 45 = .ok (.ireturn, 1) := by decide +kernel
theorem dX5_put_0 : decode cX5_put 0 = .ok (.iload_n 1, 1) := by decide +kernel
theorem dX5_put_1 : decode cX5_put 1 = .ok (.tableswitch 121 0 2 #[27, 63, 91], 27) := by decide +kernel
theorem dX5_put_28 : decode cX5_put 28 = .ok (.aload_n 0, 1) := by decide +kernel
theorem dX5_put_29 : decode cX5_put 29 = .ok (.getfield 10, 3) := by decide +kernel
theorem dX5_put_32 : decode cX5_put 32 = .ok (.iload_n 2, 1) := by decide +kernel
theorem dX5_put_33 : decode cX5_put 33 = .ok (.invokevirtual 90, 3) := by decide +kernel
theorem dX5_put_36 : decode cX5_put 36 = .ok (.ifCond .eq 21, 3) := by decide +kernel
theorem dX5_put_39 : decode cX5_put 39 = .ok (.iload_n 3, 1) := by decide +kernel
theorem dX5_put_40 : decode cX5_put 40 = .ok (.iconst 0, 1) := by decide +kernel
theorem dX5_put_41 : decode cX5_put 41 = .ok (.iconst 5, 1) := by decide +kernel
theorem dX5_put_42 : decode cX5_put 42 = .ok (.invokestatic 82, 3) := by decide +kernel
theorem dX5_put_45 : decode cX5_put 45 = .ok (.ifCond .eq 12, 3) := by decide +kernel
theorem dX5_put_48 : decode cX5_put 48 = .ok (.aload_n 0, 1) := by decide +kernel
theorem dX5_put_49 : decode cX5_put 49 = .ok (.iload_n 2, 1) := by decide +kernel
theorem dX5_put_50 : decode cX5_put 50 = .ok (.iload_n 3, 1) := by decide +kernel
theorem dX5_put_51 : decode cX5_put 51 = .ok (.invokevirtual 93, 3) := by decide +kernel
theorem dX5_put_54 : decode cX5_put 54 = .ok (.goto 9, 3) := by decide +kernel
theorem dX5_put_57 : decode cX5_put 57 = .ok (.aload_n 0, 1) := by decide +kernel
theorem dX5_put_58 : decode cX5_put 58 = .ok (.bipush (-2), 2) := by decide +kernel
theorem dX5_put_60 : decode cX5_put 60 = .ok (.invokevirtual 63, 3) := by decide +kernel
theorem dX5_put_63 : decode cX5_put 63 = .ok (.ireturn, 1) := by decide +kernel
theorem dX5_put_64 : decode cX5_put 64 = .ok (.iload_n 2, 1) := by decide +kernel
theorem dX5_put_65 : decode cX5_put 65 = .ok (.ifCond .ne 20, 3) := by decide +kernel
theorem dX5_put_68 : decode cX5_put 68 = .ok (.iload_n 3, 1) := by decide +kernel
theorem dX5_put_69 : decode cX5_put 69 = .ok (.iconst 0, 1) := by decide +kernel
theorem dX5_put_70 : decode cX5_put 70 = .ok (.iconst 4, 1) := by decide +kernel
theorem dX5_put_71 : decode cX5_put 71 = .ok (.invokestatic 82, 3) := by decide +kernel
theorem dX5_put_74 : decode cX5_put 74 = .ok (.ifCond .eq 11, 3) := by decide +kernel
theorem dX5_put_77 : decode cX5_put 77 = .ok (.aload_n 0, 1) := by decide +kernel
theorem dX5_put_78 : decode cX5_put 78 = .ok (.iload_n 3, 1) := by decide +kernel
theorem dX5_put_79 : decode cX5_put 79 = .ok (.invokevirtual 97, 3) := by decide +kernel
theorem dX5_put_82 : decode cX5_put 82 = .ok (.goto 9, 3) := by decide +kernel
theorem dX5_put_85 : decode cX5_put 85 = .ok (.aload_n 0, 1) := by decide +kernel
theorem dX5_put_86 : decode cX5_put 86 = .ok (.bipush (-2), 2) := by decide +kernel
theorem dX5_put_88 : decode cX5_put 88 = .ok (.invokevirtual 63, 3) := by decide +kernel
theorem dX5_put_91 : decode cX5_put 91 = .ok (.ireturn, 1) := by decide +kernel
theorem dX5_put_92 : decode cX5_put 92 = .ok (.iload_n 2, 1) := by decide +kernel
theorem dX5_put_93 : decode cX5_put 93 = .ok (.ifCond .ne 22, 3) := by decide +kernel
theorem dX5_put_96 : decode cX5_put 96 = .ok (.aload_n 0, 1) := by decide +kernel
theorem dX5_put_97 : decode cX5_put 97 = .ok (.getfield 10, 3) := by decide +kernel
theorem dX5_put_100 : decode cX5_put 100 = .ok (.iload_n 3, 1) := by decide +kernel
theorem dX5_put_101 : decode cX5_put 101 = .ok (.invokevirtual 100, 3) := by decide +kernel
theorem dX5_put_104 : decode cX5_put 104 = .ok (.ifCond .eq 11, 3) := by decide +kernel
theorem dX5_put_107 : decode cX5_put 107 = .ok (.aload_n 0, 1) := by decide +kernel
theorem dX5_put_108 : decode cX5_put 108 = .ok (.iload_n 3, 1) := by decide +kernel
theorem dX5_put_109 : decode cX5_put 109 = .ok (.invokevirtual 103, 3) := by decide +kernel
theorem dX5_put_112 : decode cX5_put 112 = .ok (.goto 9, 3) := by decide +kernel
theorem dX5_put_115 : decode cX5_put 115 = .ok (.aload_n 0, 1) := by decide +kernel
theorem dX5_put_116 : decode cX5_put 116 = .ok (.bipush (-2), 2) := by decide +kernel
theorem dX5_put_118 : decode cX5_put 118 = .ok (.invokevirtual 63, 3) := by decide +kernel
theorem dX5_put_121 : decode cX5_put 121 = .ok (.ireturn, 1) := by decide +kernel
theorem dX5_put_122 : decode cX5_put 122 = .ok (.aload_n 0, 1) := by decide +kernel
theorem dX5_put_123 : decode cX5_put 123 = .ok (.bipush (-2), 2) := by decide +kernel
theorem dX5_put_125 : decode cX5_put 125 = .ok (.invokevirtual 63, 3) := by decide +kernel
theorem dX5_put_128 : decode cX5_put 128 = .ok (.ireturn, 1) := by decide +kernel
theorem dX5_does_0 : decode cX5_does 0 = .ok (.iload_n 3, 1) := by decide +kernel
theorem dX5_does_1 : decode cX5_does 1 = .ok (.iconst (-1), 1) := by decide +kernel
theorem dX5_does_2 : decode cX5_does 2 = .ok (.if_icmp .eq 14, 3) := by decide +kernel
theorem dX5_does_5 : decode cX5_does 5 = .ok (.aload_n 0, 1) := by decide +kernel
theorem dX5_does_6 : decode cX5_does 6 = .ok (.getfield 10, 3) := by decide +kernel
theorem dX5_does_9 : decode cX5_does 9 = .ok (.iload_n 3, 1) := by decide +kernel
theorem dX5_does_10 : decode cX5_does 10 = .ok (.invokevirtual 59, 3) := by decide +kernel
theorem dX5_does_13 : decode cX5_does 13 = .ok (.ifCond .eq 7, 3) := by decide +kernel
theorem dX5_does_16 : decode cX5_does 16 = .ok (.iconst 1, 1) := by decide +kernel
theorem dX5_does_17 : decode cX5_does 17 = .ok (.goto 4, 3) := by decide +kernel
theorem dX5_does_20 : decode cX5_does 20 = .ok (.iconst 0, 1) := by decide +kernel
theorem dX5_does_21 : decode cX5_does 21 = .ok (.istore 4, 2) := by decide +kernel
theorem dX5_does_23 : decode cX5_does 23 = .ok (.iload 4, 2) := by decide +kernel
theorem dX5_does_25 : decode cX5_does 25 = .ok (.ifCond .eq 25, 3) := by decide +kernel
theorem dX5_does_28 : decode cX5_does 28 = .ok (.aload_n 0, 1) := by decide +kernel
theorem dX5_does_29 : decode cX5_does 29 = .ok (.getfield 10, 3) := by decide +kernel
theorem dX5_does_32 : decode cX5_does 32 = .ok (.iload_n 1, 1) := by decide +kernel
theorem dX5_does_33 : decode cX5_does 33 = .ok (.invokevirtual 100, 3) := by decide +kernel
theorem dX5_does_36 : decode cX5_does 36 = .ok (.ifCond .eq 14, 3) := by decide +kernel
theorem dX5_does_39 : decode cX5_does 39 = .ok (.aload_n 0, 1) := by decide +kernel
theorem dX5_does_40 : decode cX5_does 40 = .ok (.getfield 10, 3) := by decide +kernel
theorem dX5_does_43 : decode cX5_does 43 = .ok (.iload_n 2, 1) := by decide +kernel
theorem dX5_does_44 : decode cX5_does 44 = .ok (.invokevirtual 90, 3) := by decide +kernel
theorem dX5_does_47 : decode cX5_does 47 = .ok (.ifCond .ne 10, 3) := by decide +kernel
theorem dX5_does_50 : decode cX5_does 50 = .ok (.aload_n 0, 1) := by decide +kernel
theorem dX5_does_51 : decode cX5_does 51 = .ok (.bipush (-10), 2) := by decide +kernel
theorem dX5_does_53 : decode cX5_does 53 = .ok (.invokevirtual 63, 3) := by decide +kernel
theorem dX5_does_56 : decode cX5_does 56 = .ok (.ireturn, 1) := by decide +kernel
theorem dX5_does_57 : decode cX5_does 57 = .ok (.aload_n 0, 1) := by decide +kernel
theorem dX5_does_58 : decode cX5_does 58 = .ok (.dup, 1) := by decide +kernel
theorem dX5_does_59 : decode cX5_does 59 = .ok (.getfield 75, 3) := by decide +kernel
theorem dX5_does_62 : decode cX5_does 62 = .ok (.iconst 1, 1) := by decide +kernel
theorem dX5_does_63 : decode cX5_does 63 = .ok (.iadd, 1) := by decide +kernel
theorem dX5_does_64 : decode cX5_does 64 = .ok (.putfield 75, 3) := by decide +kernel
theorem dX5_does_67 : decode cX5_does 67 = .ok (.aload_n 0, 1) := by decide +kernel
theorem dX5_does_68 : decode cX5_does 68 = .ok (.getfield 10, 3) := by decide +kernel
theorem dX5_does_71 : decode cX5_does 71 = .ok (.getfield 106, 3) := by decide +kernel
theorem dX5_does_74 : decode cX5_does 74 = .ok (.iload_n 2, 1) := by decide +kernel
theorem dX5_does_75 : decode cX5_does 75 = .ok (.aaload, 1) := by decide +kernel
theorem dX5_does_76 : decode cX5_does 76 = .ok (.iload_n 1, 1) := by decide +kernel
theorem dX5_does_77 : decode cX5_does 77 = .ok (.iaload, 1) := by decide +kernel
theorem dX5_does_78 : decode cX5_does 78 = .ok (.istore 5, 2) := by decide +kernel
theorem dX5_does_80 : decode cX5_does 80 = .ok (.aload_n 0, 1) := by decide +kernel
theorem dX5_does_81 : decode cX5_does 81 = .ok (.getfield 10, 3) := by decide +kernel
theorem dX5_does_84 : decode cX5_does 84 = .ok (.iload_n 1, 1) := by decide +kernel
theorem dX5_does_85 : decode cX5_does 85 = .ok (.iload_n 2, 1) := by decide +kernel
theorem dX5_does_86 : decode cX5_does 86 = .ok (.iload 5, 2) := by decide +kernel
theorem dX5_does_88 : decode cX5_does 88 = .ok (.invokevirtual 110, 3) := by decide +kernel
theorem dX5_does_91 : decode cX5_does 91 = .ok (.aload_n 0, 1) := by decide +kernel
theorem dX5_does_92 : decode cX5_does 92 = .ok (.getfield 10, 3) := by decide +kernel
theorem dX5_does_95 : decode cX5_does 95 = .ok (.getfield 106, 3) := by decide +kernel
theorem dX5_does_98 : decode cX5_does 98 = .ok (.iload_n 2, 1) := by decide +kernel
theorem dX5_does_99 : decode cX5_does 99 = .ok (.aaload, 1) := by decide +kernel
theorem dX5_does_100 : decode cX5_does 100 = .ok (.iload_n 1, 1) := by decide +kernel
theorem dX5_does_101 : decode cX5_does 101 = .ok (.iload_n 3, 1) := by decide +kernel
theorem dX5_does_102 : decode cX5_does 102 = .ok (.iconst (-1), 1) := by decide +kernel
theorem dX5_does_103 : decode cX5_does 103 = .ok (.if_icmp .ne 8, 3) := by decide +kernel
theorem dX5_does_106 : decode cX5_does 106 = .ok (.bipush 9, 2) := by decide +kernel
theorem dX5_does_108 : decode cX5_does 108 = .ok (.goto 4, 3) := by decide +kernel
theorem dX5_does_111 : decode cX5_does 111 = .ok (.iload_n 3, 1) := by decide +kernel
theorem dX5_does_112 : decode cX5_does 112 = .ok (.iastore, 1) := by decide +kernel
theorem dX5_does_113 : decode cX5_does 113 = .ok (.iload 5, 2) := by decide +kernel
theorem dX5_does_115 : decode cX5_does 115 = .ok (.invokestatic 114, 3) := by decide +kernel
theorem dX5_does_118 : decode cX5_does 118 = .ok (.ireturn, 1) := by decide +kernel
theorem dX5_undo_0 : decode cX5_undo 0 = .ok (.aload_n 0, 1) := by decide +kernel
theorem dX5_undo_1 : decode cX5_undo 1 = .ok (.getfield 10, 3) := by decide +kernel
theorem dX5_undo_4 : decode cX5_undo 4 = .ok (.getfield 117, 3) := by decide +kernel
theorem dX5_undo_7 : decode cX5_undo 7 = .ok (.iconst 1, 1) := by decide +kernel
theorem dX5_undo_8 : decode cX5_undo 8 = .ok (.if_icmp .ge 8, 3) := by decide +kernel
theorem dX5_undo_11 : decode cX5_undo 11 = .ok (.aload_n 0, 1) := by decide +kernel
theorem dX5_undo_12 : decode cX5_undo 12 = .ok (.invokevirtual 120, 3) := by decide +kernel
theorem dX5_undo_15 : decode cX5_undo 15 = .ok (.ireturn, 1) := by decide +kernel
theorem dX5_undo_16 : decode cX5_undo 16 = .ok (.aload_n 0, 1) := by decide +kernel
theorem dX5_undo_17 : decode cX5_undo 17 = .ok (.dup, 1) := by decide +kernel
theorem dX5_undo_18 : decode cX5_undo 18 = .ok (.getfield 75, 3) := by decide +kernel
theorem dX5_undo_21 : decode cX5_undo 21 = .ok (.iconst 1, 1) := by decide +kernel
theorem dX5_undo_22 : decode cX5_undo 22 = .ok (.iadd, 1) := by decide +kernel
theorem dX5_undo_23 : decode cX5_undo 23 = .ok (.putfield 75, 3) := by decide +kernel
theorem dX5_undo_26 : decode cX5_undo 26 = .ok (.aload_n 0, 1) := by decide +kernel
theorem dX5_undo_27 : decode cX5_undo 27 = .ok (.getfield 10, 3) := by decide +kernel
theorem dX5_undo_30 : decode cX5_undo 30 = .ok (.invokevirtual 123, 3) := by decide +kernel
theorem dX5_undo_33 : decode cX5_undo 33 = .ok (.iconst 1, 1) := by decide +kernel
theorem dX5_undo_34 : decode cX5_undo 34 = .ok (.ireturn, 1) := by decide +kernel
theorem dX5_need_0 : decode cX5_need 0 = .ok (.aload_n 0, 1) := by decide +kernel
theorem dX5_need_1 : decode cX5_need 1 = .ok (.getfield 10, 3) := by decide +kernel
theorem dX5_need_4 : decode cX5_need 4 = .ok (.iload_n 1, 1) := by decide +kernel
theorem dX5_need_5 : decode cX5_need 5 = .ok (.invokevirtual 100, 3) := by decide +kernel
theorem dX5_need_8 : decode cX5_need 8 = .ok (.ifCond .eq 31, 3) := by decide +kernel
theorem dX5_need_11 : decode cX5_need 11 = .ok (.aload_n 0, 1) := by decide +kernel
theorem dX5_need_12 : decode cX5_need 12 = .ok (.getfield 10, 3) := by decide +kernel
theorem dX5_need_15 : decode cX5_need 15 = .ok (.iload_n 2, 1) := by decide +kernel
theorem dX5_need_16 : decode cX5_need 16 = .ok (.invokevirtual 59, 3) := by decide +kernel
theorem dX5_need_19 : decode cX5_need 19 = .ok (.ifCond .eq 20, 3) := by decide +kernel
theorem dX5_need_22 : decode cX5_need 22 = .ok (.iload_n 3, 1) := by decide +kernel
theorem dX5_need_23 : decode cX5_need 23 = .ok (.iconst 0, 1) := by decide +kernel
theorem dX5_need_24 : decode cX5_need 24 = .ok (.aload_n 0, 1) := by decide +kernel
theorem dX5_need_25 : decode cX5_need 25 = .ok (.getfield 10, 3) := by decide +kernel
theorem dX5_need_28 : decode cX5_need 28 = .ok (.iload_n 1, 1) := by decide +kernel
theorem dX5_need_29 : decode cX5_need 29 = .ok (.iload_n 2, 1) := by decide +kernel
theorem dX5_need_30 : decode cX5_need 30 = .ok (.invokevirtual 126, 3) := by decide +kernel
theorem dX5_need_33 : decode cX5_need 33 = .ok (.invokestatic 82, 3) := by decide +kernel
theorem dX5_need_36 : decode cX5_need 36 = .ok (.ifCond .ne 10, 3) := by decide +kernel
theorem dX5_need_39 : decode cX5_need 39 = .ok (.aload_n 0, 1) := by decide +kernel
theorem dX5_need_40 : decode cX5_need 40 = .ok (.bipush (-2), 2) := by decide +kernel
theorem dX5_need_42 : decode cX5_need 42 = .ok (.invokevirtual 63, 3) := by decide +kernel
theorem dX5_need_45 : decode cX5_need 45 = .ok (.ireturn, 1) := by decide +kernel
theorem dX5_need_46 : decode cX5_need 46 = .ok (.aload_n 0, 1) := by decide +kernel
theorem dX5_need_47 : decode cX5_need 47 = .ok (.dup, 1) := by decide +kernel
theorem dX5_need_48 : decode cX5_need 48 = .ok (.getfield 75, 3) := by decide +kernel
theorem dX5_need_51 : decode cX5_need 51 = .ok (.iconst 1, 1) := by decide +kernel
theorem dX5_need_52 : decode cX5_need 52 = .ok (.iadd, 1) := by decide +kernel
theorem dX5_need_53 : decode cX5_need 53 = .ok (.putfield 75, 3) := by decide +kernel
theorem dX5_need_56 : decode cX5_need 56 = .ok (.aload_n 0, 1) := by decide +kernel
theorem dX5_need_57 : decode cX5_need 57 = .ok (.getfield 10, 3) := by decide +kernel
theorem dX5_need_60 : decode cX5_need 60 = .ok (.getfield 129, 3) := by decide +kernel
theorem dX5_need_63 : decode cX5_need 63 = .ok (.iload_n 1, 1) := by decide +kernel
theorem dX5_need_64 : decode cX5_need 64 = .ok (.aaload, 1) := by decide +kernel
theorem dX5_need_65 : decode cX5_need 65 = .ok (.iload_n 2, 1) := by decide +kernel
theorem dX5_need_66 : decode cX5_need 66 = .ok (.iaload, 1) := by decide +kernel
theorem dX5_need_67 : decode cX5_need 67 = .ok (.istore 4, 2) := by decide +kernel
theorem dX5_need_69 : decode cX5_need 69 = .ok (.aload_n 0, 1) := by decide +kernel
theorem dX5_need_70 : decode cX5_need 70 = .ok (.getfield 10, 3) := by decide +kernel
theorem dX5_need_73 : decode cX5_need 73 = .ok (.getfield 129, 3) := by decide +kernel
theorem dX5_need_76 : decode cX5_need 76 = .ok (.iload_n 1, 1) := by decide +kernel
theorem dX5_need_77 : decode cX5_need 77 = .ok (.aaload, 1) := by decide +kernel
theorem dX5_need_78 : decode cX5_need 78 = .ok (.iload_n 2, 1) := by decide +kernel
theorem dX5_need_79 : decode cX5_need 79 = .ok (.iload_n 3, 1) := by decide +kernel
theorem dX5_need_80 : decode cX5_need 80 = .ok (.iastore, 1) := by decide +kernel
theorem dX5_need_81 : decode cX5_need 81 = .ok (.iload 4, 2) := by decide +kernel
theorem dX5_need_83 : decode cX5_need 83 = .ok (.ireturn, 1) := by decide +kernel
theorem dX5_type_0 : decode cX5_type 0 = .ok (.iload_n 3, 1) := by decide +kernel
theorem dX5_type_1 : decode cX5_type 1 = .ok (.iconst 1, 1) := by decide +kernel
theorem dX5_type_2 : decode cX5_type 2 = .ok (.bipush 8, 2) := by decide +kernel
theorem dX5_type_4 : decode cX5_type 4 = .ok (.invokestatic 82, 3) := by decide +kernel
theorem dX5_type_7 : decode cX5_type 7 = .ok (.ifCond .ne 10, 3) := by decide +kernel
theorem dX5_type_10 : decode cX5_type 10 = .ok (.aload_n 0, 1) := by decide +kernel
theorem dX5_type_11 : decode cX5_type 11 = .ok (.bipush (-2), 2) := by decide +kernel
theorem dX5_type_13 : decode cX5_type 13 = .ok (.invokevirtual 63, 3) := by decide +kernel
theorem dX5_type_16 : decode cX5_type 16 = .ok (.ireturn, 1) := by decide +kernel
theorem dX5_type_17 : decode cX5_type 17 = .ok (.aload_n 0, 1) := by decide +kernel
theorem dX5_type_18 : decode cX5_type 18 = .ok (.getfield 30, 3) := by decide +kernel
theorem dX5_type_21 : decode cX5_type 21 = .ok (.getfield 132, 3) := by decide +kernel
theorem dX5_type_24 : decode cX5_type 24 = .ok (.iload_n 3, 1) := by decide +kernel
theorem dX5_type_25 : decode cX5_type 25 = .ok (.iadd, 1) := by decide +kernel
theorem dX5_type_26 : decode cX5_type 26 = .ok (.sipush 250, 3) := by decide +kernel
theorem dX5_type_29 : decode cX5_type 29 = .ok (.if_icmp .le 8, 3) := by decide +kernel
theorem dX5_type_32 : decode cX5_type 32 = .ok (.aload_n 0, 1) := by decide +kernel
theorem dX5_type_33 : decode cX5_type 33 = .ok (.invokevirtual 71, 3) := by decide +kernel
theorem dX5_type_36 : decode cX5_type 36 = .ok (.ireturn, 1) := by decide +kernel
theorem dX5_type_37 : decode cX5_type 37 = .ok (.iload_n 3, 1) := by decide +kernel
theorem dX5_type_38 : decode cX5_type 38 = .ok (.iconst 1, 1) := by decide +kernel
theorem dX5_type_39 : decode cX5_type 39 = .ok (.isub, 1) := by decide +kernel
theorem dX5_type_40 : decode cX5_type 40 = .ok (.istore 4, 2) := by decide +kernel
theorem dX5_type_42 : decode cX5_type 42 = .ok (.iload 4, 2) := by decide +kernel
theorem dX5_type_44 : decode cX5_type 44 = .ok (.ifCond .lt 25, 3) := by decide +kernel
theorem dX5_type_47 : decode cX5_type 47 = .ok (.aload_n 0, 1) := by decide +kernel
theorem dX5_type_48 : decode cX5_type 48 = .ok (.getfield 30, 3) := by decide +kernel
theorem dX5_type_51 : decode cX5_type 51 = .ok (.lload_n 1, 1) := by decide +kernel
theorem dX5_type_52 : decode cX5_type 52 = .ok (.bipush 8, 2) := by decide +kernel
theorem dX5_type_54 : decode cX5_type 54 = .ok (.iload 4, 2) := by decide +kernel
theorem dX5_type_56 : decode cX5_type 56 = .ok (.imul, 1) := by decide +kernel
theorem dX5_type_57 : decode cX5_type 57 = .ok (.lushr, 1) := by decide +kernel
theorem dX5_type_58 : decode cX5_type 58 = .ok (.l2i, 1) := by decide +kernel
theorem dX5_type_59 : decode cX5_type 59 = .ok (.i2b, 1) := by decide +kernel
theorem dX5_type_60 : decode cX5_type 60 = .ok (.invokevirtual 135, 3) := by decide +kernel
theorem dX5_type_63 : decode cX5_type 63 = .ok (.iinc 4 (-1), 3) := by decide +kernel
theorem dX5_type_66 : decode cX5_type 66 = .ok (.goto (-24), 3) := by decide +kernel
theorem dX5_type_69 : decode cX5_type 69 = .ok (.aload_n 0, 1) := by decide +kernel
theorem dX5_type_70 : decode cX5_type 70 = .ok (.getfield 30, 3) := by decide +kernel
theorem dX5_type_73 : decode cX5_type 73 = .ok (.getfield 132, 3) := by decide +kernel
theorem dX5_type_76 : decode cX5_type 76 = .ok (.ireturn, 1) := by decide +kernel
theorem dX5_clear_0 : decode cX5_clear 0 = .ok (.aload_n 0, 1) := by decide +kernel
theorem dX5_clear_1 : decode cX5_clear 1 = .ok (.getfield 30, 3) := by decide +kernel
theorem dX5_clear_4 : decode cX5_clear 4 = .ok (.getfield 132, 3) := by decide +kernel
theorem dX5_clear_7 : decode cX5_clear 7 = .ok (.istore_n 1, 1) := by decide +kernel
theorem dX5_clear_8 : decode cX5_clear 8 = .ok (.aload_n 0, 1) := by decide +kernel
theorem dX5_clear_9 : decode cX5_clear 9 = .ok (.getfield 30, 3) := by decide +kernel
theorem dX5_clear_12 : decode cX5_clear 12 = .ok (.iconst 0, 1) := by decide +kernel
theorem dX5_clear_13 : decode cX5_clear 13 = .ok (.putfield 132, 3) := by decide +kernel
theorem dX5_clear_16 : decode cX5_clear 16 = .ok (.iload_n 1, 1) := by decide +kernel
theorem dX5_clear_17 : decode cX5_clear 17 = .ok (.ireturn, 1) := by decide +kernel
theorem dX5_read_0 : decode cX5_read 0 = .ok (.aload_n 0, 1) := by decide +kernel
theorem dX5_read_1 : decode cX5_read 1 = .ok (.getfield 30, 3) := by decide +kernel
theorem dX5_read_4 : decode cX5_read 4 = .ok (.aload_n 0, 1) := by decide +kernel
theorem dX5_read_5 : decode cX5_read 5 = .ok (.getfield 16, 3) := by decide +kernel
theorem dX5_read_8 : decode cX5_read 8 = .ok (.invokevirtual 139, 3) := by decide +kernel
theorem dX5_read_11 : decode cX5_read 11 = .ok (.istore_n 1, 1) := by decide +kernel
theorem dX5_read_12 : decode cX5_read 12 = .ok (.iload_n 1, 1) := by decide +kernel
theorem dX5_read_13 : decode cX5_read 13 = .ok (.ifCond .lt 24, 3) := by decide +kernel
theorem dX5_read_16 : decode cX5_read 16 = .ok (.aload_n 0, 1) := by decide +kernel
theorem dX5_read_17 : decode cX5_read 17 = .ok (.dup, 1) := by decide +kernel
theorem dX5_read_18 : decode cX5_read 18 = .ok (.getfield 75, 3) := by decide +kernel
theorem dX5_read_21 : decode cX5_read 21 = .ok (.iconst 1, 1) := by decide +kernel
theorem dX5_read_22 : decode cX5_read 22 = .ok (.iadd, 1) := by decide +kernel
theorem dX5_read_23 : decode cX5_read 23 = .ok (.putfield 75, 3) := by decide +kernel
theorem dX5_read_26 : decode cX5_read 26 = .ok (.aload_n 0, 1) := by decide +kernel
theorem dX5_read_27 : decode cX5_read 27 = .ok (.getfield 10, 3) := by decide +kernel
theorem dX5_read_30 : decode cX5_read 30 = .ok (.aload_n 0, 1) := by decide +kernel
theorem dX5_read_31 : decode cX5_read 31 = .ok (.getfield 16, 3) := by decide +kernel
theorem dX5_read_34 : decode cX5_read 34 = .ok (.invokevirtual 143, 3) := by decide +kernel
theorem dX5_read_37 : decode cX5_read 37 = .ok (.iload_n 1, 1) := by decide +kernel
theorem dX5_read_38 : decode cX5_read 38 = .ok (.ireturn, 1) := by decide +kernel
theorem dX5_at_0 : decode cX5_at 0 = .ok (.aload_n 0, 1) := by decide +kernel
theorem dX5_at_1 : decode cX5_at 1 = .ok (.getfield 10, 3) := by decide +kernel
theorem dX5_at_4 : decode cX5_at 4 = .ok (.iload_n 1, 1) := by decide +kernel
theorem dX5_at_5 : decode cX5_at 5 = .ok (.invokevirtual 59, 3) := by decide +kernel
theorem dX5_at_8 : decode cX5_at 8 = .ok (.ifCond .ne 10, 3) := by decide +kernel
theorem dX5_at_11 : decode cX5_at 11 = .ok (.aload_n 0, 1) := by decide +kernel
theorem dX5_at_12 : decode cX5_at 12 = .ok (.bipush (-2), 2) := by decide +kernel
theorem dX5_at_14 : decode cX5_at 14 = .ok (.invokevirtual 63, 3) := by decide +kernel
theorem dX5_at_17 : decode cX5_at 17 = .ok (.ireturn, 1) := by decide +kernel
theorem dX5_at_18 : decode cX5_at 18 = .ok (.aload_n 0, 1) := by decide +kernel
theorem dX5_at_19 : decode cX5_at 19 = .ok (.getfield 37, 3) := by decide +kernel
theorem dX5_at_22 : decode cX5_at 22 = .ok (.aload_n 0, 1) := by decide +kernel
theorem dX5_at_23 : decode cX5_at 23 = .ok (.getfield 10, 3) := by decide +kernel
theorem dX5_at_26 : decode cX5_at 26 = .ok (.aload_n 0, 1) := by decide +kernel
theorem dX5_at_27 : decode cX5_at 27 = .ok (.getfield 10, 3) := by decide +kernel
theorem dX5_at_30 : decode cX5_at 30 = .ok (.getfield 147, 3) := by decide +kernel
theorem dX5_at_33 : decode cX5_at 33 = .ok (.iconst (-1), 1) := by decide +kernel
theorem dX5_at_34 : decode cX5_at 34 = .ok (.invokevirtual 150, 3) := by decide +kernel
theorem dX5_at_37 : decode cX5_at 37 = .ok (.aload_n 0, 1) := by decide +kernel
theorem dX5_at_38 : decode cX5_at 38 = .ok (.getfield 37, 3) := by decide +kernel
theorem dX5_at_41 : decode cX5_at 41 = .ok (.getfield 154, 3) := by decide +kernel
theorem dX5_at_44 : decode cX5_at 44 = .ok (.iload_n 1, 1) := by decide +kernel
theorem dX5_at_45 : decode cX5_at 45 = .ok (.iaload, 1) := by decide +kernel
theorem dX5_at_46 : decode cX5_at 46 = .ok (.ireturn, 1) := by decide +kernel
theorem dX5_pays_0 : decode cX5_pays 0 = .ok (.aload_n 0, 1) := by decide +kernel
theorem dX5_pays_1 : decode cX5_pays 1 = .ok (.getfield 10, 3) := by decide +kernel
theorem dX5_pays_4 : decode cX5_pays 4 = .ok (.iload_n 1, 1) := by decide +kernel
theorem dX5_pays_5 : decode cX5_pays 5 = .ok (.invokevirtual 100, 3) := by decide +kernel
theorem dX5_pays_8 : decode cX5_pays 8 = .ok (.ifCond .eq 14, 3) := by decide +kernel
theorem dX5_pays_11 : decode cX5_pays 11 = .ok (.aload_n 0, 1) := by decide +kernel
theorem dX5_pays_12 : decode cX5_pays 12 = .ok (.getfield 10, 3) := by decide +kernel
theorem dX5_pays_15 : decode cX5_pays 15 = .ok (.iload_n 2, 1) := by decide +kernel
theorem dX5_pays_16 : decode cX5_pays 16 = .ok (.invokevirtual 90, 3) := by decide +kernel
theorem dX5_pays_19 : decode cX5_pays 19 = .ok (.ifCond .ne 10, 3) := by decide +kernel
theorem dX5_pays_22 : decode cX5_pays 22 = .ok (.aload_n 0, 1) := by decide +kernel
theorem dX5_pays_23 : decode cX5_pays 23 = .ok (.bipush (-2), 2) := by decide +kernel
theorem dX5_pays_25 : decode cX5_pays 25 = .ok (.invokevirtual 63, 3) := by decide +kernel
theorem dX5_pays_28 : decode cX5_pays 28 = .ok (.ireturn, 1) := by decide +kernel
theorem dX5_pays_29 : decode cX5_pays 29 = .ok (.aload_n 0, 1) := by decide +kernel
theorem dX5_pays_30 : decode cX5_pays 30 = .ok (.getfield 37, 3) := by decide +kernel
theorem dX5_pays_33 : decode cX5_pays 33 = .ok (.aload_n 0, 1) := by decide +kernel
theorem dX5_pays_34 : decode cX5_pays 34 = .ok (.getfield 10, 3) := by decide +kernel
theorem dX5_pays_37 : decode cX5_pays 37 = .ok (.aload_n 0, 1) := by decide +kernel
theorem dX5_pays_38 : decode cX5_pays 38 = .ok (.getfield 10, 3) := by decide +kernel
theorem dX5_pays_41 : decode cX5_pays 41 = .ok (.getfield 147, 3) := by decide +kernel
theorem dX5_pays_44 : decode cX5_pays 44 = .ok (.iconst (-1), 1) := by decide +kernel
theorem dX5_pays_45 : decode cX5_pays 45 = .ok (.invokevirtual 150, 3) := by decide +kernel
theorem dX5_pays_48 : decode cX5_pays 48 = .ok (.aload_n 0, 1) := by decide +kernel
theorem dX5_pays_49 : decode cX5_pays 49 = .ok (.getfield 37, 3) := by decide +kernel
theorem dX5_pays_52 : decode cX5_pays 52 = .ok (.aload_n 0, 1) := by decide +kernel
theorem dX5_pays_53 : decode cX5_pays 53 = .ok (.getfield 10, 3) := by decide +kernel
theorem dX5_pays_56 : decode cX5_pays 56 = .ok (.iload_n 2, 1) := by decide +kernel
theorem dX5_pays_57 : decode cX5_pays 57 = .ok (.iload_n 1, 1) := by decide +kernel
theorem dX5_pays_58 : decode cX5_pays 58 = .ok (.aload_n 0, 1) := by decide +kernel
theorem dX5_pays_59 : decode cX5_pays 59 = .ok (.getfield 10, 3) := by decide +kernel
theorem dX5_pays_62 : decode cX5_pays 62 = .ok (.getfield 106, 3) := by decide +kernel
theorem dX5_pays_65 : decode cX5_pays 65 = .ok (.iload_n 2, 1) := by decide +kernel
theorem dX5_pays_66 : decode cX5_pays 66 = .ok (.aaload, 1) := by decide +kernel
theorem dX5_pays_67 : decode cX5_pays 67 = .ok (.iload_n 1, 1) := by decide +kernel
theorem dX5_pays_68 : decode cX5_pays 68 = .ok (.iaload, 1) := by decide +kernel
theorem dX5_pays_69 : decode cX5_pays 69 = .ok (.invokevirtual 158, 3) := by decide +kernel
theorem dX5_pays_72 : decode cX5_pays 72 = .ok (.ireturn, 1) := by decide +kernel
theorem dX5_all_0 : decode cX5_all 0 = .ok (.aload_n 0, 1) := by decide +kernel
theorem dX5_all_1 : decode cX5_all 1 = .ok (.iconst (-1), 1) := by decide +kernel
theorem dX5_all_2 : decode cX5_all 2 = .ok (.invokevirtual 162, 3) := by decide +kernel
theorem dX5_all_5 : decode cX5_all 5 = .ok (.ireturn, 1) := by decide +kernel
theorem dX5_least_0 : decode cX5_least 0 = .ok (.iload_n 1, 1) := by decide +kernel
theorem dX5_least_1 : decode cX5_least 1 = .ok (.iconst (-1), 1) := by decide +kernel
theorem dX5_least_2 : decode cX5_least 2 = .ok (.if_icmp .ne 11, 3) := by decide +kernel
theorem dX5_least_5 : decode cX5_least 5 = .ok (.iload_n 2, 1) := by decide +kernel
theorem dX5_least_6 : decode cX5_least 6 = .ok (.ifCond .ne 7, 3) := by decide +kernel
theorem dX5_least_9 : decode cX5_least 9 = .ok (.iconst 1, 1) := by decide +kernel
theorem dX5_least_10 : decode cX5_least 10 = .ok (.goto 4, 3) := by decide +kernel
theorem dX5_least_13 : decode cX5_least 13 = .ok (.iconst 0, 1) := by decide +kernel
theorem dX5_least_14 : decode cX5_least 14 = .ok (.istore_n 3, 1) := by decide +kernel
theorem dX5_least_15 : decode cX5_least 15 = .ok (.aload_n 0, 1) := by decide +kernel
theorem dX5_least_16 : decode cX5_least 16 = .ok (.getfield 10, 3) := by decide +kernel
theorem dX5_least_19 : decode cX5_least 19 = .ok (.iload_n 1, 1) := by decide +kernel
theorem dX5_least_20 : decode cX5_least 20 = .ok (.invokevirtual 100, 3) := by decide +kernel
theorem dX5_least_23 : decode cX5_least 23 = .ok (.ifCond .eq 18, 3) := by decide +kernel
theorem dX5_least_26 : decode cX5_least 26 = .ok (.aload_n 0, 1) := by decide +kernel
theorem dX5_least_27 : decode cX5_least 27 = .ok (.getfield 10, 3) := by decide +kernel
theorem dX5_least_30 : decode cX5_least 30 = .ok (.iload_n 2, 1) := by decide +kernel
theorem dX5_least_31 : decode cX5_least 31 = .ok (.invokevirtual 90, 3) := by decide +kernel
theorem dX5_least_34 : decode cX5_least 34 = .ok (.ifCond .eq 7, 3) := by decide +kernel
theorem dX5_least_37 : decode cX5_least 37 = .ok (.iconst 1, 1) := by decide +kernel
theorem dX5_least_38 : decode cX5_least 38 = .ok (.goto 4, 3) := by decide +kernel
theorem dX5_least_41 : decode cX5_least 41 = .ok (.iconst 0, 1) := by decide +kernel
theorem dX5_least_42 : decode cX5_least 42 = .ok (.istore 4, 2) := by decide +kernel
theorem dX5_least_44 : decode cX5_least 44 = .ok (.iload_n 3, 1) := by decide +kernel
theorem dX5_least_45 : decode cX5_least 45 = .ok (.ifCond .ne 15, 3) := by decide +kernel
theorem dX5_least_48 : decode cX5_least 48 = .ok (.iload 4, 2) := by decide +kernel
theorem dX5_least_50 : decode cX5_least 50 = .ok (.ifCond .ne 10, 3) := by decide +kernel
theorem dX5_least_53 : decode cX5_least 53 = .ok (.aload_n 0, 1) := by decide +kernel
theorem dX5_least_54 : decode cX5_least 54 = .ok (.bipush (-2), 2) := by decide +kernel
theorem dX5_least_56 : decode cX5_least 56 = .ok (.invokevirtual 63, 3) := by decide +kernel
theorem dX5_least_59 : decode cX5_least 59 = .ok (.ireturn, 1) := by decide +kernel
theorem dX5_least_60 : decode cX5_least 60 = .ok (.aload_n 0, 1) := by decide +kernel
theorem dX5_least_61 : decode cX5_least 61 = .ok (.getfield 37, 3) := by decide +kernel
theorem dX5_least_64 : decode cX5_least 64 = .ok (.aload_n 0, 1) := by decide +kernel
theorem dX5_least_65 : decode cX5_least 65 = .ok (.getfield 10, 3) := by decide +kernel
theorem dX5_least_68 : decode cX5_least 68 = .ok (.aload_n 0, 1) := by decide +kernel
theorem dX5_least_69 : decode cX5_least 69 = .ok (.getfield 10, 3) := by decide +kernel
theorem dX5_least_72 : decode cX5_least 72 = .ok (.getfield 147, 3) := by decide +kernel
theorem dX5_least_75 : decode cX5_least 75 = .ok (.iconst (-1), 1) := by decide +kernel
theorem dX5_least_76 : decode cX5_least 76 = .ok (.invokevirtual 150, 3) := by decide +kernel
theorem dX5_least_79 : decode cX5_least 79 = .ok (.aload_n 0, 1) := by decide +kernel
theorem dX5_least_80 : decode cX5_least 80 = .ok (.getfield 44, 3) := by decide +kernel
theorem dX5_least_83 : decode cX5_least 83 = .ok (.aload_n 0, 1) := by decide +kernel
theorem dX5_least_84 : decode cX5_least 84 = .ok (.getfield 10, 3) := by decide +kernel
theorem dX5_least_87 : decode cX5_least 87 = .ok (.aload_n 0, 1) := by decide +kernel
theorem dX5_least_88 : decode cX5_least 88 = .ok (.getfield 37, 3) := by decide +kernel
theorem dX5_least_91 : decode cX5_least 91 = .ok (.aload_n 0, 1) := by decide +kernel
theorem dX5_least_92 : decode cX5_least 92 = .ok (.getfield 75, 3) := by decide +kernel
theorem dX5_least_95 : decode cX5_least 95 = .ok (.invokevirtual 165, 3) := by decide +kernel
theorem dX5_least_98 : decode cX5_least 98 = .ok (.ifCond .ne 8, 3) := by decide +kernel
theorem dX5_least_101 : decode cX5_least 101 = .ok (.aload_n 0, 1) := by decide +kernel
theorem dX5_least_102 : decode cX5_least 102 = .ok (.invokevirtual 120, 3) := by decide +kernel
theorem dX5_least_105 : decode cX5_least 105 = .ok (.ireturn, 1) := by decide +kernel
theorem dX5_least_106 : decode cX5_least 106 = .ok (.iload_n 3, 1) := by decide +kernel
theorem dX5_least_107 : decode cX5_least 107 = .ok (.ifCond .eq 13, 3) := by decide +kernel
theorem dX5_least_110 : decode cX5_least 110 = .ok (.aload_n 0, 1) := by decide +kernel
theorem dX5_least_111 : decode cX5_least 111 = .ok (.getfield 44, 3) := by decide +kernel
theorem dX5_least_114 : decode cX5_least 114 = .ok (.getfield 169, 3) := by decide +kernel
theorem dX5_least_117 : decode cX5_least 117 = .ok (.goto 14, 3) := by decide +kernel
theorem dX5_least_120 : decode cX5_least 120 = .ok (.aload_n 0, 1) := by decide +kernel
theorem dX5_least_121 : decode cX5_least 121 = .ok (.getfield 44, 3) := by decide +kernel
theorem dX5_least_124 : decode cX5_least 124 = .ok (.getfield 172, 3) := by decide +kernel
theorem dX5_least_127 : decode cX5_least 127 = .ok (.iload_n 2, 1) := by decide +kernel
theorem dX5_least_128 : decode cX5_least 128 = .ok (.aaload, 1) := by decide +kernel
theorem dX5_least_129 : decode cX5_least 129 = .ok (.iload_n 1, 1) := by decide +kernel
theorem dX5_least_130 : decode cX5_least 130 = .ok (.iaload, 1) := by decide +kernel
theorem dX5_least_131 : decode cX5_least 131 = .ok (.ireturn, 1) := by decide +kernel
theorem dX5_fewest_0 : decode cX5_fewest 0 = .ok (.aload_n 0, 1) := by decide +kernel
theorem dX5_fewest_1 : decode cX5_fewest 1 = .ok (.getfield 37, 3) := by decide +kernel
theorem dX5_fewest_4 : decode cX5_fewest 4 = .ok (.aload_n 0, 1) := by decide +kernel
theorem dX5_fewest_5 : decode cX5_fewest 5 = .ok (.getfield 10, 3) := by decide +kernel
theorem dX5_fewest_8 : decode cX5_fewest 8 = .ok (.aload_n 0, 1) := by decide +kernel
theorem dX5_fewest_9 : decode cX5_fewest 9 = .ok (.getfield 10, 3) := by decide +kernel
theorem dX5_fewest_12 : decode cX5_fewest 12 = .ok (.getfield 147, 3) := by decide +kernel
theorem dX5_fewest_15 : decode cX5_fewest 15 = .ok (.iconst (-1), 1) := by decide +kernel
theorem dX5_fewest_16 : decode cX5_fewest 16 = .ok (.invokevirtual 150, 3) := by decide +kernel
theorem dX5_fewest_19 : decode cX5_fewest 19 = .ok (.aload_n 0, 1) := by decide +kernel
theorem dX5_fewest_20 : decode cX5_fewest 20 = .ok (.getfield 44, 3) := by decide +kernel
theorem dX5_fewest_23 : decode cX5_fewest 23 = .ok (.aload_n 0, 1) := by decide +kernel
theorem dX5_fewest_24 : decode cX5_fewest 24 = .ok (.getfield 10, 3) := by decide +kernel
theorem dX5_fewest_27 : decode cX5_fewest 27 = .ok (.aload_n 0, 1) := by decide +kernel
theorem dX5_fewest_28 : decode cX5_fewest 28 = .ok (.getfield 37, 3) := by decide +kernel
theorem dX5_fewest_31 : decode cX5_fewest 31 = .ok (.invokevirtual 175, 3) := by decide +kernel
theorem dX5_fewest_34 : decode cX5_fewest 34 = .ok (.istore_n 1, 1) := by decide +kernel
theorem dX5_fewest_35 : decode cX5_fewest 35 = .ok (.iload_n 1, 1) := by decide +kernel
theorem dX5_fewest_36 : decode cX5_fewest 36 = .ok (.bipush (-3), 2) := by decide +kernel
theorem dX5_fewest_38 : decode cX5_fewest 38 = .ok (.if_icmp .ne 10, 3) := by decide +kernel
theorem dX5_fewest_41 : decode cX5_fewest 41 = .ok (.aload_n 0, 1) := by decide +kernel
theorem dX5_fewest_42 : decode cX5_fewest 42 = .ok (.invokevirtual 120, 3) := by decide +kernel
theorem dX5_fewest_45 : decode cX5_fewest 45 = .ok (.goto 4, 3) := by decide +kernel
theorem dX5_fewest_48 : decode cX5_fewest 48 = .ok (.iload_n 1, 1) := by decide +kernel
theorem dX5_fewest_49 : decode cX5_fewest 49 = .ok (.ireturn, 1) := by decide +kernel
theorem dX5_list_0 : decode cX5_list 0 = .ok (.iload_n 1, 1) := by decide +kernel
theorem dX5_list_1 : decode cX5_list 1 = .ok (.iconst 0, 1) := by decide +kernel
theorem dX5_list_2 : decode cX5_list 2 = .ok (.iconst 1, 1) := by decide +kernel
theorem dX5_list_3 : decode cX5_list 3 = .ok (.invokestatic 82, 3) := by decide +kernel
theorem dX5_list_6 : decode cX5_list 6 = .ok (.ifCond .ne 10, 3) := by decide +kernel
theorem dX5_list_9 : decode cX5_list 9 = .ok (.aload_n 0, 1) := by decide +kernel
theorem dX5_list_10 : decode cX5_list 10 = .ok (.bipush (-2), 2) := by decide +kernel
theorem dX5_list_12 : decode cX5_list 12 = .ok (.invokevirtual 63, 3) := by decide +kernel
theorem dX5_list_15 : decode cX5_list 15 = .ok (.ireturn, 1) := by decide +kernel
theorem dX5_list_16 : decode cX5_list 16 = .ok (.aload_n 0, 1) := by decide +kernel
theorem dX5_list_17 : decode cX5_list 17 = .ok (.getfield 37, 3) := by decide +kernel
theorem dX5_list_20 : decode cX5_list 20 = .ok (.aload_n 0, 1) := by decide +kernel
theorem dX5_list_21 : decode cX5_list 21 = .ok (.getfield 10, 3) := by decide +kernel
theorem dX5_list_24 : decode cX5_list 24 = .ok (.aload_n 0, 1) := by decide +kernel
theorem dX5_list_25 : decode cX5_list 25 = .ok (.getfield 10, 3) := by decide +kernel
theorem dX5_list_28 : decode cX5_list 28 = .ok (.getfield 147, 3) := by decide +kernel
theorem dX5_list_31 : decode cX5_list 31 = .ok (.iconst (-1), 1) := by decide +kernel
theorem dX5_list_32 : decode cX5_list 32 = .ok (.invokevirtual 150, 3) := by decide +kernel
theorem dX5_list_35 : decode cX5_list 35 = .ok (.iload_n 1, 1) := by decide +kernel
theorem dX5_list_36 : decode cX5_list 36 = .ok (.ifCond .ne 21, 3) := by decide +kernel
theorem dX5_list_39 : decode cX5_list 39 = .ok (.aload_n 0, 1) := by decide +kernel
theorem dX5_list_40 : decode cX5_list 40 = .ok (.getfield 44, 3) := by decide +kernel
theorem dX5_list_43 : decode cX5_list 43 = .ok (.aload_n 0, 1) := by decide +kernel
theorem dX5_list_44 : decode cX5_list 44 = .ok (.getfield 10, 3) := by decide +kernel
theorem dX5_list_47 : decode cX5_list 47 = .ok (.aload_n 0, 1) := by decide +kernel
theorem dX5_list_48 : decode cX5_list 48 = .ok (.getfield 37, 3) := by decide +kernel
theorem dX5_list_51 : decode cX5_list 51 = .ok (.invokevirtual 179, 3) := by decide +kernel
theorem dX5_list_54 : decode cX5_list 54 = .ok (.goto 18, 3) := by decide +kernel
theorem dX5_list_57 : decode cX5_list 57 = .ok (.aload_n 0, 1) := by decide +kernel
theorem dX5_list_58 : decode cX5_list 58 = .ok (.getfield 44, 3) := by decide +kernel
theorem dX5_list_61 : decode cX5_list 61 = .ok (.aload_n 0, 1) := by decide +kernel
theorem dX5_list_62 : decode cX5_list 62 = .ok (.getfield 10, 3) := by decide +kernel
theorem dX5_list_65 : decode cX5_list 65 = .ok (.aload_n 0, 1) := by decide +kernel
theorem dX5_list_66 : decode cX5_list 66 = .ok (.getfield 37, 3) := by decide +kernel
theorem dX5_list_69 : decode cX5_list 69 = .ok (.invokevirtual 182, 3) := by decide +kernel
theorem dX5_list_72 : decode cX5_list 72 = .ok (.ireturn, 1) := by decide +kernel
theorem dX5_rests_0 : decode cX5_rests 0 = .ok (.iload_n 1, 1) := by decide +kernel
theorem dX5_rests_1 : decode cX5_rests 1 = .ok (.iconst 0, 1) := by decide +kernel
theorem dX5_rests_2 : decode cX5_rests 2 = .ok (.iconst 1, 1) := by decide +kernel
theorem dX5_rests_3 : decode cX5_rests 3 = .ok (.invokestatic 82, 3) := by decide +kernel
theorem dX5_rests_6 : decode cX5_rests 6 = .ok (.ifCond .ne 10, 3) := by decide +kernel
theorem dX5_rests_9 : decode cX5_rests 9 = .ok (.aload_n 0, 1) := by decide +kernel
theorem dX5_rests_10 : decode cX5_rests 10 = .ok (.bipush (-10), 2) := by decide +kernel
theorem dX5_rests_12 : decode cX5_rests 12 = .ok (.invokevirtual 63, 3) := by decide +kernel
theorem dX5_rests_15 : decode cX5_rests 15 = .ok (.ireturn, 1) := by decide +kernel
theorem dX5_rests_16 : decode cX5_rests 16 = .ok (.aload_n 0, 1) := by decide +kernel
theorem dX5_rests_17 : decode cX5_rests 17 = .ok (.getfield 37, 3) := by decide +kernel
theorem dX5_rests_20 : decode cX5_rests 20 = .ok (.aload_n 0, 1) := by decide +kernel
theorem dX5_rests_21 : decode cX5_rests 21 = .ok (.getfield 10, 3) := by decide +kernel
theorem dX5_rests_24 : decode cX5_rests 24 = .ok (.aload_n 0, 1) := by decide +kernel
theorem dX5_rests_25 : decode cX5_rests 25 = .ok (.getfield 10, 3) := by decide +kernel
theorem dX5_rests_28 : decode cX5_rests 28 = .ok (.getfield 147, 3) := by decide +kernel
theorem dX5_rests_31 : decode cX5_rests 31 = .ok (.iconst (-1), 1) := by decide +kernel
theorem dX5_rests_32 : decode cX5_rests 32 = .ok (.invokevirtual 150, 3) := by decide +kernel
theorem dX5_rests_35 : decode cX5_rests 35 = .ok (.aload_n 0, 1) := by decide +kernel
theorem dX5_rests_36 : decode cX5_rests 36 = .ok (.getfield 44, 3) := by decide +kernel
theorem dX5_rests_39 : decode cX5_rests 39 = .ok (.aload_n 0, 1) := by decide +kernel
theorem dX5_rests_40 : decode cX5_rests 40 = .ok (.getfield 10, 3) := by decide +kernel
theorem dX5_rests_43 : decode cX5_rests 43 = .ok (.aload_n 0, 1) := by decide +kernel
theorem dX5_rests_44 : decode cX5_rests 44 = .ok (.getfield 37, 3) := by decide +kernel
theorem dX5_rests_47 : decode cX5_rests 47 = .ok (.invokevirtual 185, 3) := by decide +kernel
theorem dX5_rests_50 : decode cX5_rests 50 = .ok (.istore_n 2, 1) := by decide +kernel
theorem dX5_rests_51 : decode cX5_rests 51 = .ok (.iload_n 1, 1) := by decide +kernel
theorem dX5_rests_52 : decode cX5_rests 52 = .ok (.ifCond .ne 5, 3) := by decide +kernel
theorem dX5_rests_55 : decode cX5_rests 55 = .ok (.iload_n 2, 1) := by decide +kernel
theorem dX5_rests_56 : decode cX5_rests 56 = .ok (.ireturn, 1) := by decide +kernel
theorem dX5_rests_57 : decode cX5_rests 57 = .ok (.iload_n 2, 1) := by decide +kernel
theorem dX5_rests_58 : decode cX5_rests 58 = .ok (.iconst (-1), 1) := by decide +kernel
theorem dX5_rests_59 : decode cX5_rests 59 = .ok (.if_icmp .ne 8, 3) := by decide +kernel
theorem dX5_rests_62 : decode cX5_rests 62 = .ok (.bipush (-5), 2) := by decide +kernel
theorem dX5_rests_64 : decode cX5_rests 64 = .ok (.goto 28, 3) := by decide +kernel
theorem dX5_rests_67 : decode cX5_rests 67 = .ok (.aload_n 0, 1) := by decide +kernel
theorem dX5_rests_68 : decode cX5_rests 68 = .ok (.getfield 37, 3) := by decide +kernel
theorem dX5_rests_71 : decode cX5_rests 71 = .ok (.aload_n 0, 1) := by decide +kernel
theorem dX5_rests_72 : decode cX5_rests 72 = .ok (.getfield 10, 3) := by decide +kernel
theorem dX5_rests_75 : decode cX5_rests 75 = .ok (.aload_n 0, 1) := by decide +kernel
theorem dX5_rests_76 : decode cX5_rests 76 = .ok (.getfield 44, 3) := by decide +kernel
theorem dX5_rests_79 : decode cX5_rests 79 = .ok (.getfield 188, 3) := by decide +kernel
theorem dX5_rests_82 : decode cX5_rests 82 = .ok (.aload_n 0, 1) := by decide +kernel
theorem dX5_rests_83 : decode cX5_rests 83 = .ok (.getfield 10, 3) := by decide +kernel
theorem dX5_rests_86 : decode cX5_rests 86 = .ok (.getfield 191, 3) := by decide +kernel
theorem dX5_rests_89 : decode cX5_rests 89 = .ok (.invokevirtual 194, 3) := by decide +kernel
theorem dX5_rests_92 : decode cX5_rests 92 = .ok (.ireturn, 1) := by decide +kernel
theorem dX5_better_0 : decode cX5_better 0 = .ok (.aload_n 0, 1) := by decide +kernel
theorem dX5_better_1 : decode cX5_better 1 = .ok (.getfield 10, 3) := by decide +kernel
theorem dX5_better_4 : decode cX5_better 4 = .ok (.iload_n 1, 1) := by decide +kernel
theorem dX5_better_5 : decode cX5_better 5 = .ok (.invokevirtual 100, 3) := by decide +kernel
theorem dX5_better_8 : decode cX5_better 8 = .ok (.ifCond .eq 14, 3) := by decide +kernel
theorem dX5_better_11 : decode cX5_better 11 = .ok (.aload_n 0, 1) := by decide +kernel
theorem dX5_better_12 : decode cX5_better 12 = .ok (.getfield 10, 3) := by decide +kernel
theorem dX5_better_15 : decode cX5_better 15 = .ok (.iload_n 2, 1) := by decide +kernel
theorem dX5_better_16 : decode cX5_better 16 = .ok (.invokevirtual 90, 3) := by decide +kernel
theorem dX5_better_19 : decode cX5_better 19 = .ok (.ifCond .ne 10, 3) := by decide +kernel
theorem dX5_better_22 : decode cX5_better 22 = .ok (.aload_n 0, 1) := by decide +kernel
theorem dX5_better_23 : decode cX5_better 23 = .ok (.bipush (-2), 2) := by decide +kernel
theorem dX5_better_25 : decode cX5_better 25 = .ok (.invokevirtual 63, 3) := by decide +kernel
theorem dX5_better_28 : decode cX5_better 28 = .ok (.ireturn, 1) := by decide +kernel
theorem dX5_better_29 : decode cX5_better 29 = .ok (.aload_n 0, 1) := by decide +kernel
theorem dX5_better_30 : decode cX5_better 30 = .ok (.getfield 37, 3) := by decide +kernel
theorem dX5_better_33 : decode cX5_better 33 = .ok (.aload_n 0, 1) := by decide +kernel
theorem dX5_better_34 : decode cX5_better 34 = .ok (.getfield 10, 3) := by decide +kernel
theorem dX5_better_37 : decode cX5_better 37 = .ok (.aload_n 0, 1) := by decide +kernel
theorem dX5_better_38 : decode cX5_better 38 = .ok (.getfield 10, 3) := by decide +kernel
theorem dX5_better_41 : decode cX5_better 41 = .ok (.getfield 147, 3) := by decide +kernel
theorem dX5_better_44 : decode cX5_better 44 = .ok (.iconst (-1), 1) := by decide +kernel
theorem dX5_better_45 : decode cX5_better 45 = .ok (.invokevirtual 150, 3) := by decide +kernel
theorem dX5_better_48 : decode cX5_better 48 = .ok (.iconst (-1), 1) := by decide +kernel
theorem dX5_better_49 : decode cX5_better 49 = .ok (.istore_n 3, 1) := by decide +kernel
theorem dX5_better_50 : decode cX5_better 50 = .ok (.ldc 198, 2) := by decide +kernel
theorem dX5_better_52 : decode cX5_better 52 = .ok (.istore 4, 2) := by decide +kernel
theorem dX5_better_54 : decode cX5_better 54 = .ok (.iconst 0, 1) := by decide +kernel
theorem dX5_better_55 : decode cX5_better 55 = .ok (.istore 5, 2) := by decide +kernel
theorem dX5_better_57 : decode cX5_better 57 = .ok (.iload 5, 2) := by decide +kernel
theorem dX5_better_59 : decode cX5_better 59 = .ok (.aload_n 0, 1) := by decide +kernel
theorem dX5_better_60 : decode cX5_better 60 = .ok (.getfield 10, 3) := by decide +kernel
theorem dX5_better_63 : decode cX5_better 63 = .ok (.getfield 67, 3) := by decide +kernel
theorem dX5_better_66 : decode cX5_better 66 = .ok (.if_icmp .ge 40, 3) := by decide +kernel
theorem dX5_better_69 : decode cX5_better 69 = .ok (.aload_n 0, 1) := by decide +kernel
theorem dX5_better_70 : decode cX5_better 70 = .ok (.getfield 37, 3) := by decide +kernel
theorem dX5_better_73 : decode cX5_better 73 = .ok (.aload_n 0, 1) := by decide +kernel
theorem dX5_better_74 : decode cX5_better 74 = .ok (.getfield 10, 3) := by decide +kernel
theorem dX5_better_77 : decode cX5_better 77 = .ok (.iload_n 2, 1) := by decide +kernel
theorem dX5_better_78 : decode cX5_better 78 = .ok (.iload_n 1, 1) := by decide +kernel
theorem dX5_better_79 : decode cX5_better 79 = .ok (.iload 5, 2) := by decide +kernel
theorem dX5_better_81 : decode cX5_better 81 = .ok (.invokevirtual 158, 3) := by decide +kernel
theorem dX5_better_84 : decode cX5_better 84 = .ok (.istore 6, 2) := by decide +kernel
theorem dX5_better_86 : decode cX5_better 86 = .ok (.iload 6, 2) := by decide +kernel
theorem dX5_better_88 : decode cX5_better 88 = .ok (.iload 4, 2) := by decide +kernel
theorem dX5_better_90 : decode cX5_better 90 = .ok (.if_icmp .ge 10, 3) := by decide +kernel
theorem dX5_better_93 : decode cX5_better 93 = .ok (.iload 6, 2) := by decide +kernel
theorem dX5_better_95 : decode cX5_better 95 = .ok (.istore 4, 2) := by decide +kernel
theorem dX5_better_97 : decode cX5_better 97 = .ok (.iload 5, 2) := by decide +kernel
theorem dX5_better_99 : decode cX5_better 99 = .ok (.istore_n 3, 1) := by decide +kernel
theorem dX5_better_100 : decode cX5_better 100 = .ok (.iinc 5 1, 3) := by decide +kernel
theorem dX5_better_103 : decode cX5_better 103 = .ok (.goto (-46), 3) := by decide +kernel
theorem dX5_better_106 : decode cX5_better 106 = .ok (.iload_n 3, 1) := by decide +kernel
theorem dX5_better_107 : decode cX5_better 107 = .ok (.ireturn, 1) := by decide +kernel
theorem dX5_name_0 : decode cX5_name 0 = .ok (.aload_n 0, 1) := by decide +kernel
theorem dX5_name_1 : decode cX5_name 1 = .ok (.getfield 10, 3) := by decide +kernel
theorem dX5_name_4 : decode cX5_name 4 = .ok (.iload_n 1, 1) := by decide +kernel
theorem dX5_name_5 : decode cX5_name 5 = .ok (.invokevirtual 59, 3) := by decide +kernel
theorem dX5_name_8 : decode cX5_name 8 = .ok (.ifCond .ne 11, 3) := by decide +kernel
theorem dX5_name_11 : decode cX5_name 11 = .ok (.aload_n 0, 1) := by decide +kernel
theorem dX5_name_12 : decode cX5_name 12 = .ok (.sipush (-1000), 3) := by decide +kernel
theorem dX5_name_15 : decode cX5_name 15 = .ok (.invokevirtual 63, 3) := by decide +kernel
theorem dX5_name_18 : decode cX5_name 18 = .ok (.ireturn, 1) := by decide +kernel
theorem dX5_name_19 : decode cX5_name 19 = .ok (.aload_n 0, 1) := by decide +kernel
theorem dX5_name_20 : decode cX5_name 20 = .ok (.iconst (-1), 1) := by decide +kernel
theorem dX5_name_21 : decode cX5_name 21 = .ok (.invokevirtual 162, 3) := by decide +kernel
theorem dX5_name_24 : decode cX5_name 24 = .ok (.aload_n 0, 1) := by decide +kernel
theorem dX5_name_25 : decode cX5_name 25 = .ok (.iload_n 1, 1) := by decide +kernel
theorem dX5_name_26 : decode cX5_name 26 = .ok (.invokevirtual 162, 3) := by decide +kernel
theorem dX5_name_29 : decode cX5_name 29 = .ok (.isub, 1) := by decide +kernel
theorem dX5_name_30 : decode cX5_name 30 = .ok (.ireturn, 1) := by decide +kernel
theorem dX5_line_0 : decode cX5_line 0 = .ok (.aload_n 0, 1) := by decide +kernel
theorem dX5_line_1 : decode cX5_line 1 = .ok (.getfield 10, 3) := by decide +kernel
theorem dX5_line_4 : decode cX5_line 4 = .ok (.iload_n 1, 1) := by decide +kernel
theorem dX5_line_5 : decode cX5_line 5 = .ok (.invokevirtual 100, 3) := by decide +kernel
theorem dX5_line_8 : decode cX5_line 8 = .ok (.ifCond .ne 10, 3) := by decide +kernel
theorem dX5_line_11 : decode cX5_line 11 = .ok (.aload_n 0, 1) := by decide +kernel
theorem dX5_line_12 : decode cX5_line 12 = .ok (.bipush (-2), 2) := by decide +kernel
theorem dX5_line_14 : decode cX5_line 14 = .ok (.invokevirtual 63, 3) := by decide +kernel
theorem dX5_line_17 : decode cX5_line 17 = .ok (.ireturn, 1) := by decide +kernel
theorem dX5_line_18 : decode cX5_line 18 = .ok (.iconst 0, 1) := by decide +kernel
theorem dX5_line_19 : decode cX5_line 19 = .ok (.istore_n 2, 1) := by decide +kernel
theorem dX5_line_20 : decode cX5_line 20 = .ok (.ldc 198, 2) := by decide +kernel
theorem dX5_line_22 : decode cX5_line 22 = .ok (.istore_n 3, 1) := by decide +kernel
theorem dX5_line_23 : decode cX5_line 23 = .ok (.iconst 0, 1) := by decide +kernel
theorem dX5_line_24 : decode cX5_line 24 = .ok (.istore 4, 2) := by decide +kernel
theorem dX5_line_26 : decode cX5_line 26 = .ok (.iload 4, 2) := by decide +kernel
theorem dX5_line_28 : decode cX5_line 28 = .ok (.iconst 4, 1) := by decide +kernel
theorem dX5_line_29 : decode cX5_line 29 = .ok (.if_icmp .gt 42, 3) := by decide +kernel
theorem dX5_line_32 : decode cX5_line 32 = .ok (.aload_n 0, 1) := by decide +kernel
theorem dX5_line_33 : decode cX5_line 33 = .ok (.getfield 37, 3) := by decide +kernel
theorem dX5_line_36 : decode cX5_line 36 = .ok (.aload_n 0, 1) := by decide +kernel
theorem dX5_line_37 : decode cX5_line 37 = .ok (.getfield 10, 3) := by decide +kernel
theorem dX5_line_40 : decode cX5_line 40 = .ok (.iload 4, 2) := by decide +kernel
theorem dX5_line_42 : decode cX5_line 42 = .ok (.iconst (-1), 1) := by decide +kernel
theorem dX5_line_43 : decode cX5_line 43 = .ok (.invokevirtual 150, 3) := by decide +kernel
theorem dX5_line_46 : decode cX5_line 46 = .ok (.aload_n 0, 1) := by decide +kernel
theorem dX5_line_47 : decode cX5_line 47 = .ok (.iload_n 1, 1) := by decide +kernel
theorem dX5_line_48 : decode cX5_line 48 = .ok (.invokevirtual 199, 3) := by decide +kernel
theorem dX5_line_51 : decode cX5_line 51 = .ok (.istore 5, 2) := by decide +kernel
theorem dX5_line_53 : decode cX5_line 53 = .ok (.iload 5, 2) := by decide +kernel
theorem dX5_line_55 : decode cX5_line 55 = .ok (.iload_n 3, 1) := by decide +kernel
theorem dX5_line_56 : decode cX5_line 56 = .ok (.if_icmp .ge 9, 3) := by decide +kernel
theorem dX5_line_59 : decode cX5_line 59 = .ok (.iload 5, 2) := by decide +kernel
theorem dX5_line_61 : decode cX5_line 61 = .ok (.istore_n 3, 1) := by decide +kernel
theorem dX5_line_62 : decode cX5_line 62 = .ok (.iload 4, 2) := by decide +kernel
theorem dX5_line_64 : decode cX5_line 64 = .ok (.istore_n 2, 1) := by decide +kernel
theorem dX5_line_65 : decode cX5_line 65 = .ok (.iinc 4 1, 3) := by decide +kernel
theorem dX5_line_68 : decode cX5_line 68 = .ok (.goto (-42), 3) := by decide +kernel
theorem dX5_line_71 : decode cX5_line 71 = .ok (.iload_n 2, 1) := by decide +kernel
theorem dX5_line_72 : decode cX5_line 72 = .ok (.ireturn, 1) := by decide +kernel
theorem dX5_choir_0 : decode cX5_choir 0 = .ok (.aload_n 0, 1) := by decide +kernel
theorem dX5_choir_1 : decode cX5_choir 1 = .ok (.getfield 10, 3) := by decide +kernel
theorem dX5_choir_4 : decode cX5_choir 4 = .ok (.iload_n 1, 1) := by decide +kernel
theorem dX5_choir_5 : decode cX5_choir 5 = .ok (.invokevirtual 59, 3) := by decide +kernel
theorem dX5_choir_8 : decode cX5_choir 8 = .ok (.ifCond .eq 18, 3) := by decide +kernel
theorem dX5_choir_11 : decode cX5_choir 11 = .ok (.iload_n 2, 1) := by decide +kernel
theorem dX5_choir_12 : decode cX5_choir 12 = .ok (.iconst 1, 1) := by decide +kernel
theorem dX5_choir_13 : decode cX5_choir 13 = .ok (.aload_n 0, 1) := by decide +kernel
theorem dX5_choir_14 : decode cX5_choir 14 = .ok (.getfield 10, 3) := by decide +kernel
theorem dX5_choir_17 : decode cX5_choir 17 = .ok (.getfield 202, 3) := by decide +kernel
theorem dX5_choir_20 : decode cX5_choir 20 = .ok (.invokestatic 82, 3) := by decide +kernel
theorem dX5_choir_23 : decode cX5_choir 23 = .ok (.ifCond .ne 10, 3) := by decide +kernel
theorem dX5_choir_26 : decode cX5_choir 26 = .ok (.aload_n 0, 1) := by decide +kernel
theorem dX5_choir_27 : decode cX5_choir 27 = .ok (.bipush (-2), 2) := by decide +kernel
theorem dX5_choir_29 : decode cX5_choir 29 = .ok (.invokevirtual 63, 3) := by decide +kernel
theorem dX5_choir_32 : decode cX5_choir 32 = .ok (.ireturn, 1) := by decide +kernel
theorem dX5_choir_33 : decode cX5_choir 33 = .ok (.aload_n 0, 1) := by decide +kernel
theorem dX5_choir_34 : decode cX5_choir 34 = .ok (.getfield 37, 3) := by decide +kernel
theorem dX5_choir_37 : decode cX5_choir 37 = .ok (.aload_n 0, 1) := by decide +kernel
theorem dX5_choir_38 : decode cX5_choir 38 = .ok (.getfield 10, 3) := by decide +kernel
theorem dX5_choir_41 : decode cX5_choir 41 = .ok (.aload_n 0, 1) := by decide +kernel
theorem dX5_choir_42 : decode cX5_choir 42 = .ok (.getfield 10, 3) := by decide +kernel
theorem dX5_choir_45 : decode cX5_choir 45 = .ok (.getfield 147, 3) := by decide +kernel
theorem dX5_choir_48 : decode cX5_choir 48 = .ok (.iconst (-1), 1) := by decide +kernel
theorem dX5_choir_49 : decode cX5_choir 49 = .ok (.invokevirtual 150, 3) := by decide +kernel
theorem dX5_choir_52 : decode cX5_choir 52 = .ok (.aload_n 0, 1) := by decide +kernel
theorem dX5_choir_53 : decode cX5_choir 53 = .ok (.getfield 37, 3) := by decide +kernel
theorem dX5_choir_56 : decode cX5_choir 56 = .ok (.aload_n 0, 1) := by decide +kernel
theorem dX5_choir_57 : decode cX5_choir 57 = .ok (.getfield 10, 3) := by decide +kernel
theorem dX5_choir_60 : decode cX5_choir 60 = .ok (.iload_n 1, 1) := by decide +kernel
theorem dX5_choir_61 : decode cX5_choir 61 = .ok (.iload_n 2, 1) := by decide +kernel
theorem dX5_choir_62 : decode cX5_choir 62 = .ok (.invokevirtual 205, 3) := by decide +kernel
theorem dX5_choir_65 : decode cX5_choir 65 = .ok (.ireturn, 1) := by decide +kernel
theorem dX5_told_0 : decode cX5_told 0 = .ok (.aload_n 0, 1) := by decide +kernel
theorem dX5_told_1 : decode cX5_told 1 = .ok (.getfield 10, 3) := by decide +kernel
theorem dX5_told_4 : decode cX5_told 4 = .ok (.iload_n 1, 1) := by decide +kernel
theorem dX5_told_5 : decode cX5_told 5 = .ok (.invokevirtual 100, 3) := by decide +kernel
theorem dX5_told_8 : decode cX5_told 8 = .ok (.ifCond .eq 13, 3) := by decide +kernel
theorem dX5_told_11 : decode cX5_told 11 = .ok (.iload_n 2, 1) := by decide +kernel
theorem dX5_told_12 : decode cX5_told 12 = .ok (.iconst 0, 1) := by decide +kernel
theorem dX5_told_13 : decode cX5_told 13 = .ok (.bipush 40, 2) := by decide +kernel
theorem dX5_told_15 : decode cX5_told 15 = .ok (.invokestatic 82, 3) := by decide +kernel
theorem dX5_told_18 : decode cX5_told 18 = .ok (.ifCond .ne 10, 3) := by decide +kernel
theorem dX5_told_21 : decode cX5_told 21 = .ok (.aload_n 0, 1) := by decide +kernel
theorem dX5_told_22 : decode cX5_told 22 = .ok (.bipush (-2), 2) := by decide +kernel
theorem dX5_told_24 : decode cX5_told 24 = .ok (.invokevirtual 63, 3) := by decide +kernel
theorem dX5_told_27 : decode cX5_told 27 = .ok (.ireturn, 1) := by decide +kernel
theorem dX5_told_28 : decode cX5_told 28 = .ok (.aload_n 0, 1) := by decide +kernel
theorem dX5_told_29 : decode cX5_told 29 = .ok (.dup, 1) := by decide +kernel
theorem dX5_told_30 : decode cX5_told 30 = .ok (.getfield 75, 3) := by decide +kernel
theorem dX5_told_33 : decode cX5_told 33 = .ok (.iconst 1, 1) := by decide +kernel
theorem dX5_told_34 : decode cX5_told 34 = .ok (.iadd, 1) := by decide +kernel
theorem dX5_told_35 : decode cX5_told 35 = .ok (.putfield 75, 3) := by decide +kernel
theorem dX5_told_38 : decode cX5_told 38 = .ok (.aload_n 0, 1) := by decide +kernel
theorem dX5_told_39 : decode cX5_told 39 = .ok (.getfield 10, 3) := by decide +kernel
theorem dX5_told_42 : decode cX5_told 42 = .ok (.getfield 209, 3) := by decide +kernel
theorem dX5_told_45 : decode cX5_told 45 = .ok (.iload_n 1, 1) := by decide +kernel
theorem dX5_told_46 : decode cX5_told 46 = .ok (.iaload, 1) := by decide +kernel
theorem dX5_told_47 : decode cX5_told 47 = .ok (.istore_n 3, 1) := by decide +kernel
theorem dX5_told_48 : decode cX5_told 48 = .ok (.aload_n 0, 1) := by decide +kernel
theorem dX5_told_49 : decode cX5_told 49 = .ok (.getfield 10, 3) := by decide +kernel
theorem dX5_told_52 : decode cX5_told 52 = .ok (.getfield 209, 3) := by decide +kernel
theorem dX5_told_55 : decode cX5_told 55 = .ok (.iload_n 1, 1) := by decide +kernel
theorem dX5_told_56 : decode cX5_told 56 = .ok (.iload_n 2, 1) := by decide +kernel
theorem dX5_told_57 : decode cX5_told 57 = .ok (.iastore, 1) := by decide +kernel
theorem dX5_told_58 : decode cX5_told 58 = .ok (.iload_n 3, 1) := by decide +kernel
theorem dX5_told_59 : decode cX5_told 59 = .ok (.ireturn, 1) := by decide +kernel
theorem dX5_did_0 : decode cX5_did 0 = .ok (.aload_n 0, 1) := by decide +kernel
theorem dX5_did_1 : decode cX5_did 1 = .ok (.getfield 10, 3) := by decide +kernel
theorem dX5_did_4 : decode cX5_did 4 = .ok (.iload_n 1, 1) := by decide +kernel
theorem dX5_did_5 : decode cX5_did 5 = .ok (.invokevirtual 90, 3) := by decide +kernel
theorem dX5_did_8 : decode cX5_did 8 = .ok (.ifCond .eq 19, 3) := by decide +kernel
theorem dX5_did_11 : decode cX5_did 11 = .ok (.iload_n 2, 1) := by decide +kernel
theorem dX5_did_12 : decode cX5_did 12 = .ok (.iconst (-1), 1) := by decide +kernel
theorem dX5_did_13 : decode cX5_did 13 = .ok (.if_icmp .eq 21, 3) := by decide +kernel
theorem dX5_did_16 : decode cX5_did 16 = .ok (.aload_n 0, 1) := by decide +kernel
theorem dX5_did_17 : decode cX5_did 17 = .ok (.getfield 10, 3) := by decide +kernel
theorem dX5_did_20 : decode cX5_did 20 = .ok (.iload_n 2, 1) := by decide +kernel
theorem dX5_did_21 : decode cX5_did 21 = .ok (.invokevirtual 100, 3) := by decide +kernel
theorem dX5_did_24 : decode cX5_did 24 = .ok (.ifCond .ne 10, 3) := by decide +kernel
theorem dX5_did_27 : decode cX5_did 27 = .ok (.aload_n 0, 1) := by decide +kernel
theorem dX5_did_28 : decode cX5_did 28 = .ok (.bipush (-10), 2) := by decide +kernel
theorem dX5_did_30 : decode cX5_did 30 = .ok (.invokevirtual 63, 3) := by decide +kernel
theorem dX5_did_33 : decode cX5_did 33 = .ok (.ireturn, 1) := by decide +kernel
theorem dX5_did_34 : decode cX5_did 34 = .ok (.aload_n 0, 1) := by decide +kernel
theorem dX5_did_35 : decode cX5_did 35 = .ok (.getfield 37, 3) := by decide +kernel
theorem dX5_did_38 : decode cX5_did 38 = .ok (.aload_n 0, 1) := by decide +kernel
