theorem dX0_init_0 : decode cX0_init 0 = .ok (.aload_n 0, 1) := by decide +kernel
theorem dX0_init_1 : decode cX0_init 1 = .ok (.invokespecial 1, 3) := by decide +kernel
theorem dX0_init_4 : decode cX0_init 4 = .ok (.aload_n 0, 1) := by decide +kernel
theorem dX0_init_5 : decode cX0_init 5 = .ok (.iload_n 1, 1) := by decide +kernel
theorem dX0_init_6 : decode cX0_init 6 = .ok (.putfield 7, 3) := by decide +kernel
theorem dX0_init_9 : decode cX0_init 9 = .ok (.return_, 1) := by decide +kernel
theorem dX0_weightWith_0 : decode cX0_weightWith 0 = .ok (.aload_n 0, 1) := by decide +kernel
theorem dX0_weightWith_1 : decode cX0_weightWith 1 = .ok (.getfield 7, 3) := by decide +kernel
theorem dX0_weightWith_4 : decode cX0_weightWith 4 = .ok (.iconst 3, 1) := by decide +kernel
theorem dX0_weightWith_5 : decode cX0_weightWith 5 = .ok (.imul, 1) := by decide +kernel
theorem dX0_weightWith_6 : decode cX0_weightWith 6 = .ok (.iload_n 1, 1) := by decide +kernel
theorem dX0_weightWith_7 : decode cX0_weightWith 7 = .ok (.iadd, 1) := by decide +kernel
theorem dX0_weightWith_8 : decode cX0_weightWith 8 = .ok (.ireturn, 1) := by decide +kernel
theorem dX1_init_0 : decode cX1_init 0 = .ok (.aload_n 0, 1) := by decide +kernel
theorem dX1_init_1 : decode cX1_init 1 = .ok (.invokespecial 3, 3) := by decide +kernel
theorem dX1_init_4 : decode cX1_init 4 = .ok (.aload_n 0, 1) := by decide +kernel
theorem dX1_init_5 : decode cX1_init 5 = .ok (.bipush 19, 2) := by decide +kernel
theorem dX1_init_7 : decode cX1_init 7 = .ok (.anewarray 9, 3) := by decide +kernel
theorem dX1_init_10 : decode cX1_init 10 = .ok (.putfield 11, 3) := by decide +kernel
theorem dX1_init_13 : decode cX1_init 13 = .ok (.aload_n 0, 1) := by decide +kernel
theorem dX1_init_14 : decode cX1_init 14 = .ok (.iconst 0, 1) := by decide +kernel
theorem dX1_init_15 : decode cX1_init 15 = .ok (.putfield 17, 3) := by decide +kernel
theorem dX1_init_18 : decode cX1_init 18 = .ok (.aload_n 0, 1) := by decide +kernel
theorem dX1_init_19 : decode cX1_init 19 = .ok (.iconst 0, 1) := by decide +kernel
theorem dX1_init_20 : decode cX1_init 20 = .ok (.putfield 21, 3) := by decide +kernel
theorem dX1_init_23 : decode cX1_init 23 = .ok (.aload_n 0, 1) := by decide +kernel
theorem dX1_init_24 : decode cX1_init 24 = .ok (.iconst 0, 1) := by decide +kernel
theorem dX1_init_25 : decode cX1_init 25 = .ok (.putfield 24, 3) := by decide +kernel
theorem dX1_init_28 : decode cX1_init 28 = .ok (.return_, 1) := by decide +kernel
theorem dX1_renew_0 : decode cX1_renew 0 = .ok (.iconst 0, 1) := by decide +kernel
theorem dX1_renew_1 : decode cX1_renew 1 = .ok (.istore_n 3, 1) := by decide +kernel
theorem dX1_renew_2 : decode cX1_renew 2 = .ok (.iload_n 3, 1) := by decide +kernel
theorem dX1_renew_3 : decode cX1_renew 3 = .ok (.iload_n 1, 1) := by decide +kernel
theorem dX1_renew_4 : decode cX1_renew 4 = .ok (.if_icmp .ge 16, 3) := by decide +kernel
theorem dX1_renew_7 : decode cX1_renew 7 = .ok (.aload_n 0, 1) := by decide +kernel
theorem dX1_renew_8 : decode cX1_renew 8 = .ok (.getfield 11, 3) := by decide +kernel
theorem dX1_renew_11 : decode cX1_renew 11 = .ok (.iload_n 3, 1) := by decide +kernel
theorem dX1_renew_12 : decode cX1_renew 12 = .ok (.aconst_null, 1) := by decide +kernel
theorem dX1_renew_13 : decode cX1_renew 13 = .ok (.aastore, 1) := by decide +kernel
theorem dX1_renew_14 : decode cX1_renew 14 = .ok (.iinc 3 1, 3) := by decide +kernel
theorem dX1_renew_17 : decode cX1_renew 17 = .ok (.goto (-15), 3) := by decide +kernel
theorem dX1_renew_20 : decode cX1_renew 20 = .ok (.aload_n 0, 1) := by decide +kernel
theorem dX1_renew_21 : decode cX1_renew 21 = .ok (.iconst 1, 1) := by decide +kernel
theorem dX1_renew_22 : decode cX1_renew 22 = .ok (.putfield 17, 3) := by decide +kernel
theorem dX1_renew_25 : decode cX1_renew 25 = .ok (.aload_n 0, 1) := by decide +kernel
theorem dX1_renew_26 : decode cX1_renew 26 = .ok (.iload_n 2, 1) := by decide +kernel
theorem dX1_renew_27 : decode cX1_renew 27 = .ok (.putfield 21, 3) := by decide +kernel
theorem dX1_renew_30 : decode cX1_renew 30 = .ok (.aload_n 0, 1) := by decide +kernel
theorem dX1_renew_31 : decode cX1_renew 31 = .ok (.iload_n 1, 1) := by decide +kernel
theorem dX1_renew_32 : decode cX1_renew 32 = .ok (.putfield 24, 3) := by decide +kernel
theorem dX1_renew_35 : decode cX1_renew 35 = .ok (.return_, 1) := by decide +kernel
theorem dX1_isMade_0 : decode cX1_isMade 0 = .ok (.aload_n 0, 1) := by decide +kernel
theorem dX1_isMade_1 : decode cX1_isMade 1 = .ok (.getfield 17, 3) := by decide +kernel
theorem dX1_isMade_4 : decode cX1_isMade 4 = .ok (.ireturn, 1) := by decide +kernel
theorem dX1_placeCount_0 : decode cX1_placeCount 0 = .ok (.aload_n 0, 1) := by decide +kernel
theorem dX1_placeCount_1 : decode cX1_placeCount 1 = .ok (.getfield 24, 3) := by decide +kernel
theorem dX1_placeCount_4 : decode cX1_placeCount 4 = .ok (.ireturn, 1) := by decide +kernel
theorem dX1_takes_0 : decode cX1_takes 0 = .ok (.aload_n 1, 1) := by decide +kernel
theorem dX1_takes_1 : decode cX1_takes 1 = .ok (.ifnull 17, 3) := by decide +kernel
theorem dX1_takes_4 : decode cX1_takes 4 = .ok (.aload_n 0, 1) := by decide +kernel
theorem dX1_takes_5 : decode cX1_takes 5 = .ok (.getfield 21, 3) := by decide +kernel
theorem dX1_takes_8 : decode cX1_takes 8 = .ok (.ifCond .eq 10, 3) := by decide +kernel
theorem dX1_takes_11 : decode cX1_takes 11 = .ok (.aload_n 1, 1) := by decide +kernel
theorem dX1_takes_12 : decode cX1_takes 12 = .ok (.instanceof 28, 3) := by decide +kernel
theorem dX1_takes_15 : decode cX1_takes 15 = .ok (.ifCond .eq 7, 3) := by decide +kernel
theorem dX1_takes_18 : decode cX1_takes 18 = .ok (.iconst 1, 1) := by decide +kernel
theorem dX1_takes_19 : decode cX1_takes 19 = .ok (.goto 4, 3) := by decide +kernel
theorem dX1_takes_22 : decode cX1_takes 22 = .ok (.iconst 0, 1) := by decide +kernel
theorem dX1_takes_23 : decode cX1_takes 23 = .ok (.ireturn, 1) := by decide +kernel
theorem dX1_store_0 : decode cX1_store 0 = .ok (.aload_n 0, 1) := by decide +kernel
theorem dX1_store_1 : decode cX1_store 1 = .ok (.getfield 11, 3) := by decide +kernel
theorem dX1_store_4 : decode cX1_store 4 = .ok (.iload_n 1, 1) := by decide +kernel
theorem dX1_store_5 : decode cX1_store 5 = .ok (.aload_n 2, 1) := by decide +kernel
theorem dX1_store_6 : decode cX1_store 6 = .ok (.aastore, 1) := by decide +kernel
theorem dX1_store_7 : decode cX1_store 7 = .ok (.return_, 1) := by decide +kernel
theorem dX1_boxAtPlace_0 : decode cX1_boxAtPlace 0 = .ok (.aload_n 0, 1) := by decide +kernel
theorem dX1_boxAtPlace_1 : decode cX1_boxAtPlace 1 = .ok (.getfield 11, 3) := by decide +kernel
theorem dX1_boxAtPlace_4 : decode cX1_boxAtPlace 4 = .ok (.iload_n 1, 1) := by decide +kernel
theorem dX1_boxAtPlace_5 : decode cX1_boxAtPlace 5 = .ok (.aaload, 1) := by decide +kernel
theorem dX1_boxAtPlace_6 : decode cX1_boxAtPlace 6 = .ok (.areturn, 1) := by decide +kernel
theorem dX2_init_0 : decode cX2_init 0 = .ok (.aload_n 0, 1) := by decide +kernel
theorem dX2_init_1 : decode cX2_init 1 = .ok (.iload_n 1, 1) := by decide +kernel
theorem dX2_init_2 : decode cX2_init 2 = .ok (.invokespecial 1, 3) := by decide +kernel
theorem dX2_init_5 : decode cX2_init 5 = .ok (.return_, 1) := by decide +kernel
theorem dX2_weightWith_0 : decode cX2_weightWith 0 = .ok (.aload_n 0, 1) := by decide +kernel
theorem dX2_weightWith_1 : decode cX2_weightWith 1 = .ok (.getfield 7, 3) := by decide +kernel
theorem dX2_weightWith_4 : decode cX2_weightWith 4 = .ok (.iconst 5, 1) := by decide +kernel
theorem dX2_weightWith_5 : decode cX2_weightWith 5 = .ok (.imul, 1) := by decide +kernel
theorem dX2_weightWith_6 : decode cX2_weightWith 6 = .ok (.iload_n 1, 1) := by decide +kernel
theorem dX2_weightWith_7 : decode cX2_weightWith 7 = .ok (.isub, 1) := by decide +kernel
theorem dX2_weightWith_8 : decode cX2_weightWith 8 = .ok (.ireturn, 1) := by decide +kernel
theorem dX2_rolledWith_0 : decode cX2_rolledWith 0 = .ok (.aload_n 0, 1) := by decide +kernel
theorem dX2_rolledWith_1 : decode cX2_rolledWith 1 = .ok (.getfield 7, 3) := by decide +kernel
theorem dX2_rolledWith_4 : decode cX2_rolledWith 4 = .ok (.iload_n 1, 1) := by decide +kernel
theorem dX2_rolledWith_5 : decode cX2_rolledWith 5 = .ok (.ixor, 1) := by decide +kernel
theorem dX2_rolledWith_6 : decode cX2_rolledWith 6 = .ok (.ireturn, 1) := by decide +kernel
theorem dX3_init_0 : decode cX3_init 0 = .ok (.aload_n 0, 1) := by decide +kernel
theorem dX3_init_1 : decode cX3_init 1 = .ok (.invokespecial 3, 3) := by decide +kernel
theorem dX3_init_4 : decode cX3_init 4 = .ok (.aload_n 0, 1) := by decide +kernel
theorem dX3_init_5 : decode cX3_init 5 = .ok (.bipush 8, 2) := by decide +kernel
theorem dX3_init_7 : decode cX3_init 7 = .ok (.bipush 8, 2) := by decide +kernel
theorem dX3_init_9 : decode cX3_init 9 = .ok (.multianewarray 11 2, 4) := by decide +kernel
theorem dX3_init_13 : decode cX3_init 13 = .ok (.putfield 13, 3) := by decide +kernel
theorem dX3_init_16 : decode cX3_init 16 = .ok (.aload_n 0, 1) := by decide +kernel
theorem dX3_init_17 : decode cX3_init 17 = .ok (.iconst 0, 1) := by decide +kernel
theorem dX3_init_18 : decode cX3_init 18 = .ok (.putfield 16, 3) := by decide +kernel
theorem dX3_init_21 : decode cX3_init 21 = .ok (.aload_n 0, 1) := by decide +kernel
theorem dX3_init_22 : decode cX3_init 22 = .ok (.iconst 0, 1) := by decide +kernel
theorem dX3_init_23 : decode cX3_init 23 = .ok (.putfield 20, 3) := by decide +kernel
theorem dX3_init_26 : decode cX3_init 26 = .ok (.aload_n 0, 1) := by decide +kernel
theorem dX3_init_27 : decode cX3_init 27 = .ok (.iconst 0, 1) := by decide +kernel
theorem dX3_init_28 : decode cX3_init 28 = .ok (.putfield 24, 3) := by decide +kernel
theorem dX3_init_31 : decode cX3_init 31 = .ok (.iconst 0, 1) := by decide +kernel
theorem dX3_init_32 : decode cX3_init 32 = .ok (.istore_n 1, 1) := by decide +kernel
theorem dX3_init_33 : decode cX3_init 33 = .ok (.iload_n 1, 1) := by decide +kernel
theorem dX3_init_34 : decode cX3_init 34 = .ok (.bipush 8, 2) := by decide +kernel
theorem dX3_init_36 : decode cX3_init 36 = .ok (.if_icmp .ge 37, 3) := by decide +kernel
theorem dX3_init_39 : decode cX3_init 39 = .ok (.iconst 0, 1) := by decide +kernel
theorem dX3_init_40 : decode cX3_init 40 = .ok (.istore_n 2, 1) := by decide +kernel
theorem dX3_init_41 : decode cX3_init 41 = .ok (.iload_n 2, 1) := by decide +kernel
theorem dX3_init_42 : decode cX3_init 42 = .ok (.bipush 8, 2) := by decide +kernel
theorem dX3_init_44 : decode cX3_init 44 = .ok (.if_icmp .ge 23, 3) := by decide +kernel
theorem dX3_init_47 : decode cX3_init 47 = .ok (.aload_n 0, 1) := by decide +kernel
theorem dX3_init_48 : decode cX3_init 48 = .ok (.getfield 13, 3) := by decide +kernel
theorem dX3_init_51 : decode cX3_init 51 = .ok (.iload_n 1, 1) := by decide +kernel
theorem dX3_init_52 : decode cX3_init 52 = .ok (.aaload, 1) := by decide +kernel
theorem dX3_init_53 : decode cX3_init 53 = .ok (.iload_n 2, 1) := by decide +kernel
theorem dX3_init_54 : decode cX3_init 54 = .ok (.bipush 10, 2) := by decide +kernel
theorem dX3_init_56 : decode cX3_init 56 = .ok (.iload_n 1, 1) := by decide +kernel
theorem dX3_init_57 : decode cX3_init 57 = .ok (.imul, 1) := by decide +kernel
theorem dX3_init_58 : decode cX3_init 58 = .ok (.iload_n 2, 1) := by decide +kernel
theorem dX3_init_59 : decode cX3_init 59 = .ok (.iadd, 1) := by decide +kernel
theorem dX3_init_60 : decode cX3_init 60 = .ok (.iastore, 1) := by decide +kernel
theorem dX3_init_61 : decode cX3_init 61 = .ok (.iinc 2 1, 3) := by decide +kernel
theorem dX3_init_64 : decode cX3_init 64 = .ok (.goto (-23), 3) := by decide +kernel
theorem dX3_init_67 : decode cX3_init 67 = .ok (.iinc 1 1, 3) := by decide +kernel
theorem dX3_init_70 : decode cX3_init 70 = .ok (.goto (-37), 3) := by decide +kernel
theorem dX3_init_73 : decode cX3_init 73 = .ok (.return_, 1) := by decide +kernel
theorem dX3_renew_0 : decode cX3_renew 0 = .ok (.aload_n 0, 1) := by decide +kernel
theorem dX3_renew_1 : decode cX3_renew 1 = .ok (.iconst 1, 1) := by decide +kernel
theorem dX3_renew_2 : decode cX3_renew 2 = .ok (.putfield 16, 3) := by decide +kernel
theorem dX3_renew_5 : decode cX3_renew 5 = .ok (.aload_n 0, 1) := by decide +kernel
theorem dX3_renew_6 : decode cX3_renew 6 = .ok (.iload_n 1, 1) := by decide +kernel
theorem dX3_renew_7 : decode cX3_renew 7 = .ok (.putfield 20, 3) := by decide +kernel
theorem dX3_renew_10 : decode cX3_renew 10 = .ok (.aload_n 0, 1) := by decide +kernel
theorem dX3_renew_11 : decode cX3_renew 11 = .ok (.iload_n 2, 1) := by decide +kernel
theorem dX3_renew_12 : decode cX3_renew 12 = .ok (.putfield 24, 3) := by decide +kernel
theorem dX3_renew_15 : decode cX3_renew 15 = .ok (.return_, 1) := by decide +kernel
theorem dX3_isMade_0 : decode cX3_isMade 0 = .ok (.aload_n 0, 1) := by decide +kernel
theorem dX3_isMade_1 : decode cX3_isMade 1 = .ok (.getfield 16, 3) := by decide +kernel
theorem dX3_isMade_4 : decode cX3_isMade 4 = .ok (.ireturn, 1) := by decide +kernel
theorem dX3_rowCount_0 : decode cX3_rowCount 0 = .ok (.aload_n 0, 1) := by decide +kernel
theorem dX3_rowCount_1 : decode cX3_rowCount 1 = .ok (.getfield 20, 3) := by decide +kernel
theorem dX3_rowCount_4 : decode cX3_rowCount 4 = .ok (.ireturn, 1) := by decide +kernel
theorem dX3_columnCount_0 : decode cX3_columnCount 0 = .ok (.aload_n 0, 1) := by decide +kernel
theorem dX3_columnCount_1 : decode cX3_columnCount 1 = .ok (.getfield 24, 3) := by decide +kernel
theorem dX3_columnCount_4 : decode cX3_columnCount 4 = .ok (.ireturn, 1) := by decide +kernel
theorem dX3_numberAt_0 : decode cX3_numberAt 0 = .ok (.aload_n 0, 1) := by decide +kernel
theorem dX3_numberAt_1 : decode cX3_numberAt 1 = .ok (.getfield 13, 3) := by decide +kernel
theorem dX3_numberAt_4 : decode cX3_numberAt 4 = .ok (.iload_n 1, 1) := by decide +kernel
theorem dX3_numberAt_5 : decode cX3_numberAt 5 = .ok (.aaload, 1) := by decide +kernel
theorem dX3_numberAt_6 : decode cX3_numberAt 6 = .ok (.iload_n 2, 1) := by decide +kernel
theorem dX3_numberAt_7 : decode cX3_numberAt 7 = .ok (.iaload, 1) := by decide +kernel
theorem dX3_numberAt_8 : decode cX3_numberAt 8 = .ok (.ireturn, 1) := by decide +kernel
theorem dX4_init_0 : decode cX4_init 0 = .ok (.aload_n 0, 1) := by decide +kernel
theorem dX4_init_1 : decode cX4_init 1 = .ok (.invokespecial 3, 3) := by decide +kernel
theorem dX4_init_4 : decode cX4_init 4 = .ok (.aload_n 0, 1) := by decide +kernel
theorem dX4_init_5 : decode cX4_init 5 = .ok (.bipush 8, 2) := by decide +kernel
theorem dX4_init_7 : decode cX4_init 7 = .ok (.newarray .int, 2) := by decide +kernel
theorem dX4_init_9 : decode cX4_init 9 = .ok (.putfield 9, 3) := by decide +kernel
theorem dX4_init_12 : decode cX4_init 12 = .ok (.aload_n 0, 1) := by decide +kernel
theorem dX4_init_13 : decode cX4_init 13 = .ok (.bipush 39, 2) := by decide +kernel
theorem dX4_init_15 : decode cX4_init 15 = .ok (.newarray .int, 2) := by decide +kernel
theorem dX4_init_17 : decode cX4_init 17 = .ok (.putfield 15, 3) := by decide +kernel
theorem dX4_init_20 : decode cX4_init 20 = .ok (.aload_n 0, 1) := by decide +kernel
theorem dX4_init_21 : decode cX4_init 21 = .ok (.bipush 39, 2) := by decide +kernel
theorem dX4_init_23 : decode cX4_init 23 = .ok (.newarray .long, 2) := by decide +kernel
theorem dX4_init_25 : decode cX4_init 25 = .ok (.putfield 18, 3) := by decide +kernel
theorem dX4_init_28 : decode cX4_init 28 = .ok (.aload_n 0, 1) := by decide +kernel
theorem dX4_init_29 : decode cX4_init 29 = .ok (.bipush 39, 2) := by decide +kernel
theorem dX4_init_31 : decode cX4_init 31 = .ok (.newarray .short, 2) := by decide +kernel
theorem dX4_init_33 : decode cX4_init 33 = .ok (.putfield 22, 3) := by decide +kernel
theorem dX4_init_36 : decode cX4_init 36 = .ok (.aload_n 0, 1) := by decide +kernel
theorem dX4_init_37 : decode cX4_init 37 = .ok (.bipush 39, 2) := by decide +kernel
theorem dX4_init_39 : decode cX4_init 39 = .ok (.newarray .byte, 2) := by decide +kernel
theorem dX4_init_41 : decode cX4_init 41 = .ok (.putfield 26, 3) := by decide +kernel
theorem dX4_init_44 : decode cX4_init 44 = .ok (.aload_n 0, 1) := by decide +kernel
theorem dX4_init_45 : decode cX4_init 45 = .ok (.bipush 39, 2) := by decide +kernel
theorem dX4_init_47 : decode cX4_init 47 = .ok (.newarray .char, 2) := by decide +kernel
theorem dX4_init_49 : decode cX4_init 49 = .ok (.putfield 30, 3) := by decide +kernel
theorem dX4_init_52 : decode cX4_init 52 = .ok (.aload_n 0, 1) := by decide +kernel
theorem dX4_init_53 : decode cX4_init 53 = .ok (.bipush 39, 2) := by decide +kernel
theorem dX4_init_55 : decode cX4_init 55 = .ok (.newarray .boolean, 2) := by decide +kernel
theorem dX4_init_57 : decode cX4_init 57 = .ok (.putfield 34, 3) := by decide +kernel
theorem dX4_init_60 : decode cX4_init 60 = .ok (.aload_n 0, 1) := by decide +kernel
theorem dX4_init_61 : decode cX4_init 61 = .ok (.bipush 39, 2) := by decide +kernel
theorem dX4_init_63 : decode cX4_init 63 = .ok (.newarray .float, 2) := by decide +kernel
theorem dX4_init_65 : decode cX4_init 65 = .ok (.putfield 38, 3) := by decide +kernel
theorem dX4_init_68 : decode cX4_init 68 = .ok (.aload_n 0, 1) := by decide +kernel
theorem dX4_init_69 : decode cX4_init 69 = .ok (.bipush 39, 2) := by decide +kernel
theorem dX4_init_71 : decode cX4_init 71 = .ok (.newarray .double, 2) := by decide +kernel
theorem dX4_init_73 : decode cX4_init 73 = .ok (.putfield 42, 3) := by decide +kernel
theorem dX4_init_76 : decode cX4_init 76 = .ok (.iconst 0, 1) := by decide +kernel
theorem dX4_init_77 : decode cX4_init 77 = .ok (.istore_n 1, 1) := by decide +kernel
theorem dX4_init_78 : decode cX4_init 78 = .ok (.iload_n 1, 1) := by decide +kernel
theorem dX4_init_79 : decode cX4_init 79 = .ok (.bipush 8, 2) := by decide +kernel
theorem dX4_init_81 : decode cX4_init 81 = .ok (.if_icmp .ge 16, 3) := by decide +kernel
theorem dX4_init_84 : decode cX4_init 84 = .ok (.aload_n 0, 1) := by decide +kernel
theorem dX4_init_85 : decode cX4_init 85 = .ok (.getfield 9, 3) := by decide +kernel
theorem dX4_init_88 : decode cX4_init 88 = .ok (.iload_n 1, 1) := by decide +kernel
theorem dX4_init_89 : decode cX4_init 89 = .ok (.iconst 3, 1) := by decide +kernel
theorem dX4_init_90 : decode cX4_init 90 = .ok (.iastore, 1) := by decide +kernel
theorem dX4_init_91 : decode cX4_init 91 = .ok (.iinc 1 1, 3) := by decide +kernel
theorem dX4_init_94 : decode cX4_init 94 = .ok (.goto (-16), 3) := by decide +kernel
theorem dX4_init_97 : decode cX4_init 97 = .ok (.return_, 1) := by decide +kernel
theorem dX4_cellCount_0 : decode cX4_cellCount 0 = .ok (.aload_n 0, 1) := by decide +kernel
theorem dX4_cellCount_1 : decode cX4_cellCount 1 = .ok (.getfield 9, 3) := by decide +kernel
theorem dX4_cellCount_4 : decode cX4_cellCount 4 = .ok (.iload_n 1, 1) := by decide +kernel
theorem dX4_cellCount_5 : decode cX4_cellCount 5 = .ok (.iaload, 1) := by decide +kernel
theorem dX4_cellCount_6 : decode cX4_cellCount 6 = .ok (.ireturn, 1) := by decide +kernel
theorem dX4_renew_0 : decode cX4_renew 0 = .ok (.iconst 0, 1) := by decide +kernel
theorem dX4_renew_1 : decode cX4_renew 1 = .ok (.istore_n 3, 1) := by decide +kernel
theorem dX4_renew_2 : decode cX4_renew 2 = .ok (.iload_n 3, 1) := by decide +kernel
theorem dX4_renew_3 : decode cX4_renew 3 = .ok (.iload_n 2, 1) := by decide +kernel
theorem dX4_renew_4 : decode cX4_renew 4 = .ok (.if_icmp .ge 16, 3) := by decide +kernel
theorem dX4_renew_7 : decode cX4_renew 7 = .ok (.aload_n 0, 1) := by decide +kernel
theorem dX4_renew_8 : decode cX4_renew 8 = .ok (.iload_n 1, 1) := by decide +kernel
theorem dX4_renew_9 : decode cX4_renew 9 = .ok (.iload_n 3, 1) := by decide +kernel
theorem dX4_renew_10 : decode cX4_renew 10 = .ok (.iconst 0, 1) := by decide +kernel
theorem dX4_renew_11 : decode cX4_renew 11 = .ok (.invokevirtual 46, 3) := by decide +kernel
theorem dX4_renew_14 : decode cX4_renew 14 = .ok (.iinc 3 1, 3) := by decide +kernel
theorem dX4_renew_17 : decode cX4_renew 17 = .ok (.goto (-15), 3) := by decide +kernel
theorem dX4_renew_20 : decode cX4_renew 20 = .ok (.aload_n 0, 1) := by decide +kernel
theorem dX4_renew_21 : decode cX4_renew 21 = .ok (.getfield 9, 3) := by decide +kernel
theorem dX4_renew_24 : decode cX4_renew 24 = .ok (.iload_n 1, 1) := by decide +kernel
theorem dX4_renew_25 : decode cX4_renew 25 = .ok (.iload_n 2, 1) := by decide +kernel
theorem dX4_renew_26 : decode cX4_renew 26 = .ok (.iastore, 1) := by decide +kernel
theorem dX4_renew_27 : decode cX4_renew 27 = .ok (.return_, 1) := by decide +kernel
theorem dX4_numberAt_0 : decode cX4_numberAt 0 = .ok (.iload_n 1, 1) := by decide +kernel
theorem dX4_numberAt_1 : decode cX4_numberAt 1 = .ok (.tableswitch 119 0 6 #[43, 53, 62, 72, 82, 92, 109], 43) := by decide +kernel
theorem dX4_numberAt_44 : decode cX4_numberAt 44 = .ok (.aload_n 0, 1) := by decide +kernel
theorem dX4_numberAt_45 : decode cX4_numberAt 45 = .ok (.getfield 15, 3) := by decide +kernel
theorem dX4_numberAt_48 : decode cX4_numberAt 48 = .ok (.iload_n 2, 1) := by decide +kernel
theorem dX4_numberAt_49 : decode cX4_numberAt 49 = .ok (.iaload, 1) := by decide +kernel
theorem dX4_numberAt_50 : decode cX4_numberAt 50 = .ok (.i2l, 1) := by decide +kernel
theorem dX4_numberAt_51 : decode cX4_numberAt 51 = .ok (.goto 76, 3) := by decide +kernel
theorem dX4_numberAt_54 : decode cX4_numberAt 54 = .ok (.aload_n 0, 1) := by decide +kernel
theorem dX4_numberAt_55 : decode cX4_numberAt 55 = .ok (.getfield 18, 3) := by decide +kernel
theorem dX4_numberAt_58 : decode cX4_numberAt 58 = .ok (.iload_n 2, 1) := by decide +kernel
theorem dX4_numberAt_59 : decode cX4_numberAt 59 = .ok (.laload, 1) := by decide +kernel
theorem dX4_numberAt_60 : decode cX4_numberAt 60 = .ok (.goto 67, 3) := by decide +kernel
theorem dX4_numberAt_63 : decode cX4_numberAt 63 = .ok (.aload_n 0, 1) := by decide +kernel
theorem dX4_numberAt_64 : decode cX4_numberAt 64 = .ok (.getfield 22, 3) := by decide +kernel
theorem dX4_numberAt_67 : decode cX4_numberAt 67 = .ok (.iload_n 2, 1) := by decide +kernel
theorem dX4_numberAt_68 : decode cX4_numberAt 68 = .ok (.saload, 1) := by decide +kernel
theorem dX4_numberAt_69 : decode cX4_numberAt 69 = .ok (.i2l, 1) := by decide +kernel
theorem dX4_numberAt_70 : decode cX4_numberAt 70 = .ok (.goto 57, 3) := by decide +kernel
theorem dX4_numberAt_73 : decode cX4_numberAt 73 = .ok (.aload_n 0, 1) := by decide +kernel
theorem dX4_numberAt_74 : decode cX4_numberAt 74 = .ok (.getfield 26, 3) := by decide +kernel
theorem dX4_numberAt_77 : decode cX4_numberAt 77 = .ok (.iload_n 2, 1) := by decide +kernel
theorem dX4_numberAt_78 : decode cX4_numberAt 78 = .ok (.baload, 1) := by decide +kernel
theorem dX4_numberAt_79 : decode cX4_numberAt 79 = .ok (.i2l, 1) := by decide +kernel
theorem dX4_numberAt_80 : decode cX4_numberAt 80 = .ok (.goto 47, 3) := by decide +kernel
theorem dX4_numberAt_83 : decode cX4_numberAt 83 = .ok (.aload_n 0, 1) := by decide +kernel
theorem dX4_numberAt_84 : decode cX4_numberAt 84 = .ok (.getfield 30, 3) := by decide +kernel
theorem dX4_numberAt_87 : decode cX4_numberAt 87 = .ok (.iload_n 2, 1) := by decide +kernel
theorem dX4_numberAt_88 : decode cX4_numberAt 88 = .ok (.caload, 1) := by decide +kernel
theorem dX4_numberAt_89 : decode cX4_numberAt 89 = .ok (.i2l, 1) := by decide +kernel
theorem dX4_numberAt_90 : decode cX4_numberAt 90 = .ok (.goto 37, 3) := by decide +kernel
theorem dX4_numberAt_93 : decode cX4_numberAt 93 = .ok (.aload_n 0, 1) := by decide +kernel
theorem dX4_numberAt_94 : decode cX4_numberAt 94 = .ok (.getfield 34, 3) := by decide +kernel
theorem dX4_numberAt_97 : decode cX4_numberAt 97 = .ok (.iload_n 2, 1) := by decide +kernel
theorem dX4_numberAt_98 : decode cX4_numberAt 98 = .ok (.baload, 1) := by decide +kernel
theorem dX4_numberAt_99 : decode cX4_numberAt 99 = .ok (.ifCond .eq 7, 3) := by decide +kernel
theorem dX4_numberAt_102 : decode cX4_numberAt 102 = .ok (.lconst 1, 1) := by decide +kernel
theorem dX4_numberAt_103 : decode cX4_numberAt 103 = .ok (.goto 24, 3) := by decide +kernel
theorem dX4_numberAt_106 : decode cX4_numberAt 106 = .ok (.lconst 0, 1) := by decide +kernel
theorem dX4_numberAt_107 : decode cX4_numberAt 107 = .ok (.goto 20, 3) := by decide +kernel
theorem dX4_numberAt_110 : decode cX4_numberAt 110 = .ok (.aload_n 0, 1) := by decide +kernel
theorem dX4_numberAt_111 : decode cX4_numberAt 111 = .ok (.getfield 38, 3) := by decide +kernel
theorem dX4_numberAt_114 : decode cX4_numberAt 114 = .ok (.iload_n 2, 1) := by decide +kernel
theorem dX4_numberAt_115 : decode cX4_numberAt 115 = .ok (.faload, 1) := by decide +kernel
theorem dX4_numberAt_116 : decode cX4_numberAt 116 = .ok (.f2l, 1) := by decide +kernel
theorem dX4_numberAt_117 : decode cX4_numberAt 117 = .ok (.goto 10, 3) := by decide +kernel
theorem dX4_numberAt_120 : decode cX4_numberAt 120 = .ok (.aload_n 0, 1) := by decide +kernel
theorem dX4_numberAt_121 : decode cX4_numberAt 121 = .ok (.getfield 42, 3) := by decide +kernel
theorem dX4_numberAt_124 : decode cX4_numberAt 124 = .ok (.iload_n 2, 1) := by decide +kernel
theorem dX4_numberAt_125 : decode cX4_numberAt 125 = .ok (.daload, 1) := by decide +kernel
theorem dX4_numberAt_126 : decode cX4_numberAt 126 = .ok (.d2l, 1) := by decide +kernel
theorem dX4_numberAt_127 : decode cX4_numberAt 127 = .ok (.lreturn, 1) := by decide +kernel
theorem dX4_store_0 : decode cX4_store 0 = .ok (.iload_n 1, 1) := by decide +kernel
theorem dX4_store_1 : decode cX4_store 1 = .ok (.tableswitch 126 0 6 #[43, 53, 64, 75, 86, 97, 115], 43) := by decide +kernel
theorem dX4_store_44 : decode cX4_store 44 = .ok (.aload_n 0, 1) := by decide +kernel
theorem dX4_store_45 : decode cX4_store 45 = .ok (.getfield 15, 3) := by decide +kernel
theorem dX4_store_48 : decode cX4_store 48 = .ok (.iload_n 2, 1) := by decide +kernel
theorem dX4_store_49 : decode cX4_store 49 = .ok (.iload_n 3, 1) := by decide +kernel
theorem dX4_store_50 : decode cX4_store 50 = .ok (.iastore, 1) := by decide +kernel
theorem dX4_store_51 : decode cX4_store 51 = .ok (.goto 84, 3) := by decide +kernel
theorem dX4_store_54 : decode cX4_store 54 = .ok (.aload_n 0, 1) := by decide +kernel
theorem dX4_store_55 : decode cX4_store 55 = .ok (.getfield 18, 3) := by decide +kernel
theorem dX4_store_58 : decode cX4_store 58 = .ok (.iload_n 2, 1) := by decide +kernel
theorem dX4_store_59 : decode cX4_store 59 = .ok (.iload_n 3, 1) := by decide +kernel
theorem dX4_store_60 : decode cX4_store 60 = .ok (.i2l, 1) := by decide +kernel
theorem dX4_store_61 : decode cX4_store 61 = .ok (.lastore, 1) := by decide +kernel
theorem dX4_store_62 : decode cX4_store 62 = .ok (.goto 73, 3) := by decide +kernel
theorem dX4_store_65 : decode cX4_store 65 = .ok (.aload_n 0, 1) := by decide +kernel
theorem dX4_store_66 : decode cX4_store 66 = .ok (.getfield 22, 3) := by decide +kernel
theorem dX4_store_69 : decode cX4_store 69 = .ok (.iload_n 2, 1) := by decide +kernel
theorem dX4_store_70 : decode cX4_store 70 = .ok (.iload_n 3, 1) := by decide +kernel
theorem dX4_store_71 : decode cX4_store 71 = .ok (.i2s, 1) := by decide +kernel
theorem dX4_store_72 : decode cX4_store 72 = .ok (.sastore, 1) := by decide +kernel
theorem dX4_store_73 : decode cX4_store 73 = .ok (.goto 62, 3) := by decide +kernel
theorem dX4_store_76 : decode cX4_store 76 = .ok (.aload_n 0, 1) := by decide +kernel
theorem dX4_store_77 : decode cX4_store 77 = .ok (.getfield 26, 3) := by decide +kernel
theorem dX4_store_80 : decode cX4_store 80 = .ok (.iload_n 2, 1) := by decide +kernel
theorem dX4_store_81 : decode cX4_store 81 = .ok (.iload_n 3, 1) := by decide +kernel
theorem dX4_store_82 : decode cX4_store 82 = .ok (.i2b, 1) := by decide +kernel
theorem dX4_store_83 : decode cX4_store 83 = .ok (.bastore, 1) := by decide +kernel
theorem dX4_store_84 : decode cX4_store 84 = .ok (.goto 51, 3) := by decide +kernel
theorem dX4_store_87 : decode cX4_store 87 = .ok (.aload_n 0, 1) := by decide +kernel
theorem dX4_store_88 : decode cX4_store 88 = .ok (.getfield 30, 3) := by decide +kernel
theorem dX4_store_91 : decode cX4_store 91 = .ok (.iload_n 2, 1) := by decide +kernel
theorem dX4_store_92 : decode cX4_store 92 = .ok (.iload_n 3, 1) := by decide +kernel
theorem dX4_store_93 : decode cX4_store 93 = .ok (.i2c, 1) := by decide +kernel
theorem dX4_store_94 : decode cX4_store 94 = .ok (.castore, 1) := by decide +kernel
theorem dX4_store_95 : decode cX4_store 95 = .ok (.goto 40, 3) := by decide +kernel
theorem dX4_store_98 : decode cX4_store 98 = .ok (.aload_n 0, 1) := by decide +kernel
theorem dX4_store_99 : decode cX4_store 99 = .ok (.getfield 34, 3) := by decide +kernel
theorem dX4_store_102 : decode cX4_store 102 = .ok (.iload_n 2, 1) := by decide +kernel
theorem dX4_store_103 : decode cX4_store 103 = .ok (.iload_n 3, 1) := by decide +kernel
theorem dX4_store_104 : decode cX4_store 104 = .ok (.ifCond .eq 7, 3) := by decide +kernel
theorem dX4_store_107 : decode cX4_store 107 = .ok (.iconst 1, 1) := by decide +kernel
theorem dX4_store_108 : decode cX4_store 108 = .ok (.goto 4, 3) := by decide +kernel
theorem dX4_store_111 : decode cX4_store 111 = .ok (.iconst 0, 1) := by decide +kernel
theorem dX4_store_112 : decode cX4_store 112 = .ok (.bastore, 1) := by decide +kernel
theorem dX4_store_113 : decode cX4_store 113 = .ok (.goto 22, 3) := by decide +kernel
theorem dX4_store_116 : decode cX4_store 116 = .ok (.aload_n 0, 1) := by decide +kernel
theorem dX4_store_117 : decode cX4_store 117 = .ok (.getfield 38, 3) := by decide +kernel
theorem dX4_store_120 : decode cX4_store 120 = .ok (.iload_n 2, 1) := by decide +kernel
theorem dX4_store_121 : decode cX4_store 121 = .ok (.iload_n 3, 1) := by decide +kernel
theorem dX4_store_122 : decode cX4_store 122 = .ok (.i2f, 1) := by decide +kernel
theorem dX4_store_123 : decode cX4_store 123 = .ok (.fastore, 1) := by decide +kernel
theorem dX4_store_124 : decode cX4_store 124 = .ok (.goto 11, 3) := by decide +kernel
theorem dX4_store_127 : decode cX4_store 127 = .ok (.aload_n 0, 1) := by decide +kernel
theorem dX4_store_128 : decode cX4_store 128 = .ok (.getfield 42, 3) := by decide +kernel
theorem dX4_store_131 : decode cX4_store 131 = .ok (.iload_n 2, 1) := by decide +kernel
theorem dX4_store_132 : decode cX4_store 132 = .ok (.iload_n 3, 1) := by decide +kernel
theorem dX4_store_133 : decode cX4_store 133 = .ok (.i2d, 1) := by decide +kernel
theorem dX4_store_134 : decode cX4_store 134 = .ok (.dastore, 1) := by decide +kernel
theorem dX4_store_135 : decode cX4_store 135 = .ok (.return_, 1) := by decide +kernel
theorem dX5_init_0 : decode cX5_init 0 = .ok (.aload_n 0, 1) := by decide +kernel
theorem dX5_init_1 : decode cX5_init 1 = .ok (.invokespecial 1, 3) := by decide +kernel
theorem dX5_init_4 : decode cX5_init 4 = .ok (.aload_n 0, 1) := by decide +kernel
theorem dX5_init_5 : decode cX5_init 5 = .ok (.new 7, 3) := by decide +kernel
theorem dX5_init_8 : decode cX5_init 8 = .ok (.dup, 1) := by decide +kernel
theorem dX5_init_9 : decode cX5_init 9 = .ok (.invokespecial 9, 3) := by decide +kernel
theorem dX5_init_12 : decode cX5_init 12 = .ok (.putfield 10, 3) := by decide +kernel
theorem dX5_init_15 : decode cX5_init 15 = .ok (.aload_n 0, 1) := by decide +kernel
theorem dX5_init_16 : decode cX5_init 16 = .ok (.new 16, 3) := by decide +kernel
theorem dX5_init_19 : decode cX5_init 19 = .ok (.dup, 1) := by decide +kernel
theorem dX5_init_20 : decode cX5_init 20 = .ok (.invokespecial 18, 3) := by decide +kernel
theorem dX5_init_23 : decode cX5_init 23 = .ok (.putfield 19, 3) := by decide +kernel
theorem dX5_init_26 : decode cX5_init 26 = .ok (.aload_n 0, 1) := by decide +kernel
theorem dX5_init_27 : decode cX5_init 27 = .ok (.new 23, 3) := by decide +kernel
theorem dX5_init_30 : decode cX5_init 30 = .ok (.dup, 1) := by decide +kernel
theorem dX5_init_31 : decode cX5_init 31 = .ok (.invokespecial 25, 3) := by decide +kernel
theorem dX5_init_34 : decode cX5_init 34 = .ok (.putfield 26, 3) := by decide +kernel
theorem dX5_init_37 : decode cX5_init 37 = .ok (.aload_n 0, 1) := by decide +kernel
theorem dX5_init_38 : decode cX5_init 38 = .ok (.iconst 0, 1) := by decide +kernel
theorem dX5_init_39 : decode cX5_init 39 = .ok (.putfield 30, 3) := by decide +kernel
theorem dX5_init_42 : decode cX5_init 42 = .ok (.aload_n 0, 1) := by decide +kernel
theorem dX5_init_43 : decode cX5_init 43 = .ok (.iconst 0, 1) := by decide +kernel
theorem dX5_init_44 : decode cX5_init 44 = .ok (.putfield 34, 3) := by decide +kernel
theorem dX5_init_47 : decode cX5_init 47 = .ok (.return_, 1) := by decide +kernel
theorem dX5_read_0 : decode cX5_read 0 = .ok (.iload_n 1, 1) := by decide +kernel
theorem dX5_read_1 : decode cX5_read 1 = .ok (.invokestatic 37, 3) := by decide +kernel
theorem dX5_read_4 : decode cX5_read 4 = .ok (.istore 4, 2) := by decide +kernel
theorem dX5_read_6 : decode cX5_read 6 = .ok (.iload_n 2, 1) := by decide +kernel
theorem dX5_read_7 : decode cX5_read 7 = .ok (.invokestatic 41, 3) := by decide +kernel
theorem dX5_read_10 : decode cX5_read 10 = .ok (.iload_n 3, 1) := by decide +kernel
theorem dX5_read_11 : decode cX5_read 11 = .ok (.aload_n 0, 1) := by decide +kernel
theorem dX5_read_12 : decode cX5_read 12 = .ok (.getfield 10, 3) := by decide +kernel
theorem dX5_read_15 : decode cX5_read 15 = .ok (.iload 4, 2) := by decide +kernel
theorem dX5_read_17 : decode cX5_read 17 = .ok (.invokevirtual 45, 3) := by decide +kernel
theorem dX5_read_20 : decode cX5_read 20 = .ok (.invokestatic 48, 3) := by decide +kernel
theorem dX5_read_23 : decode cX5_read 23 = .ok (.aload_n 0, 1) := by decide +kernel
theorem dX5_read_24 : decode cX5_read 24 = .ok (.getfield 10, 3) := by decide +kernel
theorem dX5_read_27 : decode cX5_read 27 = .ok (.iload 4, 2) := by decide +kernel
theorem dX5_read_29 : decode cX5_read 29 = .ok (.iload_n 3, 1) := by decide +kernel
theorem dX5_read_30 : decode cX5_read 30 = .ok (.invokevirtual 52, 3) := by decide +kernel
theorem dX5_read_33 : decode cX5_read 33 = .ok (.lreturn, 1) := by decide +kernel
theorem dX5_write_0 : decode cX5_write 0 = .ok (.iload_n 1, 1) := by decide +kernel
theorem dX5_write_1 : decode cX5_write 1 = .ok (.invokestatic 37, 3) := by decide +kernel
theorem dX5_write_4 : decode cX5_write 4 = .ok (.istore 5, 2) := by decide +kernel
theorem dX5_write_6 : decode cX5_write 6 = .ok (.iload_n 2, 1) := by decide +kernel
theorem dX5_write_7 : decode cX5_write 7 = .ok (.invokestatic 41, 3) := by decide +kernel
theorem dX5_write_10 : decode cX5_write 10 = .ok (.iload_n 3, 1) := by decide +kernel
theorem dX5_write_11 : decode cX5_write 11 = .ok (.aload_n 0, 1) := by decide +kernel
theorem dX5_write_12 : decode cX5_write 12 = .ok (.getfield 10, 3) := by decide +kernel
theorem dX5_write_15 : decode cX5_write 15 = .ok (.iload 5, 2) := by decide +kernel
theorem dX5_write_17 : decode cX5_write 17 = .ok (.invokevirtual 45, 3) := by decide +kernel
theorem dX5_write_20 : decode cX5_write 20 = .ok (.invokestatic 48, 3) := by decide +kernel
theorem dX5_write_23 : decode cX5_write 23 = .ok (.aload_n 0, 1) := by decide +kernel
theorem dX5_write_24 : decode cX5_write 24 = .ok (.getfield 10, 3) := by decide +kernel
theorem dX5_write_27 : decode cX5_write 27 = .ok (.iload 5, 2) := by decide +kernel
theorem dX5_write_29 : decode cX5_write 29 = .ok (.iload_n 3, 1) := by decide +kernel
theorem dX5_write_30 : decode cX5_write 30 = .ok (.iload 4, 2) := by decide +kernel
theorem dX5_write_32 : decode cX5_write 32 = .ok (.invokevirtual 56, 3) := by decide +kernel
theorem dX5_write_35 : decode cX5_write 35 = .ok (.aload_n 0, 1) := by decide +kernel
theorem dX5_write_36 : decode cX5_write 36 = .ok (.dup, 1) := by decide +kernel
theorem dX5_write_37 : decode cX5_write 37 = .ok (.getfield 30, 3) := by decide +kernel
theorem dX5_write_40 : decode cX5_write 40 = .ok (.iconst 1, 1) := by decide +kernel
theorem dX5_write_41 : decode cX5_write 41 = .ok (.iadd, 1) := by decide +kernel
theorem dX5_write_42 : decode cX5_write 42 = .ok (.putfield 30, 3) := by decide +kernel
theorem dX5_write_45 : decode cX5_write 45 = .ok (.aload_n 0, 1) := by decide +kernel
theorem dX5_write_46 : decode cX5_write 46 = .ok (.getfield 30, 3) := by decide +kernel
theorem dX5_write_49 : decode cX5_write 49 = .ok (.ireturn, 1) := by decide +kernel
theorem dX5_length_0 : decode cX5_length 0 = .ok (.iload_n 2, 1) := by decide +kernel
theorem dX5_length_1 : decode cX5_length 1 = .ok (.invokestatic 41, 3) := by decide +kernel
theorem dX5_length_4 : decode cX5_length 4 = .ok (.aload_n 0, 1) := by decide +kernel
theorem dX5_length_5 : decode cX5_length 5 = .ok (.getfield 10, 3) := by decide +kernel
theorem dX5_length_8 : decode cX5_length 8 = .ok (.iload_n 1, 1) := by decide +kernel
theorem dX5_length_9 : decode cX5_length 9 = .ok (.invokestatic 37, 3) := by decide +kernel
theorem dX5_length_12 : decode cX5_length 12 = .ok (.invokevirtual 45, 3) := by decide +kernel
theorem dX5_length_15 : decode cX5_length 15 = .ok (.ireturn, 1) := by decide +kernel
theorem dX5_make_0 : decode cX5_make 0 = .ok (.iload_n 2, 1) := by decide +kernel
theorem dX5_make_1 : decode cX5_make 1 = .ok (.bipush 40, 2) := by decide +kernel
theorem dX5_make_3 : decode cX5_make 3 = .ok (.irem, 1) := by decide +kernel
theorem dX5_make_4 : decode cX5_make 4 = .ok (.istore_n 3, 1) := by decide +kernel
theorem dX5_make_5 : decode cX5_make 5 = .ok (.iload_n 3, 1) := by decide +kernel
theorem dX5_make_6 : decode cX5_make 6 = .ok (.invokestatic 60, 3) := by decide +kernel
theorem dX5_make_9 : decode cX5_make 9 = .ok (.aload_n 0, 1) := by decide +kernel
theorem dX5_make_10 : decode cX5_make 10 = .ok (.getfield 10, 3) := by decide +kernel
theorem dX5_make_13 : decode cX5_make 13 = .ok (.iload_n 1, 1) := by decide +kernel
theorem dX5_make_14 : decode cX5_make 14 = .ok (.invokestatic 37, 3) := by decide +kernel
theorem dX5_make_17 : decode cX5_make 17 = .ok (.iload_n 3, 1) := by decide +kernel
theorem dX5_make_18 : decode cX5_make 18 = .ok (.invokevirtual 64, 3) := by decide +kernel
theorem dX5_make_21 : decode cX5_make 21 = .ok (.iload_n 3, 1) := by decide +kernel
theorem dX5_make_22 : decode cX5_make 22 = .ok (.ireturn, 1) := by decide +kernel
theorem dX5_grid_0 : decode cX5_grid 0 = .ok (.iload_n 1, 1) := by decide +kernel
theorem dX5_grid_1 : decode cX5_grid 1 = .ok (.bipush 9, 2) := by decide +kernel
theorem dX5_grid_3 : decode cX5_grid 3 = .ok (.irem, 1) := by decide +kernel
theorem dX5_grid_4 : decode cX5_grid 4 = .ok (.istore_n 3, 1) := by decide +kernel
theorem dX5_grid_5 : decode cX5_grid 5 = .ok (.iload_n 2, 1) := by decide +kernel
theorem dX5_grid_6 : decode cX5_grid 6 = .ok (.bipush 9, 2) := by decide +kernel
theorem dX5_grid_8 : decode cX5_grid 8 = .ok (.irem, 1) := by decide +kernel
theorem dX5_grid_9 : decode cX5_grid 9 = .ok (.istore 4, 2) := by decide +kernel
theorem dX5_grid_11 : decode cX5_grid 11 = .ok (.iload_n 3, 1) := by decide +kernel
theorem dX5_grid_12 : decode cX5_grid 12 = .ok (.invokestatic 60, 3) := by decide +kernel
theorem dX5_grid_15 : decode cX5_grid 15 = .ok (.iload 4, 2) := by decide +kernel
theorem dX5_grid_17 : decode cX5_grid 17 = .ok (.invokestatic 60, 3) := by decide +kernel
theorem dX5_grid_20 : decode cX5_grid 20 = .ok (.aload_n 0, 1) := by decide +kernel
theorem dX5_grid_21 : decode cX5_grid 21 = .ok (.getfield 19, 3) := by decide +kernel
theorem dX5_grid_24 : decode cX5_grid 24 = .ok (.iload_n 3, 1) := by decide +kernel
theorem dX5_grid_25 : decode cX5_grid 25 = .ok (.iload 4, 2) := by decide +kernel
theorem dX5_grid_27 : decode cX5_grid 27 = .ok (.invokevirtual 67, 3) := by decide +kernel
theorem dX5_grid_30 : decode cX5_grid 30 = .ok (.iload_n 3, 1) := by decide +kernel
theorem dX5_grid_31 : decode cX5_grid 31 = .ok (.iload 4, 2) := by decide +kernel
theorem dX5_grid_33 : decode cX5_grid 33 = .ok (.imul, 1) := by decide +kernel
theorem dX5_grid_34 : decode cX5_grid 34 = .ok (.ireturn, 1) := by decide +kernel
theorem dX5_cell_0 : decode cX5_cell 0 = .ok (.aload_n 0, 1) := by decide +kernel
theorem dX5_cell_1 : decode cX5_cell 1 = .ok (.getfield 19, 3) := by decide +kernel
theorem dX5_cell_4 : decode cX5_cell 4 = .ok (.invokevirtual 68, 3) := by decide +kernel
theorem dX5_cell_7 : decode cX5_cell 7 = .ok (.invokestatic 41, 3) := by decide +kernel
theorem dX5_cell_10 : decode cX5_cell 10 = .ok (.iload_n 1, 1) := by decide +kernel
theorem dX5_cell_11 : decode cX5_cell 11 = .ok (.aload_n 0, 1) := by decide +kernel
theorem dX5_cell_12 : decode cX5_cell 12 = .ok (.getfield 19, 3) := by decide +kernel
theorem dX5_cell_15 : decode cX5_cell 15 = .ok (.invokevirtual 72, 3) := by decide +kernel
theorem dX5_cell_18 : decode cX5_cell 18 = .ok (.invokestatic 48, 3) := by decide +kernel
theorem dX5_cell_21 : decode cX5_cell 21 = .ok (.iload_n 2, 1) := by decide +kernel
theorem dX5_cell_22 : decode cX5_cell 22 = .ok (.aload_n 0, 1) := by decide +kernel
theorem dX5_cell_23 : decode cX5_cell 23 = .ok (.getfield 19, 3) := by decide +kernel
theorem dX5_cell_26 : decode cX5_cell 26 = .ok (.invokevirtual 76, 3) := by decide +kernel
theorem dX5_cell_29 : decode cX5_cell 29 = .ok (.invokestatic 48, 3) := by decide +kernel
theorem dX5_cell_32 : decode cX5_cell 32 = .ok (.aload_n 0, 1) := by decide +kernel
theorem dX5_cell_33 : decode cX5_cell 33 = .ok (.getfield 19, 3) := by decide +kernel
theorem dX5_cell_36 : decode cX5_cell 36 = .ok (.iload_n 1, 1) := by decide +kernel
theorem dX5_cell_37 : decode cX5_cell 37 = .ok (.iload_n 2, 1) := by decide +kernel
theorem dX5_cell_38 : decode cX5_cell 38 = .ok (.invokevirtual 79, 3) := by decide +kernel
theorem dX5_cell_41 : decode cX5_cell 41 = .ok (.ireturn, 1) := by decide +kernel
theorem dX5_boxes_0 : decode cX5_boxes 0 = .ok (.iload_n 1, 1) := by decide +kernel
theorem dX5_boxes_1 : decode cX5_boxes 1 = .ok (.bipush 20, 2) := by decide +kernel
theorem dX5_boxes_3 : decode cX5_boxes 3 = .ok (.irem, 1) := by decide +kernel
theorem dX5_boxes_4 : decode cX5_boxes 4 = .ok (.istore_n 3, 1) := by decide +kernel
theorem dX5_boxes_5 : decode cX5_boxes 5 = .ok (.iload_n 3, 1) := by decide +kernel
theorem dX5_boxes_6 : decode cX5_boxes 6 = .ok (.invokestatic 60, 3) := by decide +kernel
theorem dX5_boxes_9 : decode cX5_boxes 9 = .ok (.aload_n 0, 1) := by decide +kernel
theorem dX5_boxes_10 : decode cX5_boxes 10 = .ok (.getfield 26, 3) := by decide +kernel
theorem dX5_boxes_13 : decode cX5_boxes 13 = .ok (.iload_n 3, 1) := by decide +kernel
theorem dX5_boxes_14 : decode cX5_boxes 14 = .ok (.iload_n 2, 1) := by decide +kernel
theorem dX5_boxes_15 : decode cX5_boxes 15 = .ok (.invokevirtual 82, 3) := by decide +kernel
theorem dX5_boxes_18 : decode cX5_boxes 18 = .ok (.iload_n 3, 1) := by decide +kernel
theorem dX5_boxes_19 : decode cX5_boxes 19 = .ok (.ireturn, 1) := by decide +kernel
theorem dX5_put_0 : decode cX5_put 0 = .ok (.aload_n 0, 1) := by decide +kernel
theorem dX5_put_1 : decode cX5_put 1 = .ok (.getfield 26, 3) := by decide +kernel
theorem dX5_put_4 : decode cX5_put 4 = .ok (.invokevirtual 85, 3) := by decide +kernel
theorem dX5_put_7 : decode cX5_put 7 = .ok (.ifCond .eq 11, 3) := by decide +kernel
theorem dX5_put_10 : decode cX5_put 10 = .ok (.iload_n 1, 1) := by decide +kernel
theorem dX5_put_11 : decode cX5_put 11 = .ok (.ifCond .eq 7, 3) := by decide +kernel
theorem dX5_put_14 : decode cX5_put 14 = .ok (.iconst 1, 1) := by decide +kernel
theorem dX5_put_15 : decode cX5_put 15 = .ok (.goto 4, 3) := by decide +kernel
theorem dX5_put_18 : decode cX5_put 18 = .ok (.iconst 0, 1) := by decide +kernel
theorem dX5_put_19 : decode cX5_put 19 = .ok (.invokestatic 41, 3) := by decide +kernel
theorem dX5_put_22 : decode cX5_put 22 = .ok (.iload_n 2, 1) := by decide +kernel
theorem dX5_put_23 : decode cX5_put 23 = .ok (.aload_n 0, 1) := by decide +kernel
theorem dX5_put_24 : decode cX5_put 24 = .ok (.getfield 26, 3) := by decide +kernel
theorem dX5_put_27 : decode cX5_put 27 = .ok (.invokevirtual 86, 3) := by decide +kernel
theorem dX5_put_30 : decode cX5_put 30 = .ok (.invokestatic 48, 3) := by decide +kernel
theorem dX5_put_33 : decode cX5_put 33 = .ok (.iload_n 3, 1) := by decide +kernel
theorem dX5_put_34 : decode cX5_put 34 = .ok (.iload 4, 2) := by decide +kernel
theorem dX5_put_36 : decode cX5_put 36 = .ok (.invokestatic 89, 3) := by decide +kernel
theorem dX5_put_39 : decode cX5_put 39 = .ok (.astore 5, 2) := by decide +kernel
theorem dX5_put_41 : decode cX5_put 41 = .ok (.aload_n 0, 1) := by decide +kernel
theorem dX5_put_42 : decode cX5_put 42 = .ok (.getfield 26, 3) := by decide +kernel
theorem dX5_put_45 : decode cX5_put 45 = .ok (.aload 5, 2) := by decide +kernel
theorem dX5_put_47 : decode cX5_put 47 = .ok (.invokevirtual 93, 3) := by decide +kernel
theorem dX5_put_50 : decode cX5_put 50 = .ok (.ifCond .ne 13, 3) := by decide +kernel
theorem dX5_put_53 : decode cX5_put 53 = .ok (.new 97, 3) := by decide +kernel
theorem dX5_put_56 : decode cX5_put 56 = .ok (.dup, 1) := by decide +kernel
theorem dX5_put_57 : decode cX5_put 57 = .ok (.ldc 99, 2) := by decide +kernel
theorem dX5_put_59 : decode cX5_put 59 = .ok (.invokespecial 101, 3) := by decide +kernel
theorem dX5_put_62 : decode cX5_put 62 = .ok (.athrow, 1) := by decide +kernel
theorem dX5_put_63 : decode cX5_put 63 = .ok (.aload_n 0, 1) := by decide +kernel
theorem dX5_put_64 : decode cX5_put 64 = .ok (.getfield 26, 3) := by decide +kernel
theorem dX5_put_67 : decode cX5_put 67 = .ok (.iload_n 2, 1) := by decide +kernel
theorem dX5_put_68 : decode cX5_put 68 = .ok (.aload 5, 2) := by decide +kernel
theorem dX5_put_70 : decode cX5_put 70 = .ok (.invokevirtual 104, 3) := by decide +kernel
theorem dX5_put_73 : decode cX5_put 73 = .ok (.aload_n 0, 1) := by decide +kernel
theorem dX5_put_74 : decode cX5_put 74 = .ok (.dup, 1) := by decide +kernel
theorem dX5_put_75 : decode cX5_put 75 = .ok (.getfield 34, 3) := by decide +kernel
theorem dX5_put_78 : decode cX5_put 78 = .ok (.iconst 1, 1) := by decide +kernel
theorem dX5_put_79 : decode cX5_put 79 = .ok (.iadd, 1) := by decide +kernel
theorem dX5_put_80 : decode cX5_put 80 = .ok (.putfield 34, 3) := by decide +kernel
theorem dX5_put_83 : decode cX5_put 83 = .ok (.aload_n 0, 1) := by decide +kernel
theorem dX5_put_84 : decode cX5_put 84 = .ok (.getfield 34, 3) := by decide +kernel
theorem dX5_put_87 : decode cX5_put 87 = .ok (.ireturn, 1) := by decide +kernel
theorem dX5_value_0 : decode cX5_value 0 = .ok (.aload_n 0, 1) := by decide +kernel
theorem dX5_value_1 : decode cX5_value 1 = .ok (.iload_n 1, 1) := by decide +kernel
theorem dX5_value_2 : decode cX5_value 2 = .ok (.invokevirtual 107, 3) := by decide +kernel
theorem dX5_value_5 : decode cX5_value 5 = .ok (.getfield 111, 3) := by decide +kernel
theorem dX5_value_8 : decode cX5_value 8 = .ok (.ireturn, 1) := by decide +kernel
theorem dX5_change_0 : decode cX5_change 0 = .ok (.aload_n 0, 1) := by decide +kernel
theorem dX5_change_1 : decode cX5_change 1 = .ok (.iload_n 1, 1) := by decide +kernel
theorem dX5_change_2 : decode cX5_change 2 = .ok (.invokevirtual 107, 3) := by decide +kernel
theorem dX5_change_5 : decode cX5_change 5 = .ok (.astore_n 3, 1) := by decide +kernel
theorem dX5_change_6 : decode cX5_change 6 = .ok (.aload_n 3, 1) := by decide +kernel
theorem dX5_change_7 : decode cX5_change 7 = .ok (.getfield 111, 3) := by decide +kernel
theorem dX5_change_10 : decode cX5_change 10 = .ok (.istore 4, 2) := by decide +kernel
theorem dX5_change_12 : decode cX5_change 12 = .ok (.aload_n 3, 1) := by decide +kernel
theorem dX5_change_13 : decode cX5_change 13 = .ok (.iload_n 2, 1) := by decide +kernel
theorem dX5_change_14 : decode cX5_change 14 = .ok (.putfield 111, 3) := by decide +kernel
theorem dX5_change_17 : decode cX5_change 17 = .ok (.iload 4, 2) := by decide +kernel
theorem dX5_change_19 : decode cX5_change 19 = .ok (.ireturn, 1) := by decide +kernel
theorem dX5_weigh_0 : decode cX5_weigh 0 = .ok (.aload_n 0, 1) := by decide +kernel
theorem dX5_weigh_1 : decode cX5_weigh 1 = .ok (.iload_n 1, 1) := by decide +kernel
theorem dX5_weigh_2 : decode cX5_weigh 2 = .ok (.invokevirtual 107, 3) := by decide +kernel
theorem dX5_weigh_5 : decode cX5_weigh 5 = .ok (.iload_n 2, 1) := by decide +kernel
theorem dX5_weigh_6 : decode cX5_weigh 6 = .ok (.invokevirtual 116, 3) := by decide +kernel
theorem dX5_weigh_9 : decode cX5_weigh 9 = .ok (.ireturn, 1) := by decide +kernel
theorem dX5_roll_0 : decode cX5_roll 0 = .ok (.aload_n 0, 1) := by decide +kernel
theorem dX5_roll_1 : decode cX5_roll 1 = .ok (.iload_n 1, 1) := by decide +kernel
theorem dX5_roll_2 : decode cX5_roll 2 = .ok (.invokevirtual 107, 3) := by decide +kernel
theorem dX5_roll_5 : decode cX5_roll 5 = .ok (.astore_n 3, 1) := by decide +kernel
theorem dX5_roll_6 : decode cX5_roll 6 = .ok (.aload_n 3, 1) := by decide +kernel
theorem dX5_roll_7 : decode cX5_roll 7 = .ok (.instanceof 119, 3) := by decide +kernel
theorem dX5_roll_10 : decode cX5_roll 10 = .ok (.ifCond .eq 16, 3) := by decide +kernel
theorem dX5_roll_13 : decode cX5_roll 13 = .ok (.aload_n 3, 1) := by decide +kernel
theorem dX5_roll_14 : decode cX5_roll 14 = .ok (.checkcast 119, 3) := by decide +kernel
theorem dX5_roll_17 : decode cX5_roll 17 = .ok (.astore 4, 2) := by decide +kernel
theorem dX5_roll_19 : decode cX5_roll 19 = .ok (.aload 4, 2) := by decide +kernel
theorem dX5_roll_21 : decode cX5_roll 21 = .ok (.iload_n 2, 1) := by decide +kernel
theorem dX5_roll_22 : decode cX5_roll 22 = .ok (.invokevirtual 121, 3) := by decide +kernel
theorem dX5_roll_25 : decode cX5_roll 25 = .ok (.ireturn, 1) := by decide +kernel
theorem dX5_roll_26 : decode cX5_roll 26 = .ok (.new 124, 3) := by decide +kernel
theorem dX5_roll_29 : decode cX5_roll 29 = .ok (.dup, 1) := by decide +kernel
theorem dX5_roll_30 : decode cX5_roll 30 = .ok (.ldc 99, 2) := by decide +kernel
theorem dX5_roll_32 : decode cX5_roll 32 = .ok (.invokespecial 126, 3) := by decide +kernel
theorem dX5_roll_35 : decode cX5_roll 35 = .ok (.athrow, 1) := by decide +kernel
theorem dX5_divide_0 : decode cX5_divide 0 = .ok (.iload_n 2, 1) := by decide +kernel
theorem dX5_divide_1 : decode cX5_divide 1 = .ok (.i2l, 1) := by decide +kernel
theorem dX5_divide_2 : decode cX5_divide 2 = .ok (.invokestatic 127, 3) := by decide +kernel
theorem dX5_divide_5 : decode cX5_divide 5 = .ok (.iload_n 3, 1) := by decide +kernel
theorem dX5_divide_6 : decode cX5_divide 6 = .ok (.ifCond .eq 9, 3) := by decide +kernel
theorem dX5_divide_9 : decode cX5_divide 9 = .ok (.iload_n 1, 1) := by decide +kernel
theorem dX5_divide_10 : decode cX5_divide 10 = .ok (.iload_n 2, 1) := by decide +kernel
theorem dX5_divide_11 : decode cX5_divide 11 = .ok (.irem, 1) := by decide +kernel
theorem dX5_divide_12 : decode cX5_divide 12 = .ok (.goto 6, 3) := by decide +kernel
theorem dX5_divide_15 : decode cX5_divide 15 = .ok (.iload_n 1, 1) := by decide +kernel
theorem dX5_divide_16 : decode cX5_divide 16 = .ok (.iload_n 2, 1) := by decide +kernel
theorem dX5_divide_17 : decode cX5_divide 17 = .ok (.idiv, 1) := by decide +kernel
theorem dX5_divide_18 : decode cX5_divide 18 = .ok (.ireturn, 1) := by decide +kernel
theorem dX5_divideLong_0 : decode cX5_divideLong 0 = .ok (.lload_n 3, 1) := by decide +kernel
theorem dX5_divideLong_1 : decode cX5_divideLong 1 = .ok (.invokestatic 127, 3) := by decide +kernel
theorem dX5_divideLong_4 : decode cX5_divideLong 4 = .ok (.iload 5, 2) := by decide +kernel
theorem dX5_divideLong_6 : decode cX5_divideLong 6 = .ok (.ifCond .eq 9, 3) := by decide +kernel
theorem dX5_divideLong_9 : decode cX5_divideLong 9 = .ok (.lload_n 1, 1) := by decide +kernel
theorem dX5_divideLong_10 : decode cX5_divideLong 10 = .ok (.lload_n 3, 1) := by decide +kernel
theorem dX5_divideLong_11 : decode cX5_divideLong 11 = .ok (.lrem, 1) := by decide +kernel
theorem dX5_divideLong_12 : decode cX5_divideLong 12 = .ok (.goto 6, 3) := by decide +kernel
theorem dX5_divideLong_15 : decode cX5_divideLong 15 = .ok (.lload_n 1, 1) := by decide +kernel
theorem dX5_divideLong_16 : decode cX5_divideLong 16 = .ok (.lload_n 3, 1) := by decide +kernel
theorem dX5_divideLong_17 : decode cX5_divideLong 17 = .ok (.ldiv, 1) := by decide +kernel
theorem dX5_divideLong_18 : decode cX5_divideLong 18 = .ok (.lreturn, 1) := by decide +kernel
theorem dX5_raise_0 : decode cX5_raise 0 = .ok (.iload_n 1, 1) := by decide +kernel
theorem dX5_raise_1 : decode cX5_raise 1 = .ok (.invokestatic 41, 3) := by decide +kernel
theorem dX5_raise_4 : decode cX5_raise 4 = .ok (.new 131, 3) := by decide +kernel
theorem dX5_raise_7 : decode cX5_raise 7 = .ok (.dup, 1) := by decide +kernel
theorem dX5_raise_8 : decode cX5_raise 8 = .ok (.ldc 133, 2) := by decide +kernel
theorem dX5_raise_10 : decode cX5_raise 10 = .ok (.invokespecial 135, 3) := by decide +kernel
theorem dX5_raise_13 : decode cX5_raise 13 = .ok (.athrow, 1) := by decide +kernel
theorem dX5_kindOf_0 : decode cX5_kindOf 0 = .ok (.iload_n 0, 1) := by decide +kernel
theorem dX5_kindOf_1 : decode cX5_kindOf 1 = .ok (.bipush 7, 2) := by decide +kernel
theorem dX5_kindOf_3 : decode cX5_kindOf 3 = .ok (.iand, 1) := by decide +kernel
theorem dX5_kindOf_4 : decode cX5_kindOf 4 = .ok (.ireturn, 1) := by decide +kernel
theorem dX5_needThere_0 : decode cX5_needThere 0 = .ok (.iload_n 0, 1) := by decide +kernel
theorem dX5_needThere_1 : decode cX5_needThere 1 = .ok (.ifCond .ne 13, 3) := by decide +kernel
theorem dX5_needThere_4 : decode cX5_needThere 4 = .ok (.new 136, 3) := by decide +kernel
theorem dX5_needThere_7 : decode cX5_needThere 7 = .ok (.dup, 1) := by decide +kernel
theorem dX5_needThere_8 : decode cX5_needThere 8 = .ok (.ldc 138, 2) := by decide +kernel
theorem dX5_needThere_10 : decode cX5_needThere 10 = .ok (.invokespecial 140, 3) := by decide +kernel
theorem dX5_needThere_13 : decode cX5_needThere 13 = .ok (.athrow, 1) := by decide +kernel
theorem dX5_needThere_14 : decode cX5_needThere 14 = .ok (.return_, 1) := by decide +kernel
theorem dX5_needPlace_0 : decode cX5_needPlace 0 = .ok (.iload_n 0, 1) := by decide +kernel
theorem dX5_needPlace_1 : decode cX5_needPlace 1 = .ok (.ifCond .lt 8, 3) := by decide +kernel
theorem dX5_needPlace_4 : decode cX5_needPlace 4 = .ok (.iload_n 0, 1) := by decide +kernel
theorem dX5_needPlace_5 : decode cX5_needPlace 5 = .ok (.iload_n 1, 1) := by decide +kernel
theorem dX5_needPlace_6 : decode cX5_needPlace 6 = .ok (.if_icmp .lt 13, 3) := by decide +kernel
theorem dX5_needPlace_9 : decode cX5_needPlace 9 = .ok (.new 141, 3) := by decide +kernel
theorem dX5_needPlace_12 : decode cX5_needPlace 12 = .ok (.dup, 1) := by decide +kernel
theorem dX5_needPlace_13 : decode cX5_needPlace 13 = .ok (.ldc 143, 2) := by decide +kernel
theorem dX5_needPlace_15 : decode cX5_needPlace 15 = .ok (.invokespecial 145, 3) := by decide +kernel
theorem dX5_needPlace_18 : decode cX5_needPlace 18 = .ok (.athrow, 1) := by decide +kernel
theorem dX5_needPlace_19 : decode cX5_needPlace 19 = .ok (.return_, 1) := by decide +kernel
theorem dX5_needSize_0 : decode cX5_needSize 0 = .ok (.iload_n 0, 1) := by decide +kernel
theorem dX5_needSize_1 : decode cX5_needSize 1 = .ok (.ifCond .ge 13, 3) := by decide +kernel
theorem dX5_needSize_4 : decode cX5_needSize 4 = .ok (.new 146, 3) := by decide +kernel
theorem dX5_needSize_7 : decode cX5_needSize 7 = .ok (.dup, 1) := by decide +kernel
theorem dX5_needSize_8 : decode cX5_needSize 8 = .ok (.ldc 148, 2) := by decide +kernel
theorem dX5_needSize_10 : decode cX5_needSize 10 = .ok (.invokespecial 150, 3) := by decide +kernel
theorem dX5_needSize_13 : decode cX5_needSize 13 = .ok (.athrow, 1) := by decide +kernel
theorem dX5_needSize_14 : decode cX5_needSize 14 = .ok (.return_, 1) := by decide +kernel
theorem dX5_needDivisor_0 : decode cX5_needDivisor 0 = .ok (.lload_n 0, 1) := by decide +kernel
theorem dX5_needDivisor_1 : decode cX5_needDivisor 1 = .ok (.lconst 0, 1) := by decide +kernel
theorem dX5_needDivisor_2 : decode cX5_needDivisor 2 = .ok (.lcmp, 1) := by decide +kernel
theorem dX5_needDivisor_3 : decode cX5_needDivisor 3 = .ok (.ifCond .ne 13, 3) := by decide +kernel
theorem dX5_needDivisor_6 : decode cX5_needDivisor 6 = .ok (.new 131, 3) := by decide +kernel
theorem dX5_needDivisor_9 : decode cX5_needDivisor 9 = .ok (.dup, 1) := by decide +kernel
theorem dX5_needDivisor_10 : decode cX5_needDivisor 10 = .ok (.ldc 151, 2) := by decide +kernel
theorem dX5_needDivisor_12 : decode cX5_needDivisor 12 = .ok (.invokespecial 135, 3) := by decide +kernel
theorem dX5_needDivisor_15 : decode cX5_needDivisor 15 = .ok (.athrow, 1) := by decide +kernel
theorem dX5_needDivisor_16 : decode cX5_needDivisor 16 = .ok (.return_, 1) := by decide +kernel
theorem dX5_newBox_0 : decode cX5_newBox 0 = .ok (.iload_n 0, 1) := by decide +kernel
theorem dX5_newBox_1 : decode cX5_newBox 1 = .ok (.iconst 3, 1) := by decide +kernel
theorem dX5_newBox_2 : decode cX5_newBox 2 = .ok (.iand, 1) := by decide +kernel
theorem dX5_newBox_3 : decode cX5_newBox 3 = .ok (.lookupswitch 40 #[(0, 25), (1, 29)], 25) := by decide +kernel
theorem dX5_newBox_28 : decode cX5_newBox 28 = .ok (.aconst_null, 1) := by decide +kernel
theorem dX5_newBox_29 : decode cX5_newBox 29 = .ok (.goto 22, 3) := by decide +kernel
theorem dX5_newBox_32 : decode cX5_newBox 32 = .ok (.new 112, 3) := by decide +kernel
theorem dX5_newBox_35 : decode cX5_newBox 35 = .ok (.dup, 1) := by decide +kernel
theorem dX5_newBox_36 : decode cX5_newBox 36 = .ok (.iload_n 1, 1) := by decide +kernel
theorem dX5_newBox_37 : decode cX5_newBox 37 = .ok (.invokespecial 153, 3) := by decide +kernel
theorem dX5_newBox_40 : decode cX5_newBox 40 = .ok (.goto 11, 3) := by decide +kernel
theorem dX5_newBox_43 : decode cX5_newBox 43 = .ok (.new 119, 3) := by decide +kernel
theorem dX5_newBox_46 : decode cX5_newBox 46 = .ok (.dup, 1) := by decide +kernel
theorem dX5_newBox_47 : decode cX5_newBox 47 = .ok (.iload_n 1, 1) := by decide +kernel
theorem dX5_newBox_48 : decode cX5_newBox 48 = .ok (.invokespecial 155, 3) := by decide +kernel
theorem dX5_newBox_51 : decode cX5_newBox 51 = .ok (.areturn, 1) := by decide +kernel
theorem dX5_boxAt_0 : decode cX5_boxAt 0 = .ok (.aload_n 0, 1) := by decide +kernel
theorem dX5_boxAt_1 : decode cX5_boxAt 1 = .ok (.getfield 26, 3) := by decide +kernel
theorem dX5_boxAt_4 : decode cX5_boxAt 4 = .ok (.invokevirtual 85, 3) := by decide +kernel
theorem dX5_boxAt_7 : decode cX5_boxAt 7 = .ok (.invokestatic 41, 3) := by decide +kernel
theorem dX5_boxAt_10 : decode cX5_boxAt 10 = .ok (.iload_n 1, 1) := by decide +kernel
theorem dX5_boxAt_11 : decode cX5_boxAt 11 = .ok (.aload_n 0, 1) := by decide +kernel
theorem dX5_boxAt_12 : decode cX5_boxAt 12 = .ok (.getfield 26, 3) := by decide +kernel
theorem dX5_boxAt_15 : decode cX5_boxAt 15 = .ok (.invokevirtual 86, 3) := by decide +kernel
theorem dX5_boxAt_18 : decode cX5_boxAt 18 = .ok (.invokestatic 48, 3) := by decide +kernel
theorem dX5_boxAt_21 : decode cX5_boxAt 21 = .ok (.aload_n 0, 1) := by decide +kernel
theorem dX5_boxAt_22 : decode cX5_boxAt 22 = .ok (.getfield 26, 3) := by decide +kernel
theorem dX5_boxAt_25 : decode cX5_boxAt 25 = .ok (.iload_n 1, 1) := by decide +kernel
theorem dX5_boxAt_26 : decode cX5_boxAt 26 = .ok (.invokevirtual 156, 3) := by decide +kernel
theorem dX5_boxAt_29 : decode cX5_boxAt 29 = .ok (.astore_n 2, 1) := by decide +kernel
theorem dX5_boxAt_30 : decode cX5_boxAt 30 = .ok (.aload_n 2, 1) := by decide +kernel
theorem dX5_boxAt_31 : decode cX5_boxAt 31 = .ok (.ifnonnull 13, 3) := by decide +kernel
theorem dX5_boxAt_34 : decode cX5_boxAt 34 = .ok (.new 136, 3) := by decide +kernel
theorem dX5_boxAt_37 : decode cX5_boxAt 37 = .ok (.dup, 1) := by decide +kernel
theorem dX5_boxAt_38 : decode cX5_boxAt 38 = .ok (.ldc 159, 2) := by decide +kernel
theorem dX5_boxAt_40 : decode cX5_boxAt 40 = .ok (.invokespecial 140, 3) := by decide +kernel
theorem dX5_boxAt_43 : decode cX5_boxAt 43 = .ok (.athrow, 1) := by decide +kernel
theorem dX5_boxAt_44 : decode cX5_boxAt 44 = .ok (.aload_n 2, 1) := by decide +kernel
theorem dX5_boxAt_45 : decode cX5_boxAt 45 = .ok (.areturn, 1) := by decide +kernel
theorem dX6_init_0 : decode cX6_init 0 = .ok (.aload_n 0, 1) := by decide +kernel
theorem dX6_init_1 : decode cX6_init 1 = .ok (.invokespecial 1, 3) := by decide +kernel
theorem dX6_init_4 : decode cX6_init 4 = .ok (.aload_n 0, 1) := by decide +kernel
theorem dX6_init_5 : decode cX6_init 5 = .ok (.sipush 320, 3) := by decide +kernel
theorem dX6_init_8 : decode cX6_init 8 = .ok (.newarray .long, 2) := by decide +kernel
theorem dX6_init_10 : decode cX6_init 10 = .ok (.putfield 7, 3) := by decide +kernel
theorem dX6_init_13 : decode cX6_init 13 = .ok (.aload_n 0, 1) := by decide +kernel
theorem dX6_init_14 : decode cX6_init 14 = .ok (.bipush 8, 2) := by decide +kernel
theorem dX6_init_16 : decode cX6_init 16 = .ok (.newarray .int, 2) := by decide +kernel
theorem dX6_init_18 : decode cX6_init 18 = .ok (.putfield 13, 3) := by decide +kernel
theorem dX6_init_21 : decode cX6_init 21 = .ok (.aload_n 0, 1) := by decide +kernel
theorem dX6_init_22 : decode cX6_init 22 = .ok (.bipush 20, 2) := by decide +kernel
theorem dX6_init_24 : decode cX6_init 24 = .ok (.newarray .int, 2) := by decide +kernel
theorem dX6_init_26 : decode cX6_init 26 = .ok (.putfield 17, 3) := by decide +kernel
theorem dX6_init_29 : decode cX6_init 29 = .ok (.aload_n 0, 1) := by decide +kernel
theorem dX6_init_30 : decode cX6_init 30 = .ok (.bipush 20, 2) := by decide +kernel
theorem dX6_init_32 : decode cX6_init 32 = .ok (.newarray .int, 2) := by decide +kernel
theorem dX6_init_34 : decode cX6_init 34 = .ok (.putfield 20, 3) := by decide +kernel
theorem dX6_init_37 : decode cX6_init 37 = .ok (.iconst 0, 1) := by decide +kernel
theorem dX6_init_38 : decode cX6_init 38 = .ok (.istore_n 1, 1) := by decide +kernel
theorem dX6_init_39 : decode cX6_init 39 = .ok (.iload_n 1, 1) := by decide +kernel
theorem dX6_init_40 : decode cX6_init 40 = .ok (.bipush 8, 2) := by decide +kernel
theorem dX6_init_42 : decode cX6_init 42 = .ok (.if_icmp .ge 16, 3) := by decide +kernel
theorem dX6_init_45 : decode cX6_init 45 = .ok (.aload_n 0, 1) := by decide +kernel
theorem dX6_init_46 : decode cX6_init 46 = .ok (.getfield 13, 3) := by decide +kernel
theorem dX6_init_49 : decode cX6_init 49 = .ok (.iload_n 1, 1) := by decide +kernel
theorem dX6_init_50 : decode cX6_init 50 = .ok (.iconst 3, 1) := by decide +kernel
theorem dX6_init_51 : decode cX6_init 51 = .ok (.iastore, 1) := by decide +kernel
theorem dX6_init_52 : decode cX6_init 52 = .ok (.iinc 1 1, 3) := by decide +kernel
theorem dX6_init_55 : decode cX6_init 55 = .ok (.goto (-16), 3) := by decide +kernel
theorem dX6_init_58 : decode cX6_init 58 = .ok (.return_, 1) := by decide +kernel
theorem dX6_thrown_0 : decode cX6_thrown 0 = .ok (.aload_n 0, 1) := by decide +kernel
theorem dX6_thrown_1 : decode cX6_thrown 1 = .ok (.getfield 23, 3) := by decide +kernel
theorem dX6_thrown_4 : decode cX6_thrown 4 = .ok (.ireturn, 1) := by decide +kernel
theorem dX6_fails_0 : decode cX6_fails 0 = .ok (.aload_n 0, 1) := by decide +kernel
theorem dX6_fails_1 : decode cX6_fails 1 = .ok (.iload_n 1, 1) := by decide +kernel
theorem dX6_fails_2 : decode cX6_fails 2 = .ok (.putfield 23, 3) := by decide +kernel
theorem dX6_fails_5 : decode cX6_fails 5 = .ok (.iconst 0, 1) := by decide +kernel
theorem dX6_fails_6 : decode cX6_fails 6 = .ok (.ireturn, 1) := by decide +kernel
theorem dX6_nearest_0 : decode cX6_nearest 0 = .ok (.iload_n 0, 1) := by decide +kernel
theorem dX6_nearest_1 : decode cX6_nearest 1 = .ok (.ifCond .ge 9, 3) := by decide +kernel
theorem dX6_nearest_4 : decode cX6_nearest 4 = .ok (.iload_n 0, 1) := by decide +kernel
theorem dX6_nearest_5 : decode cX6_nearest 5 = .ok (.i2l, 1) := by decide +kernel
theorem dX6_nearest_6 : decode cX6_nearest 6 = .ok (.lneg, 1) := by decide +kernel
theorem dX6_nearest_7 : decode cX6_nearest 7 = .ok (.goto 5, 3) := by decide +kernel
theorem dX6_nearest_10 : decode cX6_nearest 10 = .ok (.iload_n 0, 1) := by decide +kernel
theorem dX6_nearest_11 : decode cX6_nearest 11 = .ok (.i2l, 1) := by decide +kernel
theorem dX6_nearest_12 : decode cX6_nearest 12 = .ok (.lstore_n 1, 1) := by decide +kernel
theorem dX6_nearest_13 : decode cX6_nearest 13 = .ok (.lload_n 1, 1) := by decide +kernel
theorem dX6_nearest_14 : decode cX6_nearest 14 = .ok (.lstore_n 3, 1) := by decide +kernel
theorem dX6_nearest_15 : decode cX6_nearest 15 = .ok (.iconst 0, 1) := by decide +kernel
theorem dX6_nearest_16 : decode cX6_nearest 16 = .ok (.istore 5, 2) := by decide +kernel
theorem dX6_nearest_18 : decode cX6_nearest 18 = .ok (.lload_n 3, 1) := by decide +kernel
theorem dX6_nearest_19 : decode cX6_nearest 19 = .ok (.ldc2_w 27, 3) := by decide +kernel
theorem dX6_nearest_22 : decode cX6_nearest 22 = .ok (.lcmp, 1) := by decide +kernel
theorem dX6_nearest_23 : decode cX6_nearest 23 = .ok (.ifCond .lt 13, 3) := by decide +kernel
theorem dX6_nearest_26 : decode cX6_nearest 26 = .ok (.lload_n 3, 1) := by decide +kernel
theorem dX6_nearest_27 : decode cX6_nearest 27 = .ok (.iconst 1, 1) := by decide +kernel
theorem dX6_nearest_28 : decode cX6_nearest 28 = .ok (.lshr, 1) := by decide +kernel
theorem dX6_nearest_29 : decode cX6_nearest 29 = .ok (.lstore_n 3, 1) := by decide +kernel
theorem dX6_nearest_30 : decode cX6_nearest 30 = .ok (.iinc 5 1, 3) := by decide +kernel
theorem dX6_nearest_33 : decode cX6_nearest 33 = .ok (.goto (-15), 3) := by decide +kernel
theorem dX6_nearest_36 : decode cX6_nearest 36 = .ok (.iload 5, 2) := by decide +kernel
theorem dX6_nearest_38 : decode cX6_nearest 38 = .ok (.ifCond .le 47, 3) := by decide +kernel
theorem dX6_nearest_41 : decode cX6_nearest 41 = .ok (.lload_n 1, 1) := by decide +kernel
theorem dX6_nearest_42 : decode cX6_nearest 42 = .ok (.lload_n 3, 1) := by decide +kernel
theorem dX6_nearest_43 : decode cX6_nearest 43 = .ok (.iload 5, 2) := by decide +kernel
theorem dX6_nearest_45 : decode cX6_nearest 45 = .ok (.lshl, 1) := by decide +kernel
theorem dX6_nearest_46 : decode cX6_nearest 46 = .ok (.lsub, 1) := by decide +kernel
theorem dX6_nearest_47 : decode cX6_nearest 47 = .ok (.lstore 6, 2) := by decide +kernel
theorem dX6_nearest_49 : decode cX6_nearest 49 = .ok (.lconst 1, 1) := by decide +kernel
theorem dX6_nearest_50 : decode cX6_nearest 50 = .ok (.iload 5, 2) := by decide +kernel
theorem dX6_nearest_52 : decode cX6_nearest 52 = .ok (.iconst 1, 1) := by decide +kernel
theorem dX6_nearest_53 : decode cX6_nearest 53 = .ok (.isub, 1) := by decide +kernel
theorem dX6_nearest_54 : decode cX6_nearest 54 = .ok (.lshl, 1) := by decide +kernel
theorem dX6_nearest_55 : decode cX6_nearest 55 = .ok (.lstore 8, 2) := by decide +kernel
theorem dX6_nearest_57 : decode cX6_nearest 57 = .ok (.lload 6, 2) := by decide +kernel
theorem dX6_nearest_59 : decode cX6_nearest 59 = .ok (.lload 8, 2) := by decide +kernel
theorem dX6_nearest_61 : decode cX6_nearest 61 = .ok (.lcmp, 1) := by decide +kernel
theorem dX6_nearest_62 : decode cX6_nearest 62 = .ok (.ifCond .gt 19, 3) := by decide +kernel
theorem dX6_nearest_65 : decode cX6_nearest 65 = .ok (.lload 6, 2) := by decide +kernel
theorem dX6_nearest_67 : decode cX6_nearest 67 = .ok (.lload 8, 2) := by decide +kernel
theorem dX6_nearest_69 : decode cX6_nearest 69 = .ok (.lcmp, 1) := by decide +kernel
theorem dX6_nearest_70 : decode cX6_nearest 70 = .ok (.ifCond .ne 15, 3) := by decide +kernel
theorem dX6_nearest_73 : decode cX6_nearest 73 = .ok (.lload_n 3, 1) := by decide +kernel
theorem dX6_nearest_74 : decode cX6_nearest 74 = .ok (.lconst 1, 1) := by decide +kernel
theorem dX6_nearest_75 : decode cX6_nearest 75 = .ok (.land, 1) := by decide +kernel
theorem dX6_nearest_76 : decode cX6_nearest 76 = .ok (.lconst 1, 1) := by decide +kernel
theorem dX6_nearest_77 : decode cX6_nearest 77 = .ok (.lcmp, 1) := by decide +kernel
theorem dX6_nearest_78 : decode cX6_nearest 78 = .ok (.ifCond .ne 7, 3) := by decide +kernel
theorem dX6_nearest_81 : decode cX6_nearest 81 = .ok (.lload_n 3, 1) := by decide +kernel
theorem dX6_nearest_82 : decode cX6_nearest 82 = .ok (.lconst 1, 1) := by decide +kernel
theorem dX6_nearest_83 : decode cX6_nearest 83 = .ok (.ladd, 1) := by decide +kernel
theorem dX6_nearest_84 : decode cX6_nearest 84 = .ok (.lstore_n 3, 1) := by decide +kernel
theorem dX6_nearest_85 : decode cX6_nearest 85 = .ok (.lload_n 3, 1) := by decide +kernel
theorem dX6_nearest_86 : decode cX6_nearest 86 = .ok (.iload 5, 2) := by decide +kernel
theorem dX6_nearest_88 : decode cX6_nearest 88 = .ok (.lshl, 1) := by decide +kernel
theorem dX6_nearest_89 : decode cX6_nearest 89 = .ok (.lstore_n 1, 1) := by decide +kernel
theorem dX6_nearest_90 : decode cX6_nearest 90 = .ok (.iload_n 0, 1) := by decide +kernel
theorem dX6_nearest_91 : decode cX6_nearest 91 = .ok (.ifCond .ge 8, 3) := by decide +kernel
theorem dX6_nearest_94 : decode cX6_nearest 94 = .ok (.lload_n 1, 1) := by decide +kernel
theorem dX6_nearest_95 : decode cX6_nearest 95 = .ok (.lneg, 1) := by decide +kernel
theorem dX6_nearest_96 : decode cX6_nearest 96 = .ok (.goto 4, 3) := by decide +kernel
theorem dX6_nearest_99 : decode cX6_nearest 99 = .ok (.lload_n 1, 1) := by decide +kernel
theorem dX6_nearest_100 : decode cX6_nearest 100 = .ok (.lreturn, 1) := by decide +kernel
theorem dX6_kept_0 : decode cX6_kept 0 = .ok (.iload_n 0, 1) := by decide +kernel
theorem dX6_kept_1 : decode cX6_kept 1 = .ok (.tableswitch 103 2 6 #[35, 57, 82, 88, 98], 35) := by decide +kernel
theorem dX6_kept_36 : decode cX6_kept 36 = .ok (.iload_n 1, 1) := by decide +kernel
theorem dX6_kept_37 : decode cX6_kept 37 = .ok (.ldc 29, 2) := by decide +kernel
theorem dX6_kept_39 : decode cX6_kept 39 = .ok (.iand, 1) := by decide +kernel
theorem dX6_kept_40 : decode cX6_kept 40 = .ok (.istore_n 2, 1) := by decide +kernel
theorem dX6_kept_41 : decode cX6_kept 41 = .ok (.iload_n 2, 1) := by decide +kernel
theorem dX6_kept_42 : decode cX6_kept 42 = .ok (.ldc 30, 2) := by decide +kernel
theorem dX6_kept_44 : decode cX6_kept 44 = .ok (.if_icmp .ge 8, 3) := by decide +kernel
theorem dX6_kept_47 : decode cX6_kept 47 = .ok (.iload_n 2, 1) := by decide +kernel
theorem dX6_kept_48 : decode cX6_kept 48 = .ok (.i2l, 1) := by decide +kernel
theorem dX6_kept_49 : decode cX6_kept 49 = .ok (.goto 8, 3) := by decide +kernel
theorem dX6_kept_52 : decode cX6_kept 52 = .ok (.iload_n 2, 1) := by decide +kernel
theorem dX6_kept_53 : decode cX6_kept 53 = .ok (.ldc 31, 2) := by decide +kernel
theorem dX6_kept_55 : decode cX6_kept 55 = .ok (.isub, 1) := by decide +kernel
theorem dX6_kept_56 : decode cX6_kept 56 = .ok (.i2l, 1) := by decide +kernel
theorem dX6_kept_57 : decode cX6_kept 57 = .ok (.lreturn, 1) := by decide +kernel
theorem dX6_kept_58 : decode cX6_kept 58 = .ok (.iload_n 1, 1) := by decide +kernel
theorem dX6_kept_59 : decode cX6_kept 59 = .ok (.sipush 255, 3) := by decide +kernel
theorem dX6_kept_62 : decode cX6_kept 62 = .ok (.iand, 1) := by decide +kernel
theorem dX6_kept_63 : decode cX6_kept 63 = .ok (.istore_n 2, 1) := by decide +kernel
theorem dX6_kept_64 : decode cX6_kept 64 = .ok (.iload_n 2, 1) := by decide +kernel
theorem dX6_kept_65 : decode cX6_kept 65 = .ok (.sipush 128, 3) := by decide +kernel
theorem dX6_kept_68 : decode cX6_kept 68 = .ok (.if_icmp .ge 8, 3) := by decide +kernel
theorem dX6_kept_71 : decode cX6_kept 71 = .ok (.iload_n 2, 1) := by decide +kernel
theorem dX6_kept_72 : decode cX6_kept 72 = .ok (.i2l, 1) := by decide +kernel
theorem dX6_kept_73 : decode cX6_kept 73 = .ok (.goto 9, 3) := by decide +kernel
theorem dX6_kept_76 : decode cX6_kept 76 = .ok (.iload_n 2, 1) := by decide +kernel
theorem dX6_kept_77 : decode cX6_kept 77 = .ok (.sipush 256, 3) := by decide +kernel
theorem dX6_kept_80 : decode cX6_kept 80 = .ok (.isub, 1) := by decide +kernel
theorem dX6_kept_81 : decode cX6_kept 81 = .ok (.i2l, 1) := by decide +kernel
theorem dX6_kept_82 : decode cX6_kept 82 = .ok (.lreturn, 1) := by decide +kernel
theorem dX6_kept_83 : decode cX6_kept 83 = .ok (.iload_n 1, 1) := by decide +kernel
theorem dX6_kept_84 : decode cX6_kept 84 = .ok (.ldc 29, 2) := by decide +kernel
theorem dX6_kept_86 : decode cX6_kept 86 = .ok (.iand, 1) := by decide +kernel
theorem dX6_kept_87 : decode cX6_kept 87 = .ok (.i2l, 1) := by decide +kernel
theorem dX6_kept_88 : decode cX6_kept 88 = .ok (.lreturn, 1) := by decide +kernel
theorem dX6_kept_89 : decode cX6_kept 89 = .ok (.iload_n 1, 1) := by decide +kernel
theorem dX6_kept_90 : decode cX6_kept 90 = .ok (.ifCond .eq 7, 3) := by decide +kernel
theorem dX6_kept_93 : decode cX6_kept 93 = .ok (.lconst 1, 1) := by decide +kernel
theorem dX6_kept_94 : decode cX6_kept 94 = .ok (.goto 4, 3) := by decide +kernel
theorem dX6_kept_97 : decode cX6_kept 97 = .ok (.lconst 0, 1) := by decide +kernel
theorem dX6_kept_98 : decode cX6_kept 98 = .ok (.lreturn, 1) := by decide +kernel
theorem dX6_kept_99 : decode cX6_kept 99 = .ok (.iload_n 1, 1) := by decide +kernel
theorem dX6_kept_100 : decode cX6_kept 100 = .ok (.invokestatic 32, 3) := by decide +kernel
theorem dX6_kept_103 : decode cX6_kept 103 = .ok (.lreturn, 1) := by decide +kernel
theorem dX6_kept_104 : decode cX6_kept 104 = .ok (.iload_n 1, 1) := by decide +kernel
theorem dX6_kept_105 : decode cX6_kept 105 = .ok (.i2l, 1) := by decide +kernel
theorem dX6_kept_106 : decode cX6_kept 106 = .ok (.lreturn, 1) := by decide +kernel
theorem dX6_read_0 : decode cX6_read 0 = .ok (.aload_n 0, 1) := by decide +kernel
theorem dX6_read_1 : decode cX6_read 1 = .ok (.iconst 0, 1) := by decide +kernel
theorem dX6_read_2 : decode cX6_read 2 = .ok (.putfield 23, 3) := by decide +kernel
theorem dX6_read_5 : decode cX6_read 5 = .ok (.iload_n 1, 1) := by decide +kernel
theorem dX6_read_6 : decode cX6_read 6 = .ok (.bipush 7, 2) := by decide +kernel
theorem dX6_read_8 : decode cX6_read 8 = .ok (.iand, 1) := by decide +kernel
theorem dX6_read_9 : decode cX6_read 9 = .ok (.istore 4, 2) := by decide +kernel
theorem dX6_read_11 : decode cX6_read 11 = .ok (.iload_n 2, 1) := by decide +kernel
theorem dX6_read_12 : decode cX6_read 12 = .ok (.ifCond .ne 10, 3) := by decide +kernel
theorem dX6_read_15 : decode cX6_read 15 = .ok (.aload_n 0, 1) := by decide +kernel
theorem dX6_read_16 : decode cX6_read 16 = .ok (.iconst 1, 1) := by decide +kernel
theorem dX6_read_17 : decode cX6_read 17 = .ok (.invokevirtual 36, 3) := by decide +kernel
theorem dX6_read_20 : decode cX6_read 20 = .ok (.i2l, 1) := by decide +kernel
theorem dX6_read_21 : decode cX6_read 21 = .ok (.lreturn, 1) := by decide +kernel
theorem dX6_read_22 : decode cX6_read 22 = .ok (.iload_n 3, 1) := by decide +kernel
theorem dX6_read_23 : decode cX6_read 23 = .ok (.ifCond .lt 14, 3) := by decide +kernel
theorem dX6_read_26 : decode cX6_read 26 = .ok (.iload_n 3, 1) := by decide +kernel
theorem dX6_read_27 : decode cX6_read 27 = .ok (.aload_n 0, 1) := by decide +kernel
theorem dX6_read_28 : decode cX6_read 28 = .ok (.getfield 13, 3) := by decide +kernel
theorem dX6_read_31 : decode cX6_read 31 = .ok (.iload 4, 2) := by decide +kernel
theorem dX6_read_33 : decode cX6_read 33 = .ok (.iaload, 1) := by decide +kernel
theorem dX6_read_34 : decode cX6_read 34 = .ok (.if_icmp .lt 10, 3) := by decide +kernel
theorem dX6_read_37 : decode cX6_read 37 = .ok (.aload_n 0, 1) := by decide +kernel
theorem dX6_read_38 : decode cX6_read 38 = .ok (.iconst 2, 1) := by decide +kernel
theorem dX6_read_39 : decode cX6_read 39 = .ok (.invokevirtual 36, 3) := by decide +kernel
theorem dX6_read_42 : decode cX6_read 42 = .ok (.i2l, 1) := by decide +kernel
theorem dX6_read_43 : decode cX6_read 43 = .ok (.lreturn, 1) := by decide +kernel
theorem dX6_read_44 : decode cX6_read 44 = .ok (.aload_n 0, 1) := by decide +kernel
theorem dX6_read_45 : decode cX6_read 45 = .ok (.getfield 7, 3) := by decide +kernel
theorem dX6_read_48 : decode cX6_read 48 = .ok (.bipush 40, 2) := by decide +kernel
theorem dX6_read_50 : decode cX6_read 50 = .ok (.iload 4, 2) := by decide +kernel
theorem dX6_read_52 : decode cX6_read 52 = .ok (.imul, 1) := by decide +kernel
theorem dX6_read_53 : decode cX6_read 53 = .ok (.iload_n 3, 1) := by decide +kernel
theorem dX6_read_54 : decode cX6_read 54 = .ok (.iadd, 1) := by decide +kernel
theorem dX6_read_55 : decode cX6_read 55 = .ok (.laload, 1) := by decide +kernel
theorem dX6_read_56 : decode cX6_read 56 = .ok (.lreturn, 1) := by decide +kernel
theorem dX6_write_0 : decode cX6_write 0 = .ok (.aload_n 0, 1) := by decide +kernel
theorem dX6_write_1 : decode cX6_write 1 = .ok (.iconst 0, 1) := by decide +kernel
theorem dX6_write_2 : decode cX6_write 2 = .ok (.putfield 23, 3) := by decide +kernel
theorem dX6_write_5 : decode cX6_write 5 = .ok (.iload_n 1, 1) := by decide +kernel
theorem dX6_write_6 : decode cX6_write 6 = .ok (.bipush 7, 2) := by decide +kernel
theorem dX6_write_8 : decode cX6_write 8 = .ok (.iand, 1) := by decide +kernel
theorem dX6_write_9 : decode cX6_write 9 = .ok (.istore 5, 2) := by decide +kernel
theorem dX6_write_11 : decode cX6_write 11 = .ok (.iload_n 2, 1) := by decide +kernel
theorem dX6_write_12 : decode cX6_write 12 = .ok (.ifCond .ne 9, 3) := by decide +kernel
theorem dX6_write_15 : decode cX6_write 15 = .ok (.aload_n 0, 1) := by decide +kernel
theorem dX6_write_16 : decode cX6_write 16 = .ok (.iconst 1, 1) := by decide +kernel
theorem dX6_write_17 : decode cX6_write 17 = .ok (.invokevirtual 36, 3) := by decide +kernel
theorem dX6_write_20 : decode cX6_write 20 = .ok (.ireturn, 1) := by decide +kernel
theorem dX6_write_21 : decode cX6_write 21 = .ok (.iload_n 3, 1) := by decide +kernel
theorem dX6_write_22 : decode cX6_write 22 = .ok (.ifCond .lt 14, 3) := by decide +kernel
theorem dX6_write_25 : decode cX6_write 25 = .ok (.iload_n 3, 1) := by decide +kernel
theorem dX6_write_26 : decode cX6_write 26 = .ok (.aload_n 0, 1) := by decide +kernel
theorem dX6_write_27 : decode cX6_write 27 = .ok (.getfield 13, 3) := by decide +kernel
theorem dX6_write_30 : decode cX6_write 30 = .ok (.iload 5, 2) := by decide +kernel
theorem dX6_write_32 : decode cX6_write 32 = .ok (.iaload, 1) := by decide +kernel
theorem dX6_write_33 : decode cX6_write 33 = .ok (.if_icmp .lt 9, 3) := by decide +kernel
theorem dX6_write_36 : decode cX6_write 36 = .ok (.aload_n 0, 1) := by decide +kernel
theorem dX6_write_37 : decode cX6_write 37 = .ok (.iconst 2, 1) := by decide +kernel
theorem dX6_write_38 : decode cX6_write 38 = .ok (.invokevirtual 36, 3) := by decide +kernel
theorem dX6_write_41 : decode cX6_write 41 = .ok (.ireturn, 1) := by decide +kernel
theorem dX6_write_42 : decode cX6_write 42 = .ok (.aload_n 0, 1) := by decide +kernel
theorem dX6_write_43 : decode cX6_write 43 = .ok (.getfield 7, 3) := by decide +kernel
theorem dX6_write_46 : decode cX6_write 46 = .ok (.bipush 40, 2) := by decide +kernel
theorem dX6_write_48 : decode cX6_write 48 = .ok (.iload 5, 2) := by decide +kernel
theorem dX6_write_50 : decode cX6_write 50 = .ok (.imul, 1) := by decide +kernel
theorem dX6_write_51 : decode cX6_write 51 = .ok (.iload_n 3, 1) := by decide +kernel
theorem dX6_write_52 : decode cX6_write 52 = .ok (.iadd, 1) := by decide +kernel
theorem dX6_write_53 : decode cX6_write 53 = .ok (.iload 5, 2) := by decide +kernel
theorem dX6_write_55 : decode cX6_write 55 = .ok (.iload 4, 2) := by decide +kernel
theorem dX6_write_57 : decode cX6_write 57 = .ok (.invokestatic 40, 3) := by decide +kernel
theorem dX6_write_60 : decode cX6_write 60 = .ok (.lastore, 1) := by decide +kernel
theorem dX6_write_61 : decode cX6_write 61 = .ok (.aload_n 0, 1) := by decide +kernel
theorem dX6_write_62 : decode cX6_write 62 = .ok (.dup, 1) := by decide +kernel
theorem dX6_write_63 : decode cX6_write 63 = .ok (.getfield 44, 3) := by decide +kernel
theorem dX6_write_66 : decode cX6_write 66 = .ok (.iconst 1, 1) := by decide +kernel
theorem dX6_write_67 : decode cX6_write 67 = .ok (.iadd, 1) := by decide +kernel
theorem dX6_write_68 : decode cX6_write 68 = .ok (.putfield 44, 3) := by decide +kernel
theorem dX6_write_71 : decode cX6_write 71 = .ok (.aload_n 0, 1) := by decide +kernel
theorem dX6_write_72 : decode cX6_write 72 = .ok (.getfield 44, 3) := by decide +kernel
theorem dX6_write_75 : decode cX6_write 75 = .ok (.ireturn, 1) := by decide +kernel
theorem dX6_length_0 : decode cX6_length 0 = .ok (.aload_n 0, 1) := by decide +kernel
theorem dX6_length_1 : decode cX6_length 1 = .ok (.iconst 0, 1) := by decide +kernel
theorem dX6_length_2 : decode cX6_length 2 = .ok (.putfield 23, 3) := by decide +kernel
theorem dX6_length_5 : decode cX6_length 5 = .ok (.iload_n 2, 1) := by decide +kernel
theorem dX6_length_6 : decode cX6_length 6 = .ok (.ifCond .eq 15, 3) := by decide +kernel
theorem dX6_length_9 : decode cX6_length 9 = .ok (.aload_n 0, 1) := by decide +kernel
theorem dX6_length_10 : decode cX6_length 10 = .ok (.getfield 13, 3) := by decide +kernel
theorem dX6_length_13 : decode cX6_length 13 = .ok (.iload_n 1, 1) := by decide +kernel
theorem dX6_length_14 : decode cX6_length 14 = .ok (.bipush 7, 2) := by decide +kernel
theorem dX6_length_16 : decode cX6_length 16 = .ok (.iand, 1) := by decide +kernel
theorem dX6_length_17 : decode cX6_length 17 = .ok (.iaload, 1) := by decide +kernel
theorem dX6_length_18 : decode cX6_length 18 = .ok (.goto 8, 3) := by decide +kernel
theorem dX6_length_21 : decode cX6_length 21 = .ok (.aload_n 0, 1) := by decide +kernel
theorem dX6_length_22 : decode cX6_length 22 = .ok (.iconst 1, 1) := by decide +kernel
theorem dX6_length_23 : decode cX6_length 23 = .ok (.invokevirtual 36, 3) := by decide +kernel
theorem dX6_length_26 : decode cX6_length 26 = .ok (.ireturn, 1) := by decide +kernel
theorem dX6_make_0 : decode cX6_make 0 = .ok (.aload_n 0, 1) := by decide +kernel
theorem dX6_make_1 : decode cX6_make 1 = .ok (.iconst 0, 1) := by decide +kernel
theorem dX6_make_2 : decode cX6_make 2 = .ok (.putfield 23, 3) := by decide +kernel
theorem dX6_make_5 : decode cX6_make 5 = .ok (.iload_n 2, 1) := by decide +kernel
theorem dX6_make_6 : decode cX6_make 6 = .ok (.bipush 40, 2) := by decide +kernel
theorem dX6_make_8 : decode cX6_make 8 = .ok (.irem, 1) := by decide +kernel
theorem dX6_make_9 : decode cX6_make 9 = .ok (.istore_n 3, 1) := by decide +kernel
theorem dX6_make_10 : decode cX6_make 10 = .ok (.iload_n 1, 1) := by decide +kernel
theorem dX6_make_11 : decode cX6_make 11 = .ok (.bipush 7, 2) := by decide +kernel
theorem dX6_make_13 : decode cX6_make 13 = .ok (.iand, 1) := by decide +kernel
theorem dX6_make_14 : decode cX6_make 14 = .ok (.istore 4, 2) := by decide +kernel
theorem dX6_make_16 : decode cX6_make 16 = .ok (.iload_n 3, 1) := by decide +kernel
theorem dX6_make_17 : decode cX6_make 17 = .ok (.ifCond .ge 9, 3) := by decide +kernel
theorem dX6_make_20 : decode cX6_make 20 = .ok (.aload_n 0, 1) := by decide +kernel
theorem dX6_make_21 : decode cX6_make 21 = .ok (.iconst 1, 1) := by decide +kernel
theorem dX6_make_22 : decode cX6_make 22 = .ok (.invokevirtual 36, 3) := by decide +kernel
theorem dX6_make_25 : decode cX6_make 25 = .ok (.ireturn, 1) := by decide +kernel
theorem dX6_make_26 : decode cX6_make 26 = .ok (.aload_n 0, 1) := by decide +kernel
theorem dX6_make_27 : decode cX6_make 27 = .ok (.getfield 13, 3) := by decide +kernel
theorem dX6_make_30 : decode cX6_make 30 = .ok (.iload 4, 2) := by decide +kernel
theorem dX6_make_32 : decode cX6_make 32 = .ok (.iload_n 3, 1) := by decide +kernel
theorem dX6_make_33 : decode cX6_make 33 = .ok (.iastore, 1) := by decide +kernel
theorem dX6_make_34 : decode cX6_make 34 = .ok (.iconst 0, 1) := by decide +kernel
theorem dX6_make_35 : decode cX6_make 35 = .ok (.istore 5, 2) := by decide +kernel
theorem dX6_make_37 : decode cX6_make 37 = .ok (.iload 5, 2) := by decide +kernel
theorem dX6_make_39 : decode cX6_make 39 = .ok (.bipush 40, 2) := by decide +kernel
theorem dX6_make_41 : decode cX6_make 41 = .ok (.if_icmp .ge 23, 3) := by decide +kernel
theorem dX6_make_44 : decode cX6_make 44 = .ok (.aload_n 0, 1) := by decide +kernel
theorem dX6_make_45 : decode cX6_make 45 = .ok (.getfield 7, 3) := by decide +kernel
theorem dX6_make_48 : decode cX6_make 48 = .ok (.bipush 40, 2) := by decide +kernel
theorem dX6_make_50 : decode cX6_make 50 = .ok (.iload 4, 2) := by decide +kernel
theorem dX6_make_52 : decode cX6_make 52 = .ok (.imul, 1) := by decide +kernel
theorem dX6_make_53 : decode cX6_make 53 = .ok (.iload 5, 2) := by decide +kernel
theorem dX6_make_55 : decode cX6_make 55 = .ok (.iadd, 1) := by decide +kernel
theorem dX6_make_56 : decode cX6_make 56 = .ok (.lconst 0, 1) := by decide +kernel
theorem dX6_make_57 : decode cX6_make 57 = .ok (.lastore, 1) := by decide +kernel
theorem dX6_make_58 : decode cX6_make 58 = .ok (.iinc 5 1, 3) := by decide +kernel
theorem dX6_make_61 : decode cX6_make 61 = .ok (.goto (-24), 3) := by decide +kernel
theorem dX6_make_64 : decode cX6_make 64 = .ok (.iload_n 3, 1) := by decide +kernel
theorem dX6_make_65 : decode cX6_make 65 = .ok (.ireturn, 1) := by decide +kernel
theorem dX6_grid_0 : decode cX6_grid 0 = .ok (.aload_n 0, 1) := by decide +kernel
theorem dX6_grid_1 : decode cX6_grid 1 = .ok (.iconst 0, 1) := by decide +kernel
theorem dX6_grid_2 : decode cX6_grid 2 = .ok (.putfield 23, 3) := by decide +kernel
theorem dX6_grid_5 : decode cX6_grid 5 = .ok (.iload_n 1, 1) := by decide +kernel
theorem dX6_grid_6 : decode cX6_grid 6 = .ok (.bipush 9, 2) := by decide +kernel
theorem dX6_grid_8 : decode cX6_grid 8 = .ok (.irem, 1) := by decide +kernel
theorem dX6_grid_9 : decode cX6_grid 9 = .ok (.istore_n 3, 1) := by decide +kernel
theorem dX6_grid_10 : decode cX6_grid 10 = .ok (.iload_n 2, 1) := by decide +kernel
theorem dX6_grid_11 : decode cX6_grid 11 = .ok (.bipush 9, 2) := by decide +kernel
theorem dX6_grid_13 : decode cX6_grid 13 = .ok (.irem, 1) := by decide +kernel
theorem dX6_grid_14 : decode cX6_grid 14 = .ok (.istore 4, 2) := by decide +kernel
theorem dX6_grid_16 : decode cX6_grid 16 = .ok (.iload_n 3, 1) := by decide +kernel
theorem dX6_grid_17 : decode cX6_grid 17 = .ok (.ifCond .lt 8, 3) := by decide +kernel
theorem dX6_grid_20 : decode cX6_grid 20 = .ok (.iload 4, 2) := by decide +kernel
theorem dX6_grid_22 : decode cX6_grid 22 = .ok (.ifCond .ge 9, 3) := by decide +kernel
theorem dX6_grid_25 : decode cX6_grid 25 = .ok (.aload_n 0, 1) := by decide +kernel
theorem dX6_grid_26 : decode cX6_grid 26 = .ok (.iconst 1, 1) := by decide +kernel
theorem dX6_grid_27 : decode cX6_grid 27 = .ok (.invokevirtual 36, 3) := by decide +kernel
theorem dX6_grid_30 : decode cX6_grid 30 = .ok (.ireturn, 1) := by decide +kernel
theorem dX6_grid_31 : decode cX6_grid 31 = .ok (.aload_n 0, 1) := by decide +kernel
theorem dX6_grid_32 : decode cX6_grid 32 = .ok (.iconst 1, 1) := by decide +kernel
theorem dX6_grid_33 : decode cX6_grid 33 = .ok (.putfield 47, 3) := by decide +kernel
theorem dX6_grid_36 : decode cX6_grid 36 = .ok (.aload_n 0, 1) := by decide +kernel
theorem dX6_grid_37 : decode cX6_grid 37 = .ok (.iload_n 3, 1) := by decide +kernel
theorem dX6_grid_38 : decode cX6_grid 38 = .ok (.putfield 51, 3) := by decide +kernel
theorem dX6_grid_41 : decode cX6_grid 41 = .ok (.aload_n 0, 1) := by decide +kernel
theorem dX6_grid_42 : decode cX6_grid 42 = .ok (.iload 4, 2) := by decide +kernel
theorem dX6_grid_44 : decode cX6_grid 44 = .ok (.putfield 54, 3) := by decide +kernel
theorem dX6_grid_47 : decode cX6_grid 47 = .ok (.iload_n 3, 1) := by decide +kernel
theorem dX6_grid_48 : decode cX6_grid 48 = .ok (.iload 4, 2) := by decide +kernel
theorem dX6_grid_50 : decode cX6_grid 50 = .ok (.imul, 1) := by decide +kernel
theorem dX6_grid_51 : decode cX6_grid 51 = .ok (.ireturn, 1) := by decide +kernel
theorem dX6_cell_0 : decode cX6_cell 0 = .ok (.aload_n 0, 1) := by decide +kernel
theorem dX6_cell_1 : decode cX6_cell 1 = .ok (.iconst 0, 1) := by decide +kernel
theorem dX6_cell_2 : decode cX6_cell 2 = .ok (.putfield 23, 3) := by decide +kernel
theorem dX6_cell_5 : decode cX6_cell 5 = .ok (.aload_n 0, 1) := by decide +kernel
theorem dX6_cell_6 : decode cX6_cell 6 = .ok (.getfield 47, 3) := by decide +kernel
theorem dX6_cell_9 : decode cX6_cell 9 = .ok (.ifCond .ne 9, 3) := by decide +kernel
theorem dX6_cell_12 : decode cX6_cell 12 = .ok (.aload_n 0, 1) := by decide +kernel
theorem dX6_cell_13 : decode cX6_cell 13 = .ok (.iconst 1, 1) := by decide +kernel
theorem dX6_cell_14 : decode cX6_cell 14 = .ok (.invokevirtual 36, 3) := by decide +kernel
theorem dX6_cell_17 : decode cX6_cell 17 = .ok (.ireturn, 1) := by decide +kernel
theorem dX6_cell_18 : decode cX6_cell 18 = .ok (.iload_n 1, 1) := by decide +kernel
theorem dX6_cell_19 : decode cX6_cell 19 = .ok (.ifCond .lt 23, 3) := by decide +kernel
theorem dX6_cell_22 : decode cX6_cell 22 = .ok (.iload_n 1, 1) := by decide +kernel
theorem dX6_cell_23 : decode cX6_cell 23 = .ok (.aload_n 0, 1) := by decide +kernel
theorem dX6_cell_24 : decode cX6_cell 24 = .ok (.getfield 51, 3) := by decide +kernel
theorem dX6_cell_27 : decode cX6_cell 27 = .ok (.if_icmp .ge 15, 3) := by decide +kernel
theorem dX6_cell_30 : decode cX6_cell 30 = .ok (.iload_n 2, 1) := by decide +kernel
theorem dX6_cell_31 : decode cX6_cell 31 = .ok (.ifCond .lt 11, 3) := by decide +kernel
theorem dX6_cell_34 : decode cX6_cell 34 = .ok (.iload_n 2, 1) := by decide +kernel
theorem dX6_cell_35 : decode cX6_cell 35 = .ok (.aload_n 0, 1) := by decide +kernel
theorem dX6_cell_36 : decode cX6_cell 36 = .ok (.getfield 54, 3) := by decide +kernel
theorem dX6_cell_39 : decode cX6_cell 39 = .ok (.if_icmp .lt 9, 3) := by decide +kernel
theorem dX6_cell_42 : decode cX6_cell 42 = .ok (.aload_n 0, 1) := by decide +kernel
theorem dX6_cell_43 : decode cX6_cell 43 = .ok (.iconst 2, 1) := by decide +kernel
theorem dX6_cell_44 : decode cX6_cell 44 = .ok (.invokevirtual 36, 3) := by decide +kernel
theorem dX6_cell_47 : decode cX6_cell 47 = .ok (.ireturn, 1) := by decide +kernel
theorem dX6_cell_48 : decode cX6_cell 48 = .ok (.bipush 10, 2) := by decide +kernel
theorem dX6_cell_50 : decode cX6_cell 50 = .ok (.iload_n 1, 1) := by decide +kernel
theorem dX6_cell_51 : decode cX6_cell 51 = .ok (.imul, 1) := by decide +kernel
theorem dX6_cell_52 : decode cX6_cell 52 = .ok (.iload_n 2, 1) := by decide +kernel
theorem dX6_cell_53 : decode cX6_cell 53 = .ok (.iadd, 1) := by decide +kernel
theorem dX6_cell_54 : decode cX6_cell 54 = .ok (.ireturn, 1) := by decide +kernel
theorem dX6_boxes_0 : decode cX6_boxes 0 = .ok (.aload_n 0, 1) := by decide +kernel
theorem dX6_boxes_1 : decode cX6_boxes 1 = .ok (.iconst 0, 1) := by decide +kernel
theorem dX6_boxes_2 : decode cX6_boxes 2 = .ok (.putfield 23, 3) := by decide +kernel
theorem dX6_boxes_5 : decode cX6_boxes 5 = .ok (.iload_n 1, 1) := by decide +kernel
theorem dX6_boxes_6 : decode cX6_boxes 6 = .ok (.bipush 20, 2) := by decide +kernel
theorem dX6_boxes_8 : decode cX6_boxes 8 = .ok (.irem, 1) := by decide +kernel
theorem dX6_boxes_9 : decode cX6_boxes 9 = .ok (.istore_n 3, 1) := by decide +kernel
theorem dX6_boxes_10 : decode cX6_boxes 10 = .ok (.iload_n 3, 1) := by decide +kernel
theorem dX6_boxes_11 : decode cX6_boxes 11 = .ok (.ifCond .ge 9, 3) := by decide +kernel
theorem dX6_boxes_14 : decode cX6_boxes 14 = .ok (.aload_n 0, 1) := by decide +kernel
theorem dX6_boxes_15 : decode cX6_boxes 15 = .ok (.iconst 1, 1) := by decide +kernel
theorem dX6_boxes_16 : decode cX6_boxes 16 = .ok (.invokevirtual 36, 3) := by decide +kernel
theorem dX6_boxes_19 : decode cX6_boxes 19 = .ok (.ireturn, 1) := by decide +kernel
theorem dX6_boxes_20 : decode cX6_boxes 20 = .ok (.aload_n 0, 1) := by decide +kernel
theorem dX6_boxes_21 : decode cX6_boxes 21 = .ok (.iconst 1, 1) := by decide +kernel
theorem dX6_boxes_22 : decode cX6_boxes 22 = .ok (.putfield 57, 3) := by decide +kernel
theorem dX6_boxes_25 : decode cX6_boxes 25 = .ok (.aload_n 0, 1) := by decide +kernel
theorem dX6_boxes_26 : decode cX6_boxes 26 = .ok (.iload_n 2, 1) := by decide +kernel
theorem dX6_boxes_27 : decode cX6_boxes 27 = .ok (.putfield 60, 3) := by decide +kernel
theorem dX6_boxes_30 : decode cX6_boxes 30 = .ok (.aload_n 0, 1) := by decide +kernel
theorem dX6_boxes_31 : decode cX6_boxes 31 = .ok (.iload_n 3, 1) := by decide +kernel
theorem dX6_boxes_32 : decode cX6_boxes 32 = .ok (.putfield 63, 3) := by decide +kernel
theorem dX6_boxes_35 : decode cX6_boxes 35 = .ok (.iconst 0, 1) := by decide +kernel
theorem dX6_boxes_36 : decode cX6_boxes 36 = .ok (.istore 4, 2) := by decide +kernel
theorem dX6_boxes_38 : decode cX6_boxes 38 = .ok (.iload 4, 2) := by decide +kernel
theorem dX6_boxes_40 : decode cX6_boxes 40 = .ok (.bipush 20, 2) := by decide +kernel
theorem dX6_boxes_42 : decode cX6_boxes 42 = .ok (.if_icmp .ge 17, 3) := by decide +kernel
theorem dX6_boxes_45 : decode cX6_boxes 45 = .ok (.aload_n 0, 1) := by decide +kernel
theorem dX6_boxes_46 : decode cX6_boxes 46 = .ok (.getfield 17, 3) := by decide +kernel
theorem dX6_boxes_49 : decode cX6_boxes 49 = .ok (.iload 4, 2) := by decide +kernel
theorem dX6_boxes_51 : decode cX6_boxes 51 = .ok (.iconst 0, 1) := by decide +kernel
theorem dX6_boxes_52 : decode cX6_boxes 52 = .ok (.iastore, 1) := by decide +kernel
theorem dX6_boxes_53 : decode cX6_boxes 53 = .ok (.iinc 4 1, 3) := by decide +kernel
theorem dX6_boxes_56 : decode cX6_boxes 56 = .ok (.goto (-18), 3) := by decide +kernel
theorem dX6_boxes_59 : decode cX6_boxes 59 = .ok (.iload_n 3, 1) := by decide +kernel
theorem dX6_boxes_60 : decode cX6_boxes 60 = .ok (.ireturn, 1) := by decide +kernel
theorem dX6_put_0 : decode cX6_put 0 = .ok (.aload_n 0, 1) := by decide +kernel
theorem dX6_put_1 : decode cX6_put 1 = .ok (.iconst 0, 1) := by decide +kernel
theorem dX6_put_2 : decode cX6_put 2 = .ok (.putfield 23, 3) := by decide +kernel
theorem dX6_put_5 : decode cX6_put 5 = .ok (.iload_n 3, 1) := by decide +kernel
theorem dX6_put_6 : decode cX6_put 6 = .ok (.iconst 3, 1) := by decide +kernel
theorem dX6_put_7 : decode cX6_put 7 = .ok (.iand, 1) := by decide +kernel
theorem dX6_put_8 : decode cX6_put 8 = .ok (.istore 5, 2) := by decide +kernel
theorem dX6_put_10 : decode cX6_put 10 = .ok (.aload_n 0, 1) := by decide +kernel
theorem dX6_put_11 : decode cX6_put 11 = .ok (.getfield 57, 3) := by decide +kernel
theorem dX6_put_14 : decode cX6_put 14 = .ok (.ifCond .eq 7, 3) := by decide +kernel
theorem dX6_put_17 : decode cX6_put 17 = .ok (.iload_n 1, 1) := by decide +kernel
theorem dX6_put_18 : decode cX6_put 18 = .ok (.ifCond .ne 9, 3) := by decide +kernel
theorem dX6_put_21 : decode cX6_put 21 = .ok (.aload_n 0, 1) := by decide +kernel
theorem dX6_put_22 : decode cX6_put 22 = .ok (.iconst 1, 1) := by decide +kernel
theorem dX6_put_23 : decode cX6_put 23 = .ok (.invokevirtual 36, 3) := by decide +kernel
theorem dX6_put_26 : decode cX6_put 26 = .ok (.ireturn, 1) := by decide +kernel
theorem dX6_put_27 : decode cX6_put 27 = .ok (.iload_n 2, 1) := by decide +kernel
theorem dX6_put_28 : decode cX6_put 28 = .ok (.ifCond .lt 11, 3) := by decide +kernel
theorem dX6_put_31 : decode cX6_put 31 = .ok (.iload_n 2, 1) := by decide +kernel
theorem dX6_put_32 : decode cX6_put 32 = .ok (.aload_n 0, 1) := by decide +kernel
theorem dX6_put_33 : decode cX6_put 33 = .ok (.getfield 63, 3) := by decide +kernel
theorem dX6_put_36 : decode cX6_put 36 = .ok (.if_icmp .lt 9, 3) := by decide +kernel
theorem dX6_put_39 : decode cX6_put 39 = .ok (.aload_n 0, 1) := by decide +kernel
theorem dX6_put_40 : decode cX6_put 40 = .ok (.iconst 2, 1) := by decide +kernel
theorem dX6_put_41 : decode cX6_put 41 = .ok (.invokevirtual 36, 3) := by decide +kernel
theorem dX6_put_44 : decode cX6_put 44 = .ok (.ireturn, 1) := by decide +kernel
theorem dX6_put_45 : decode cX6_put 45 = .ok (.iload 5, 2) := by decide +kernel
theorem dX6_put_47 : decode cX6_put 47 = .ok (.iconst 1, 1) := by decide +kernel
theorem dX6_put_48 : decode cX6_put 48 = .ok (.if_icmp .ne 16, 3) := by decide +kernel
theorem dX6_put_51 : decode cX6_put 51 = .ok (.aload_n 0, 1) := by decide +kernel
theorem dX6_put_52 : decode cX6_put 52 = .ok (.getfield 60, 3) := by decide +kernel
theorem dX6_put_55 : decode cX6_put 55 = .ok (.ifCond .eq 9, 3) := by decide +kernel
theorem dX6_put_58 : decode cX6_put 58 = .ok (.aload_n 0, 1) := by decide +kernel
theorem dX6_put_59 : decode cX6_put 59 = .ok (.iconst 3, 1) := by decide +kernel
theorem dX6_put_60 : decode cX6_put 60 = .ok (.invokevirtual 36, 3) := by decide +kernel
theorem dX6_put_63 : decode cX6_put 63 = .ok (.ireturn, 1) := by decide +kernel
theorem dX6_put_64 : decode cX6_put 64 = .ok (.aload_n 0, 1) := by decide +kernel
theorem dX6_put_65 : decode cX6_put 65 = .ok (.getfield 17, 3) := by decide +kernel
theorem dX6_put_68 : decode cX6_put 68 = .ok (.iload_n 2, 1) := by decide +kernel
theorem dX6_put_69 : decode cX6_put 69 = .ok (.iload 5, 2) := by decide +kernel
theorem dX6_put_71 : decode cX6_put 71 = .ok (.iconst 2, 1) := by decide +kernel
theorem dX6_put_72 : decode cX6_put 72 = .ok (.if_icmp .le 7, 3) := by decide +kernel
theorem dX6_put_75 : decode cX6_put 75 = .ok (.iconst 2, 1) := by decide +kernel
theorem dX6_put_76 : decode cX6_put 76 = .ok (.goto 5, 3) := by decide +kernel
theorem dX6_put_79 : decode cX6_put 79 = .ok (.iload 5, 2) := by decide +kernel
theorem dX6_put_81 : decode cX6_put 81 = .ok (.iastore, 1) := by decide +kernel
theorem dX6_put_82 : decode cX6_put 82 = .ok (.aload_n 0, 1) := by decide +kernel
theorem dX6_put_83 : decode cX6_put 83 = .ok (.getfield 20, 3) := by decide +kernel
theorem dX6_put_86 : decode cX6_put 86 = .ok (.iload_n 2, 1) := by decide +kernel
theorem dX6_put_87 : decode cX6_put 87 = .ok (.iload 4, 2) := by decide +kernel
theorem dX6_put_89 : decode cX6_put 89 = .ok (.iastore, 1) := by decide +kernel
theorem dX6_put_90 : decode cX6_put 90 = .ok (.aload_n 0, 1) := by decide +kernel
theorem dX6_put_91 : decode cX6_put 91 = .ok (.dup, 1) := by decide +kernel
theorem dX6_put_92 : decode cX6_put 92 = .ok (.getfield 66, 3) := by decide +kernel
theorem dX6_put_95 : decode cX6_put 95 = .ok (.iconst 1, 1) := by decide +kernel
theorem dX6_put_96 : decode cX6_put 96 = .ok (.iadd, 1) := by decide +kernel
theorem dX6_put_97 : decode cX6_put 97 = .ok (.putfield 66, 3) := by decide +kernel
theorem dX6_put_100 : decode cX6_put 100 = .ok (.aload_n 0, 1) := by decide +kernel
theorem dX6_put_101 : decode cX6_put 101 = .ok (.getfield 66, 3) := by decide +kernel
theorem dX6_put_104 : decode cX6_put 104 = .ok (.ireturn, 1) := by decide +kernel
theorem dX6_isThere_0 : decode cX6_isThere 0 = .ok (.aload_n 0, 1) := by decide +kernel
theorem dX6_isThere_1 : decode cX6_isThere 1 = .ok (.aload_n 0, 1) := by decide +kernel
theorem dX6_isThere_2 : decode cX6_isThere 2 = .ok (.getfield 57, 3) := by decide +kernel
theorem dX6_isThere_5 : decode cX6_isThere 5 = .ok (.ifCond .ne 7, 3) := by decide +kernel
theorem dX6_isThere_8 : decode cX6_isThere 8 = .ok (.iconst 1, 1) := by decide +kernel
theorem dX6_isThere_9 : decode cX6_isThere 9 = .ok (.goto 33, 3) := by decide +kernel
theorem dX6_isThere_12 : decode cX6_isThere 12 = .ok (.iload_n 1, 1) := by decide +kernel
theorem dX6_isThere_13 : decode cX6_isThere 13 = .ok (.ifCond .lt 11, 3) := by decide +kernel
theorem dX6_isThere_16 : decode cX6_isThere 16 = .ok (.iload_n 1, 1) := by decide +kernel
theorem dX6_isThere_17 : decode cX6_isThere 17 = .ok (.aload_n 0, 1) := by decide +kernel
theorem dX6_isThere_18 : decode cX6_isThere 18 = .ok (.getfield 63, 3) := by decide +kernel
theorem dX6_isThere_21 : decode cX6_isThere 21 = .ok (.if_icmp .lt 7, 3) := by decide +kernel
theorem dX6_isThere_24 : decode cX6_isThere 24 = .ok (.iconst 2, 1) := by decide +kernel
theorem dX6_isThere_25 : decode cX6_isThere 25 = .ok (.goto 17, 3) := by decide +kernel
theorem dX6_isThere_28 : decode cX6_isThere 28 = .ok (.aload_n 0, 1) := by decide +kernel
theorem dX6_isThere_29 : decode cX6_isThere 29 = .ok (.getfield 17, 3) := by decide +kernel
theorem dX6_isThere_32 : decode cX6_isThere 32 = .ok (.iload_n 1, 1) := by decide +kernel
theorem dX6_isThere_33 : decode cX6_isThere 33 = .ok (.iaload, 1) := by decide +kernel
theorem dX6_isThere_34 : decode cX6_isThere 34 = .ok (.ifCond .ne 7, 3) := by decide +kernel
theorem dX6_isThere_37 : decode cX6_isThere 37 = .ok (.iconst 1, 1) := by decide +kernel
theorem dX6_isThere_38 : decode cX6_isThere 38 = .ok (.goto 4, 3) := by decide +kernel
theorem dX6_isThere_41 : decode cX6_isThere 41 = .ok (.iconst 0, 1) := by decide +kernel
theorem dX6_isThere_42 : decode cX6_isThere 42 = .ok (.putfield 23, 3) := by decide +kernel
theorem dX6_isThere_45 : decode cX6_isThere 45 = .ok (.aload_n 0, 1) := by decide +kernel
theorem dX6_isThere_46 : decode cX6_isThere 46 = .ok (.getfield 23, 3) := by decide +kernel
theorem dX6_isThere_49 : decode cX6_isThere 49 = .ok (.ifCond .ne 7, 3) := by decide +kernel
theorem dX6_isThere_52 : decode cX6_isThere 52 = .ok (.iconst 1, 1) := by decide +kernel
theorem dX6_isThere_53 : decode cX6_isThere 53 = .ok (.goto 4, 3) := by decide +kernel
theorem dX6_isThere_56 : decode cX6_isThere 56 = .ok (.iconst 0, 1) := by decide +kernel
theorem dX6_isThere_57 : decode cX6_isThere 57 = .ok (.ireturn, 1) := by decide +kernel
theorem dX6_value_0 : decode cX6_value 0 = .ok (.aload_n 0, 1) := by decide +kernel
theorem dX6_value_1 : decode cX6_value 1 = .ok (.iload_n 1, 1) := by decide +kernel
theorem dX6_value_2 : decode cX6_value 2 = .ok (.invokevirtual 69, 3) := by decide +kernel
theorem dX6_value_5 : decode cX6_value 5 = .ok (.ifCond .eq 12, 3) := by decide +kernel
theorem dX6_value_8 : decode cX6_value 8 = .ok (.aload_n 0, 1) := by decide +kernel
theorem dX6_value_9 : decode cX6_value 9 = .ok (.getfield 20, 3) := by decide +kernel
theorem dX6_value_12 : decode cX6_value 12 = .ok (.iload_n 1, 1) := by decide +kernel
theorem dX6_value_13 : decode cX6_value 13 = .ok (.iaload, 1) := by decide +kernel
theorem dX6_value_14 : decode cX6_value 14 = .ok (.goto 4, 3) := by decide +kernel
theorem dX6_value_17 : decode cX6_value 17 = .ok (.iconst 0, 1) := by decide +kernel
theorem dX6_value_18 : decode cX6_value 18 = .ok (.ireturn, 1) := by decide +kernel
theorem dX6_change_0 : decode cX6_change 0 = .ok (.aload_n 0, 1) := by decide +kernel
theorem dX6_change_1 : decode cX6_change 1 = .ok (.iload_n 1, 1) := by decide +kernel
theorem dX6_change_2 : decode cX6_change 2 = .ok (.invokevirtual 69, 3) := by decide +kernel
theorem dX6_change_5 : decode cX6_change 5 = .ok (.ifCond .ne 5, 3) := by decide +kernel
theorem dX6_change_8 : decode cX6_change 8 = .ok (.iconst 0, 1) := by decide +kernel
theorem dX6_change_9 : decode cX6_change 9 = .ok (.ireturn, 1) := by decide +kernel
theorem dX6_change_10 : decode cX6_change 10 = .ok (.aload_n 0, 1) := by decide +kernel
theorem dX6_change_11 : decode cX6_change 11 = .ok (.getfield 20, 3) := by decide +kernel
theorem dX6_change_14 : decode cX6_change 14 = .ok (.iload_n 1, 1) := by decide +kernel
theorem dX6_change_15 : decode cX6_change 15 = .ok (.iaload, 1) := by decide +kernel
theorem dX6_change_16 : decode cX6_change 16 = .ok (.istore_n 3, 1) := by decide +kernel
theorem dX6_change_17 : decode cX6_change 17 = .ok (.aload_n 0, 1) := by decide +kernel
theorem dX6_change_18 : decode cX6_change 18 = .ok (.getfield 20, 3) := by decide +kernel
theorem dX6_change_21 : decode cX6_change 21 = .ok (.iload_n 1, 1) := by decide +kernel
theorem dX6_change_22 : decode cX6_change 22 = .ok (.iload_n 2, 1) := by decide +kernel
theorem dX6_change_23 : decode cX6_change 23 = .ok (.iastore, 1) := by decide +kernel
theorem dX6_change_24 : decode cX6_change 24 = .ok (.iload_n 3, 1) := by decide +kernel
theorem dX6_change_25 : decode cX6_change 25 = .ok (.ireturn, 1) := by decide +kernel
theorem dX6_weigh_0 : decode cX6_weigh 0 = .ok (.aload_n 0, 1) := by decide +kernel
theorem dX6_weigh_1 : decode cX6_weigh 1 = .ok (.iload_n 1, 1) := by decide +kernel
theorem dX6_weigh_2 : decode cX6_weigh 2 = .ok (.invokevirtual 69, 3) := by decide +kernel
theorem dX6_weigh_5 : decode cX6_weigh 5 = .ok (.ifCond .ne 5, 3) := by decide +kernel
theorem dX6_weigh_8 : decode cX6_weigh 8 = .ok (.iconst 0, 1) := by decide +kernel
theorem dX6_weigh_9 : decode cX6_weigh 9 = .ok (.ireturn, 1) := by decide +kernel
theorem dX6_weigh_10 : decode cX6_weigh 10 = .ok (.aload_n 0, 1) := by decide +kernel
theorem dX6_weigh_11 : decode cX6_weigh 11 = .ok (.getfield 17, 3) := by decide +kernel
theorem dX6_weigh_14 : decode cX6_weigh 14 = .ok (.iload_n 1, 1) := by decide +kernel
theorem dX6_weigh_15 : decode cX6_weigh 15 = .ok (.iaload, 1) := by decide +kernel
theorem dX6_weigh_16 : decode cX6_weigh 16 = .ok (.iconst 1, 1) := by decide +kernel
theorem dX6_weigh_17 : decode cX6_weigh 17 = .ok (.if_icmp .ne 16, 3) := by decide +kernel
theorem dX6_weigh_20 : decode cX6_weigh 20 = .ok (.aload_n 0, 1) := by decide +kernel
theorem dX6_weigh_21 : decode cX6_weigh 21 = .ok (.getfield 20, 3) := by decide +kernel
theorem dX6_weigh_24 : decode cX6_weigh 24 = .ok (.iload_n 1, 1) := by decide +kernel
theorem dX6_weigh_25 : decode cX6_weigh 25 = .ok (.iaload, 1) := by decide +kernel
theorem dX6_weigh_26 : decode cX6_weigh 26 = .ok (.iconst 3, 1) := by decide +kernel
theorem dX6_weigh_27 : decode cX6_weigh 27 = .ok (.imul, 1) := by decide +kernel
theorem dX6_weigh_28 : decode cX6_weigh 28 = .ok (.iload_n 2, 1) := by decide +kernel
theorem dX6_weigh_29 : decode cX6_weigh 29 = .ok (.iadd, 1) := by decide +kernel
theorem dX6_weigh_30 : decode cX6_weigh 30 = .ok (.goto 13, 3) := by decide +kernel
theorem dX6_weigh_33 : decode cX6_weigh 33 = .ok (.aload_n 0, 1) := by decide +kernel
theorem dX6_weigh_34 : decode cX6_weigh 34 = .ok (.getfield 20, 3) := by decide +kernel
theorem dX6_weigh_37 : decode cX6_weigh 37 = .ok (.iload_n 1, 1) := by decide +kernel
theorem dX6_weigh_38 : decode cX6_weigh 38 = .ok (.iaload, 1) := by decide +kernel
theorem dX6_weigh_39 : decode cX6_weigh 39 = .ok (.iconst 5, 1) := by decide +kernel
theorem dX6_weigh_40 : decode cX6_weigh 40 = .ok (.imul, 1) := by decide +kernel
theorem dX6_weigh_41 : decode cX6_weigh 41 = .ok (.iload_n 2, 1) := by decide +kernel
theorem dX6_weigh_42 : decode cX6_weigh 42 = .ok (.isub, 1) := by decide +kernel
theorem dX6_weigh_43 : decode cX6_weigh 43 = .ok (.ireturn, 1) := by decide +kernel
theorem dX6_roll_0 : decode cX6_roll 0 = .ok (.aload_n 0, 1) := by decide +kernel
theorem dX6_roll_1 : decode cX6_roll 1 = .ok (.iload_n 1, 1) := by decide +kernel
theorem dX6_roll_2 : decode cX6_roll 2 = .ok (.invokevirtual 69, 3) := by decide +kernel
theorem dX6_roll_5 : decode cX6_roll 5 = .ok (.ifCond .ne 5, 3) := by decide +kernel
theorem dX6_roll_8 : decode cX6_roll 8 = .ok (.iconst 0, 1) := by decide +kernel
theorem dX6_roll_9 : decode cX6_roll 9 = .ok (.ireturn, 1) := by decide +kernel
theorem dX6_roll_10 : decode cX6_roll 10 = .ok (.aload_n 0, 1) := by decide +kernel
theorem dX6_roll_11 : decode cX6_roll 11 = .ok (.getfield 17, 3) := by decide +kernel
theorem dX6_roll_14 : decode cX6_roll 14 = .ok (.iload_n 1, 1) := by decide +kernel
theorem dX6_roll_15 : decode cX6_roll 15 = .ok (.iaload, 1) := by decide +kernel
theorem dX6_roll_16 : decode cX6_roll 16 = .ok (.iconst 1, 1) := by decide +kernel
theorem dX6_roll_17 : decode cX6_roll 17 = .ok (.if_icmp .ne 11, 3) := by decide +kernel
theorem dX6_roll_20 : decode cX6_roll 20 = .ok (.aload_n 0, 1) := by decide +kernel
theorem dX6_roll_21 : decode cX6_roll 21 = .ok (.iconst 3, 1) := by decide +kernel
theorem dX6_roll_22 : decode cX6_roll 22 = .ok (.invokevirtual 36, 3) := by decide +kernel
theorem dX6_roll_25 : decode cX6_roll 25 = .ok (.goto 11, 3) := by decide +kernel
theorem dX6_roll_28 : decode cX6_roll 28 = .ok (.aload_n 0, 1) := by decide +kernel
theorem dX6_roll_29 : decode cX6_roll 29 = .ok (.getfield 20, 3) := by decide +kernel
theorem dX6_roll_32 : decode cX6_roll 32 = .ok (.iload_n 1, 1) := by decide +kernel
theorem dX6_roll_33 : decode cX6_roll 33 = .ok (.iaload, 1) := by decide +kernel
theorem dX6_roll_34 : decode cX6_roll 34 = .ok (.iload_n 2, 1) := by decide +kernel
theorem dX6_roll_35 : decode cX6_roll 35 = .ok (.ixor, 1) := by decide +kernel
theorem dX6_roll_36 : decode cX6_roll 36 = .ok (.ireturn, 1) := by decide +kernel
theorem dX6_divide_0 : decode cX6_divide 0 = .ok (.aload_n 0, 1) := by decide +kernel
theorem dX6_divide_1 : decode cX6_divide 1 = .ok (.iconst 0, 1) := by decide +kernel
theorem dX6_divide_2 : decode cX6_divide 2 = .ok (.putfield 23, 3) := by decide +kernel
theorem dX6_divide_5 : decode cX6_divide 5 = .ok (.iload_n 2, 1) := by decide +kernel
theorem dX6_divide_6 : decode cX6_divide 6 = .ok (.ifCond .ne 9, 3) := by decide +kernel
theorem dX6_divide_9 : decode cX6_divide 9 = .ok (.aload_n 0, 1) := by decide +kernel
theorem dX6_divide_10 : decode cX6_divide 10 = .ok (.iconst 1, 1) := by decide +kernel
theorem dX6_divide_11 : decode cX6_divide 11 = .ok (.invokevirtual 36, 3) := by decide +kernel
theorem dX6_divide_14 : decode cX6_divide 14 = .ok (.ireturn, 1) := by decide +kernel
theorem dX6_divide_15 : decode cX6_divide 15 = .ok (.iload_n 3, 1) := by decide +kernel
theorem dX6_divide_16 : decode cX6_divide 16 = .ok (.ifCond .eq 9, 3) := by decide +kernel
theorem dX6_divide_19 : decode cX6_divide 19 = .ok (.iload_n 1, 1) := by decide +kernel
theorem dX6_divide_20 : decode cX6_divide 20 = .ok (.iload_n 2, 1) := by decide +kernel
theorem dX6_divide_21 : decode cX6_divide 21 = .ok (.irem, 1) := by decide +kernel
theorem dX6_divide_22 : decode cX6_divide 22 = .ok (.goto 6, 3) := by decide +kernel
theorem dX6_divide_25 : decode cX6_divide 25 = .ok (.iload_n 1, 1) := by decide +kernel
theorem dX6_divide_26 : decode cX6_divide 26 = .ok (.iload_n 2, 1) := by decide +kernel
theorem dX6_divide_27 : decode cX6_divide 27 = .ok (.idiv, 1) := by decide +kernel
theorem dX6_divide_28 : decode cX6_divide 28 = .ok (.ireturn, 1) := by decide +kernel
theorem dX6_divideLong_0 : decode cX6_divideLong 0 = .ok (.aload_n 0, 1) := by decide +kernel
theorem dX6_divideLong_1 : decode cX6_divideLong 1 = .ok (.iconst 0, 1) := by decide +kernel
theorem dX6_divideLong_2 : decode cX6_divideLong 2 = .ok (.putfield 23, 3) := by decide +kernel
theorem dX6_divideLong_5 : decode cX6_divideLong 5 = .ok (.lload_n 3, 1) := by decide +kernel
theorem dX6_divideLong_6 : decode cX6_divideLong 6 = .ok (.lconst 0, 1) := by decide +kernel
theorem dX6_divideLong_7 : decode cX6_divideLong 7 = .ok (.lcmp, 1) := by decide +kernel
theorem dX6_divideLong_8 : decode cX6_divideLong 8 = .ok (.ifCond .ne 10, 3) := by decide +kernel
theorem dX6_divideLong_11 : decode cX6_divideLong 11 = .ok (.aload_n 0, 1) := by decide +kernel
theorem dX6_divideLong_12 : decode cX6_divideLong 12 = .ok (.iconst 1, 1) := by decide +kernel
theorem dX6_divideLong_13 : decode cX6_divideLong 13 = .ok (.invokevirtual 36, 3) := by decide +kernel
theorem dX6_divideLong_16 : decode cX6_divideLong 16 = .ok (.i2l, 1) := by decide +kernel
theorem dX6_divideLong_17 : decode cX6_divideLong 17 = .ok (.lreturn, 1) := by decide +kernel
theorem dX6_divideLong_18 : decode cX6_divideLong 18 = .ok (.iload 5, 2) := by decide +kernel
theorem dX6_divideLong_20 : decode cX6_divideLong 20 = .ok (.ifCond .eq 9, 3) := by decide +kernel
theorem dX6_divideLong_23 : decode cX6_divideLong 23 = .ok (.lload_n 1, 1) := by decide +kernel
theorem dX6_divideLong_24 : decode cX6_divideLong 24 = .ok (.lload_n 3, 1) := by decide +kernel
theorem dX6_divideLong_25 : decode cX6_divideLong 25 = .ok (.lrem, 1) := by decide +kernel
theorem dX6_divideLong_26 : decode cX6_divideLong 26 = .ok (.goto 6, 3) := by decide +kernel
theorem dX6_divideLong_29 : decode cX6_divideLong 29 = .ok (.lload_n 1, 1) := by decide +kernel
theorem dX6_divideLong_30 : decode cX6_divideLong 30 = .ok (.lload_n 3, 1) := by decide +kernel
theorem dX6_divideLong_31 : decode cX6_divideLong 31 = .ok (.ldiv, 1) := by decide +kernel
theorem dX6_divideLong_32 : decode cX6_divideLong 32 = .ok (.lreturn, 1) := by decide +kernel
theorem dX6_raise_0 : decode cX6_raise 0 = .ok (.aload_n 0, 1) := by decide +kernel
theorem dX6_raise_1 : decode cX6_raise 1 = .ok (.iconst 0, 1) := by decide +kernel
theorem dX6_raise_2 : decode cX6_raise 2 = .ok (.putfield 23, 3) := by decide +kernel
theorem dX6_raise_5 : decode cX6_raise 5 = .ok (.iload_n 1, 1) := by decide +kernel
theorem dX6_raise_6 : decode cX6_raise 6 = .ok (.ifCond .eq 11, 3) := by decide +kernel
theorem dX6_raise_9 : decode cX6_raise 9 = .ok (.aload_n 0, 1) := by decide +kernel
theorem dX6_raise_10 : decode cX6_raise 10 = .ok (.iconst 2, 1) := by decide +kernel
theorem dX6_raise_11 : decode cX6_raise 11 = .ok (.invokevirtual 36, 3) := by decide +kernel
theorem dX6_raise_14 : decode cX6_raise 14 = .ok (.goto 8, 3) := by decide +kernel
theorem dX6_raise_17 : decode cX6_raise 17 = .ok (.aload_n 0, 1) := by decide +kernel
theorem dX6_raise_18 : decode cX6_raise 18 = .ok (.iconst 1, 1) := by decide +kernel
theorem dX6_raise_19 : decode cX6_raise 19 = .ok (.invokevirtual 36, 3) := by decide +kernel
theorem dX6_raise_22 : decode cX6_raise 22 = .ok (.ireturn, 1) := by decide +kernel
theorem dL_read_0 : decode cL_read 0 = .ok (.aload 4, 2) := by decide +kernel
theorem dL_read_2 : decode cL_read 2 = .ok (.iconst 0, 1) := by decide +kernel
theorem dL_read_3 : decode cL_read 3 = .ok (.aload_n 0, 1) := by decide +kernel
theorem dL_read_4 : decode cL_read 4 = .ok (.iload_n 1, 1) := by decide +kernel
theorem dL_read_5 : decode cL_read 5 = .ok (.iload_n 2, 1) := by decide +kernel
theorem dL_read_6 : decode cL_read 6 = .ok (.iload_n 3, 1) := by decide +kernel
theorem dL_read_7 : decode cL_read 7 = .ok (.invokevirtual 7, 3) := by decide +kernel
theorem dL_read_10 : decode cL_read 10 = .ok (.lastore, 1) := by decide +kernel
theorem dL_read_11 : decode cL_read 11 = .ok (.goto 11, 3) := by decide +kernel
theorem dL_read_14 : decode cL_read 14 = .ok (.astore 5, 2) := by decide +kernel
theorem dL_read_16 : decode cL_read 16 = .ok (.iconst 1, 1) := by decide +kernel
theorem dL_read_17 : decode cL_read 17 = .ok (.ireturn, 1) := by decide +kernel
theorem dL_read_18 : decode cL_read 18 = .ok (.astore 5, 2) := by decide +kernel
theorem dL_read_20 : decode cL_read 20 = .ok (.iconst 2, 1) := by decide +kernel
theorem dL_read_21 : decode cL_read 21 = .ok (.ireturn, 1) := by decide +kernel
theorem dL_read_22 : decode cL_read 22 = .ok (.iconst 0, 1) := by decide +kernel
theorem dL_read_23 : decode cL_read 23 = .ok (.ireturn, 1) := by decide +kernel
theorem dL_write_0 : decode cL_write 0 = .ok (.aload 5, 2) := by decide +kernel
theorem dL_write_2 : decode cL_write 2 = .ok (.iconst 0, 1) := by decide +kernel
theorem dL_write_3 : decode cL_write 3 = .ok (.aload_n 0, 1) := by decide +kernel
theorem dL_write_4 : decode cL_write 4 = .ok (.iload_n 1, 1) := by decide +kernel
theorem dL_write_5 : decode cL_write 5 = .ok (.iload_n 2, 1) := by decide +kernel
theorem dL_write_6 : decode cL_write 6 = .ok (.iload_n 3, 1) := by decide +kernel
theorem dL_write_7 : decode cL_write 7 = .ok (.iload 4, 2) := by decide +kernel
theorem dL_write_9 : decode cL_write 9 = .ok (.invokevirtual 17, 3) := by decide +kernel
theorem dL_write_12 : decode cL_write 12 = .ok (.i2l, 1) := by decide +kernel
theorem dL_write_13 : decode cL_write 13 = .ok (.lastore, 1) := by decide +kernel
theorem dL_write_14 : decode cL_write 14 = .ok (.goto 11, 3) := by decide +kernel
theorem dL_write_17 : decode cL_write 17 = .ok (.astore 6, 2) := by decide +kernel
theorem dL_write_19 : decode cL_write 19 = .ok (.iconst 1, 1) := by decide +kernel
theorem dL_write_20 : decode cL_write 20 = .ok (.ireturn, 1) := by decide +kernel
theorem dL_write_21 : decode cL_write 21 = .ok (.astore 6, 2) := by decide +kernel
theorem dL_write_23 : decode cL_write 23 = .ok (.iconst 2, 1) := by decide +kernel
theorem dL_write_24 : decode cL_write 24 = .ok (.ireturn, 1) := by decide +kernel
theorem dL_write_25 : decode cL_write 25 = .ok (.iconst 0, 1) := by decide +kernel
theorem dL_write_26 : decode cL_write 26 = .ok (.ireturn, 1) := by decide +kernel
theorem dL_length_0 : decode cL_length 0 = .ok (.aload_n 3, 1) := by decide +kernel
theorem dL_length_1 : decode cL_length 1 = .ok (.iconst 0, 1) := by decide +kernel
theorem dL_length_2 : decode cL_length 2 = .ok (.aload_n 0, 1) := by decide +kernel
theorem dL_length_3 : decode cL_length 3 = .ok (.iload_n 1, 1) := by decide +kernel
theorem dL_length_4 : decode cL_length 4 = .ok (.iload_n 2, 1) := by decide +kernel
theorem dL_length_5 : decode cL_length 5 = .ok (.invokevirtual 21, 3) := by decide +kernel
theorem dL_length_8 : decode cL_length 8 = .ok (.i2l, 1) := by decide +kernel
theorem dL_length_9 : decode cL_length 9 = .ok (.lastore, 1) := by decide +kernel
theorem dL_length_10 : decode cL_length 10 = .ok (.goto 7, 3) := by decide +kernel
theorem dL_length_13 : decode cL_length 13 = .ok (.astore 4, 2) := by decide +kernel
theorem dL_length_15 : decode cL_length 15 = .ok (.iconst 1, 1) := by decide +kernel
theorem dL_length_16 : decode cL_length 16 = .ok (.ireturn, 1) := by decide +kernel
theorem dL_length_17 : decode cL_length 17 = .ok (.iconst 0, 1) := by decide +kernel
theorem dL_length_18 : decode cL_length 18 = .ok (.ireturn, 1) := by decide +kernel
theorem dL_make_0 : decode cL_make 0 = .ok (.aload_n 3, 1) := by decide +kernel
theorem dL_make_1 : decode cL_make 1 = .ok (.iconst 0, 1) := by decide +kernel
theorem dL_make_2 : decode cL_make 2 = .ok (.aload_n 0, 1) := by decide +kernel
theorem dL_make_3 : decode cL_make 3 = .ok (.iload_n 1, 1) := by decide +kernel
theorem dL_make_4 : decode cL_make 4 = .ok (.iload_n 2, 1) := by decide +kernel
theorem dL_make_5 : decode cL_make 5 = .ok (.invokevirtual 25, 3) := by decide +kernel
theorem dL_make_8 : decode cL_make 8 = .ok (.i2l, 1) := by decide +kernel
theorem dL_make_9 : decode cL_make 9 = .ok (.lastore, 1) := by decide +kernel
theorem dL_make_10 : decode cL_make 10 = .ok (.goto 7, 3) := by decide +kernel
theorem dL_make_13 : decode cL_make 13 = .ok (.astore 4, 2) := by decide +kernel
theorem dL_make_15 : decode cL_make 15 = .ok (.iconst 1, 1) := by decide +kernel
theorem dL_make_16 : decode cL_make 16 = .ok (.ireturn, 1) := by decide +kernel
theorem dL_make_17 : decode cL_make 17 = .ok (.iconst 0, 1) := by decide +kernel
theorem dL_make_18 : decode cL_make 18 = .ok (.ireturn, 1) := by decide +kernel
theorem dL_grid_0 : decode cL_grid 0 = .ok (.aload_n 3, 1) := by decide +kernel
theorem dL_grid_1 : decode cL_grid 1 = .ok (.iconst 0, 1) := by decide +kernel
theorem dL_grid_2 : decode cL_grid 2 = .ok (.aload_n 0, 1) := by decide +kernel
theorem dL_grid_3 : decode cL_grid 3 = .ok (.iload_n 1, 1) := by decide +kernel
theorem dL_grid_4 : decode cL_grid 4 = .ok (.iload_n 2, 1) := by decide +kernel
theorem dL_grid_5 : decode cL_grid 5 = .ok (.invokevirtual 31, 3) := by decide +kernel
theorem dL_grid_8 : decode cL_grid 8 = .ok (.i2l, 1) := by decide +kernel
theorem dL_grid_9 : decode cL_grid 9 = .ok (.lastore, 1) := by decide +kernel
theorem dL_grid_10 : decode cL_grid 10 = .ok (.goto 7, 3) := by decide +kernel
theorem dL_grid_13 : decode cL_grid 13 = .ok (.astore 4, 2) := by decide +kernel
theorem dL_grid_15 : decode cL_grid 15 = .ok (.iconst 1, 1) := by decide +kernel
theorem dL_grid_16 : decode cL_grid 16 = .ok (.ireturn, 1) := by decide +kernel
theorem dL_grid_17 : decode cL_grid 17 = .ok (.iconst 0, 1) := by decide +kernel
theorem dL_grid_18 : decode cL_grid 18 = .ok (.ireturn, 1) := by decide +kernel
theorem dL_cell_0 : decode cL_cell 0 = .ok (.aload_n 3, 1) := by decide +kernel
theorem dL_cell_1 : decode cL_cell 1 = .ok (.iconst 0, 1) := by decide +kernel
theorem dL_cell_2 : decode cL_cell 2 = .ok (.aload_n 0, 1) := by decide +kernel
theorem dL_cell_3 : decode cL_cell 3 = .ok (.iload_n 1, 1) := by decide +kernel
theorem dL_cell_4 : decode cL_cell 4 = .ok (.iload_n 2, 1) := by decide +kernel
theorem dL_cell_5 : decode cL_cell 5 = .ok (.invokevirtual 34, 3) := by decide +kernel
theorem dL_cell_8 : decode cL_cell 8 = .ok (.i2l, 1) := by decide +kernel
theorem dL_cell_9 : decode cL_cell 9 = .ok (.lastore, 1) := by decide +kernel
theorem dL_cell_10 : decode cL_cell 10 = .ok (.goto 11, 3) := by decide +kernel
theorem dL_cell_13 : decode cL_cell 13 = .ok (.astore 4, 2) := by decide +kernel
theorem dL_cell_15 : decode cL_cell 15 = .ok (.iconst 1, 1) := by decide +kernel
theorem dL_cell_16 : decode cL_cell 16 = .ok (.ireturn, 1) := by decide +kernel
theorem dL_cell_17 : decode cL_cell 17 = .ok (.astore 4, 2) := by decide +kernel
theorem dL_cell_19 : decode cL_cell 19 = .ok (.iconst 2, 1) := by decide +kernel
theorem dL_cell_20 : decode cL_cell 20 = .ok (.ireturn, 1) := by decide +kernel
theorem dL_cell_21 : decode cL_cell 21 = .ok (.iconst 0, 1) := by decide +kernel
theorem dL_cell_22 : decode cL_cell 22 = .ok (.ireturn, 1) := by decide +kernel
theorem dL_boxes_0 : decode cL_boxes 0 = .ok (.aload_n 3, 1) := by decide +kernel
theorem dL_boxes_1 : decode cL_boxes 1 = .ok (.iconst 0, 1) := by decide +kernel
theorem dL_boxes_2 : decode cL_boxes 2 = .ok (.aload_n 0, 1) := by decide +kernel
theorem dL_boxes_3 : decode cL_boxes 3 = .ok (.iload_n 1, 1) := by decide +kernel
theorem dL_boxes_4 : decode cL_boxes 4 = .ok (.iload_n 2, 1) := by decide +kernel
theorem dL_boxes_5 : decode cL_boxes 5 = .ok (.invokevirtual 37, 3) := by decide +kernel
theorem dL_boxes_8 : decode cL_boxes 8 = .ok (.i2l, 1) := by decide +kernel
theorem dL_boxes_9 : decode cL_boxes 9 = .ok (.lastore, 1) := by decide +kernel
theorem dL_boxes_10 : decode cL_boxes 10 = .ok (.goto 7, 3) := by decide +kernel
theorem dL_boxes_13 : decode cL_boxes 13 = .ok (.astore 4, 2) := by decide +kernel
theorem dL_boxes_15 : decode cL_boxes 15 = .ok (.iconst 1, 1) := by decide +kernel
theorem dL_boxes_16 : decode cL_boxes 16 = .ok (.ireturn, 1) := by decide +kernel
theorem dL_boxes_17 : decode cL_boxes 17 = .ok (.iconst 0, 1) := by decide +kernel
theorem dL_boxes_18 : decode cL_boxes 18 = .ok (.ireturn, 1) := by decide +kernel
theorem dL_put_0 : decode cL_put 0 = .ok (.aload 5, 2) := by decide +kernel
theorem dL_put_2 : decode cL_put 2 = .ok (.iconst 0, 1) := by decide +kernel
theorem dL_put_3 : decode cL_put 3 = .ok (.aload_n 0, 1) := by decide +kernel
theorem dL_put_4 : decode cL_put 4 = .ok (.iload_n 1, 1) := by decide +kernel
theorem dL_put_5 : decode cL_put 5 = .ok (.iload_n 2, 1) := by decide +kernel
theorem dL_put_6 : decode cL_put 6 = .ok (.iload_n 3, 1) := by decide +kernel
theorem dL_put_7 : decode cL_put 7 = .ok (.iload 4, 2) := by decide +kernel
theorem dL_put_9 : decode cL_put 9 = .ok (.invokevirtual 40, 3) := by decide +kernel
theorem dL_put_12 : decode cL_put 12 = .ok (.i2l, 1) := by decide +kernel
theorem dL_put_13 : decode cL_put 13 = .ok (.lastore, 1) := by decide +kernel
theorem dL_put_14 : decode cL_put 14 = .ok (.goto 15, 3) := by decide +kernel
theorem dL_put_17 : decode cL_put 17 = .ok (.astore 6, 2) := by decide +kernel
theorem dL_put_19 : decode cL_put 19 = .ok (.iconst 1, 1) := by decide +kernel
theorem dL_put_20 : decode cL_put 20 = .ok (.ireturn, 1) := by decide +kernel
theorem dL_put_21 : decode cL_put 21 = .ok (.astore 6, 2) := by decide +kernel
theorem dL_put_23 : decode cL_put 23 = .ok (.iconst 2, 1) := by decide +kernel
theorem dL_put_24 : decode cL_put 24 = .ok (.ireturn, 1) := by decide +kernel
theorem dL_put_25 : decode cL_put 25 = .ok (.astore 6, 2) := by decide +kernel
theorem dL_put_27 : decode cL_put 27 = .ok (.iconst 3, 1) := by decide +kernel
theorem dL_put_28 : decode cL_put 28 = .ok (.ireturn, 1) := by decide +kernel
theorem dL_put_29 : decode cL_put 29 = .ok (.iconst 0, 1) := by decide +kernel
theorem dL_put_30 : decode cL_put 30 = .ok (.ireturn, 1) := by decide +kernel
theorem dL_value_0 : decode cL_value 0 = .ok (.aload_n 2, 1) := by decide +kernel
theorem dL_value_1 : decode cL_value 1 = .ok (.iconst 0, 1) := by decide +kernel
theorem dL_value_2 : decode cL_value 2 = .ok (.aload_n 0, 1) := by decide +kernel
theorem dL_value_3 : decode cL_value 3 = .ok (.iload_n 1, 1) := by decide +kernel
theorem dL_value_4 : decode cL_value 4 = .ok (.invokevirtual 46, 3) := by decide +kernel
theorem dL_value_7 : decode cL_value 7 = .ok (.i2l, 1) := by decide +kernel
theorem dL_value_8 : decode cL_value 8 = .ok (.lastore, 1) := by decide +kernel
theorem dL_value_9 : decode cL_value 9 = .ok (.goto 9, 3) := by decide +kernel
theorem dL_value_12 : decode cL_value 12 = .ok (.astore_n 3, 1) := by decide +kernel
theorem dL_value_13 : decode cL_value 13 = .ok (.iconst 1, 1) := by decide +kernel
theorem dL_value_14 : decode cL_value 14 = .ok (.ireturn, 1) := by decide +kernel
theorem dL_value_15 : decode cL_value 15 = .ok (.astore_n 3, 1) := by decide +kernel
theorem dL_value_16 : decode cL_value 16 = .ok (.iconst 2, 1) := by decide +kernel
theorem dL_value_17 : decode cL_value 17 = .ok (.ireturn, 1) := by decide +kernel
theorem dL_value_18 : decode cL_value 18 = .ok (.iconst 0, 1) := by decide +kernel
theorem dL_value_19 : decode cL_value 19 = .ok (.ireturn, 1) := by decide +kernel
theorem dL_change_0 : decode cL_change 0 = .ok (.aload_n 3, 1) := by decide +kernel
theorem dL_change_1 : decode cL_change 1 = .ok (.iconst 0, 1) := by decide +kernel
theorem dL_change_2 : decode cL_change 2 = .ok (.aload_n 0, 1) := by decide +kernel
theorem dL_change_3 : decode cL_change 3 = .ok (.iload_n 1, 1) := by decide +kernel
theorem dL_change_4 : decode cL_change 4 = .ok (.iload_n 2, 1) := by decide +kernel
theorem dL_change_5 : decode cL_change 5 = .ok (.invokevirtual 50, 3) := by decide +kernel
theorem dL_change_8 : decode cL_change 8 = .ok (.i2l, 1) := by decide +kernel
theorem dL_change_9 : decode cL_change 9 = .ok (.lastore, 1) := by decide +kernel
theorem dL_change_10 : decode cL_change 10 = .ok (.goto 11, 3) := by decide +kernel
theorem dL_change_13 : decode cL_change 13 = .ok (.astore 4, 2) := by decide +kernel
theorem dL_change_15 : decode cL_change 15 = .ok (.iconst 1, 1) := by decide +kernel
theorem dL_change_16 : decode cL_change 16 = .ok (.ireturn, 1) := by decide +kernel
theorem dL_change_17 : decode cL_change 17 = .ok (.astore 4, 2) := by decide +kernel
theorem dL_change_19 : decode cL_change 19 = .ok (.iconst 2, 1) := by decide +kernel
theorem dL_change_20 : decode cL_change 20 = .ok (.ireturn, 1) := by decide +kernel
theorem dL_change_21 : decode cL_change 21 = .ok (.iconst 0, 1) := by decide +kernel
theorem dL_change_22 : decode cL_change 22 = .ok (.ireturn, 1) := by decide +kernel
theorem dL_weigh_0 : decode cL_weigh 0 = .ok (.aload_n 3, 1) := by decide +kernel
theorem dL_weigh_1 : decode cL_weigh 1 = .ok (.iconst 0, 1) := by decide +kernel
theorem dL_weigh_2 : decode cL_weigh 2 = .ok (.aload_n 0, 1) := by decide +kernel
theorem dL_weigh_3 : decode cL_weigh 3 = .ok (.iload_n 1, 1) := by decide +kernel
theorem dL_weigh_4 : decode cL_weigh 4 = .ok (.iload_n 2, 1) := by decide +kernel
theorem dL_weigh_5 : decode cL_weigh 5 = .ok (.invokevirtual 53, 3) := by decide +kernel
theorem dL_weigh_8 : decode cL_weigh 8 = .ok (.i2l, 1) := by decide +kernel
theorem dL_weigh_9 : decode cL_weigh 9 = .ok (.lastore, 1) := by decide +kernel
theorem dL_weigh_10 : decode cL_weigh 10 = .ok (.goto 11, 3) := by decide +kernel
theorem dL_weigh_13 : decode cL_weigh 13 = .ok (.astore 4, 2) := by decide +kernel
theorem dL_weigh_15 : decode cL_weigh 15 = .ok (.iconst 1, 1) := by decide +kernel
theorem dL_weigh_16 : decode cL_weigh 16 = .ok (.ireturn, 1) := by decide +kernel
theorem dL_weigh_17 : decode cL_weigh 17 = .ok (.astore 4, 2) := by decide +kernel
theorem dL_weigh_19 : decode cL_weigh 19 = .ok (.iconst 2, 1) := by decide +kernel
theorem dL_weigh_20 : decode cL_weigh 20 = .ok (.ireturn, 1) := by decide +kernel
theorem dL_weigh_21 : decode cL_weigh 21 = .ok (.iconst 0, 1) := by decide +kernel
theorem dL_weigh_22 : decode cL_weigh 22 = .ok (.ireturn, 1) := by decide +kernel
theorem dL_roll_0 : decode cL_roll 0 = .ok (.aload_n 3, 1) := by decide +kernel
theorem dL_roll_1 : decode cL_roll 1 = .ok (.iconst 0, 1) := by decide +kernel
theorem dL_roll_2 : decode cL_roll 2 = .ok (.aload_n 0, 1) := by decide +kernel
theorem dL_roll_3 : decode cL_roll 3 = .ok (.iload_n 1, 1) := by decide +kernel
theorem dL_roll_4 : decode cL_roll 4 = .ok (.iload_n 2, 1) := by decide +kernel
theorem dL_roll_5 : decode cL_roll 5 = .ok (.invokevirtual 56, 3) := by decide +kernel
theorem dL_roll_8 : decode cL_roll 8 = .ok (.i2l, 1) := by decide +kernel
theorem dL_roll_9 : decode cL_roll 9 = .ok (.lastore, 1) := by decide +kernel
theorem dL_roll_10 : decode cL_roll 10 = .ok (.goto 15, 3) := by decide +kernel
theorem dL_roll_13 : decode cL_roll 13 = .ok (.astore 4, 2) := by decide +kernel
theorem dL_roll_15 : decode cL_roll 15 = .ok (.iconst 1, 1) := by decide +kernel
theorem dL_roll_16 : decode cL_roll 16 = .ok (.ireturn, 1) := by decide +kernel
theorem dL_roll_17 : decode cL_roll 17 = .ok (.astore 4, 2) := by decide +kernel
theorem dL_roll_19 : decode cL_roll 19 = .ok (.iconst 2, 1) := by decide +kernel
theorem dL_roll_20 : decode cL_roll 20 = .ok (.ireturn, 1) := by decide +kernel
theorem dL_roll_21 : decode cL_roll 21 = .ok (.astore 4, 2) := by decide +kernel
theorem dL_roll_23 : decode cL_roll 23 = .ok (.iconst 3, 1) := by decide +kernel
theorem dL_roll_24 : decode cL_roll 24 = .ok (.ireturn, 1) := by decide +kernel
theorem dL_roll_25 : decode cL_roll 25 = .ok (.iconst 0, 1) := by decide +kernel
theorem dL_roll_26 : decode cL_roll 26 = .ok (.ireturn, 1) := by decide +kernel
theorem dL_divide_0 : decode cL_divide 0 = .ok (.aload 4, 2) := by decide +kernel
theorem dL_divide_2 : decode cL_divide 2 = .ok (.iconst 0, 1) := by decide +kernel
theorem dL_divide_3 : decode cL_divide 3 = .ok (.aload_n 0, 1) := by decide +kernel
theorem dL_divide_4 : decode cL_divide 4 = .ok (.iload_n 1, 1) := by decide +kernel
theorem dL_divide_5 : decode cL_divide 5 = .ok (.iload_n 2, 1) := by decide +kernel
theorem dL_divide_6 : decode cL_divide 6 = .ok (.iload_n 3, 1) := by decide +kernel
theorem dL_divide_7 : decode cL_divide 7 = .ok (.invokevirtual 61, 3) := by decide +kernel
theorem dL_divide_10 : decode cL_divide 10 = .ok (.i2l, 1) := by decide +kernel
theorem dL_divide_11 : decode cL_divide 11 = .ok (.lastore, 1) := by decide +kernel
theorem dL_divide_12 : decode cL_divide 12 = .ok (.goto 7, 3) := by decide +kernel
theorem dL_divide_15 : decode cL_divide 15 = .ok (.astore 5, 2) := by decide +kernel
theorem dL_divide_17 : decode cL_divide 17 = .ok (.iconst 1, 1) := by decide +kernel
theorem dL_divide_18 : decode cL_divide 18 = .ok (.ireturn, 1) := by decide +kernel
theorem dL_divide_19 : decode cL_divide 19 = .ok (.iconst 0, 1) := by decide +kernel
theorem dL_divide_20 : decode cL_divide 20 = .ok (.ireturn, 1) := by decide +kernel
theorem dL_divideLong_0 : decode cL_divideLong 0 = .ok (.aload 6, 2) := by decide +kernel
theorem dL_divideLong_2 : decode cL_divideLong 2 = .ok (.iconst 0, 1) := by decide +kernel
theorem dL_divideLong_3 : decode cL_divideLong 3 = .ok (.aload_n 0, 1) := by decide +kernel
theorem dL_divideLong_4 : decode cL_divideLong 4 = .ok (.lload_n 1, 1) := by decide +kernel
theorem dL_divideLong_5 : decode cL_divideLong 5 = .ok (.lload_n 3, 1) := by decide +kernel
theorem dL_divideLong_6 : decode cL_divideLong 6 = .ok (.iload 5, 2) := by decide +kernel
theorem dL_divideLong_8 : decode cL_divideLong 8 = .ok (.invokevirtual 67, 3) := by decide +kernel
theorem dL_divideLong_11 : decode cL_divideLong 11 = .ok (.lastore, 1) := by decide +kernel
theorem dL_divideLong_12 : decode cL_divideLong 12 = .ok (.goto 7, 3) := by decide +kernel
theorem dL_divideLong_15 : decode cL_divideLong 15 = .ok (.astore 7, 2) := by decide +kernel
theorem dL_divideLong_17 : decode cL_divideLong 17 = .ok (.iconst 1, 1) := by decide +kernel
theorem dL_divideLong_18 : decode cL_divideLong 18 = .ok (.ireturn, 1) := by decide +kernel
theorem dL_divideLong_19 : decode cL_divideLong 19 = .ok (.iconst 0, 1) := by decide +kernel
theorem dL_divideLong_20 : decode cL_divideLong 20 = .ok (.ireturn, 1) := by decide +kernel
theorem dL_raise_0 : decode cL_raise 0 = .ok (.aload_n 2, 1) := by decide +kernel
theorem dL_raise_1 : decode cL_raise 1 = .ok (.iconst 0, 1) := by decide +kernel
theorem dL_raise_2 : decode cL_raise 2 = .ok (.aload_n 0, 1) := by decide +kernel
theorem dL_raise_3 : decode cL_raise 3 = .ok (.iload_n 1, 1) := by decide +kernel
theorem dL_raise_4 : decode cL_raise 4 = .ok (.invokevirtual 71, 3) := by decide +kernel
theorem dL_raise_7 : decode cL_raise 7 = .ok (.i2l, 1) := by decide +kernel
theorem dL_raise_8 : decode cL_raise 8 = .ok (.lastore, 1) := by decide +kernel
theorem dL_raise_9 : decode cL_raise 9 = .ok (.goto 9, 3) := by decide +kernel
theorem dL_raise_12 : decode cL_raise 12 = .ok (.astore_n 3, 1) := by decide +kernel
theorem dL_raise_13 : decode cL_raise 13 = .ok (.iconst 1, 1) := by decide +kernel
theorem dL_raise_14 : decode cL_raise 14 = .ok (.ireturn, 1) := by decide +kernel
theorem dL_raise_15 : decode cL_raise 15 = .ok (.astore_n 3, 1) := by decide +kernel
theorem dL_raise_16 : decode cL_raise 16 = .ok (.iconst 2, 1) := by decide +kernel
theorem dL_raise_17 : decode cL_raise 17 = .ok (.ireturn, 1) := by decide +kernel
theorem dL_raise_18 : decode cL_raise 18 = .ok (.iconst 0, 1) := by decide +kernel
theorem dL_raise_19 : decode cL_raise 19 = .ok (.ireturn, 1) := by decide +kernel
