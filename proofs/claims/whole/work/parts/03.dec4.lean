theorem dX12_faults_9 : decode cX12_faults 9 = .ok (.getfield 56, 3) := by decide +kernel
theorem dX12_faults_12 : decode cX12_faults 12 = .ok (.aload_n 0, 1) := by decide +kernel
theorem dX12_faults_13 : decode cX12_faults 13 = .ok (.getfield 161, 3) := by decide +kernel
theorem dX12_faults_16 : decode cX12_faults 16 = .ok (.iaload, 1) := by decide +kernel
theorem dX12_faults_17 : decode cX12_faults 17 = .ok (.putfield 154, 3) := by decide +kernel
theorem dX12_faults_20 : decode cX12_faults 20 = .ok (.return_, 1) := by decide +kernel
theorem dX12_takes0_0 : decode cX12_takes0 0 = .ok (.aload_n 0, 1) := by decide +kernel
theorem dX12_takes0_1 : decode cX12_takes0 1 = .ok (.invokevirtual 157, 3) := by decide +kernel
theorem dX12_takes0_4 : decode cX12_takes0 4 = .ok (.ifCond .eq 20, 3) := by decide +kernel
theorem dX12_takes0_7 : decode cX12_takes0 7 = .ok (.aload_n 0, 1) := by decide +kernel
theorem dX12_takes0_8 : decode cX12_takes0 8 = .ok (.getfield 50, 3) := by decide +kernel
theorem dX12_takes0_11 : decode cX12_takes0 11 = .ok (.aload_n 0, 1) := by decide +kernel
theorem dX12_takes0_12 : decode cX12_takes0 12 = .ok (.getfield 161, 3) := by decide +kernel
theorem dX12_takes0_15 : decode cX12_takes0 15 = .ok (.iaload, 1) := by decide +kernel
theorem dX12_takes0_16 : decode cX12_takes0 16 = .ok (.iload_n 1, 1) := by decide +kernel
theorem dX12_takes0_17 : decode cX12_takes0 17 = .ok (.if_icmp .ne 7, 3) := by decide +kernel
theorem dX12_takes0_20 : decode cX12_takes0 20 = .ok (.iconst 1, 1) := by decide +kernel
theorem dX12_takes0_21 : decode cX12_takes0 21 = .ok (.goto 4, 3) := by decide +kernel
theorem dX12_takes0_24 : decode cX12_takes0 24 = .ok (.iconst 0, 1) := by decide +kernel
theorem dX12_takes0_25 : decode cX12_takes0 25 = .ok (.istore_n 2, 1) := by decide +kernel
theorem dX12_takes0_26 : decode cX12_takes0 26 = .ok (.iload_n 2, 1) := by decide +kernel
theorem dX12_takes0_27 : decode cX12_takes0 27 = .ok (.ifCond .eq 13, 3) := by decide +kernel
theorem dX12_takes0_30 : decode cX12_takes0 30 = .ok (.aload_n 0, 1) := by decide +kernel
theorem dX12_takes0_31 : decode cX12_takes0 31 = .ok (.dup, 1) := by decide +kernel
theorem dX12_takes0_32 : decode cX12_takes0 32 = .ok (.getfield 161, 3) := by decide +kernel
theorem dX12_takes0_35 : decode cX12_takes0 35 = .ok (.iconst 1, 1) := by decide +kernel
theorem dX12_takes0_36 : decode cX12_takes0 36 = .ok (.iadd, 1) := by decide +kernel
theorem dX12_takes0_37 : decode cX12_takes0 37 = .ok (.putfield 161, 3) := by decide +kernel
theorem dX12_takes0_40 : decode cX12_takes0 40 = .ok (.iload_n 2, 1) := by decide +kernel
theorem dX12_takes0_41 : decode cX12_takes0 41 = .ok (.ireturn, 1) := by decide +kernel
theorem dX12_must_0 : decode cX12_must 0 = .ok (.aload_n 0, 1) := by decide +kernel
theorem dX12_must_1 : decode cX12_must 1 = .ok (.iload_n 1, 1) := by decide +kernel
theorem dX12_must_2 : decode cX12_must 2 = .ok (.invokevirtual 164, 3) := by decide +kernel
theorem dX12_must_5 : decode cX12_must 5 = .ok (.ifCond .ne 7, 3) := by decide +kernel
theorem dX12_must_8 : decode cX12_must 8 = .ok (.aload_n 0, 1) := by decide +kernel
theorem dX12_must_9 : decode cX12_must 9 = .ok (.invokevirtual 167, 3) := by decide +kernel
theorem dX12_must_12 : decode cX12_must 12 = .ok (.return_, 1) := by decide +kernel
theorem dX12_leaf_0 : decode cX12_leaf 0 = .ok (.aload_n 0, 1) := by decide +kernel
theorem dX12_leaf_1 : decode cX12_leaf 1 = .ok (.getfield 170, 3) := by decide +kernel
theorem dX12_leaf_4 : decode cX12_leaf 4 = .ok (.bipush 50, 2) := by decide +kernel
theorem dX12_leaf_6 : decode cX12_leaf 6 = .ok (.if_icmp .ne 7, 3) := by decide +kernel
theorem dX12_leaf_9 : decode cX12_leaf 9 = .ok (.aload_n 0, 1) := by decide +kernel
theorem dX12_leaf_10 : decode cX12_leaf 10 = .ok (.invokevirtual 167, 3) := by decide +kernel
theorem dX12_leaf_13 : decode cX12_leaf 13 = .ok (.aload_n 0, 1) := by decide +kernel
theorem dX12_leaf_14 : decode cX12_leaf 14 = .ok (.dup, 1) := by decide +kernel
theorem dX12_leaf_15 : decode cX12_leaf 15 = .ok (.getfield 170, 3) := by decide +kernel
theorem dX12_leaf_18 : decode cX12_leaf 18 = .ok (.iconst 1, 1) := by decide +kernel
theorem dX12_leaf_19 : decode cX12_leaf 19 = .ok (.iadd, 1) := by decide +kernel
theorem dX12_leaf_20 : decode cX12_leaf 20 = .ok (.putfield 170, 3) := by decide +kernel
theorem dX12_leaf_23 : decode cX12_leaf 23 = .ok (.aload_n 0, 1) := by decide +kernel
theorem dX12_leaf_24 : decode cX12_leaf 24 = .ok (.invokevirtual 157, 3) := by decide +kernel
theorem dX12_leaf_27 : decode cX12_leaf 27 = .ok (.ifCond .eq 13, 3) := by decide +kernel
theorem dX12_leaf_30 : decode cX12_leaf 30 = .ok (.aload_n 0, 1) := by decide +kernel
theorem dX12_leaf_31 : decode cX12_leaf 31 = .ok (.dup, 1) := by decide +kernel
theorem dX12_leaf_32 : decode cX12_leaf 32 = .ok (.getfield 161, 3) := by decide +kernel
theorem dX12_leaf_35 : decode cX12_leaf 35 = .ok (.iconst 1, 1) := by decide +kernel
theorem dX12_leaf_36 : decode cX12_leaf 36 = .ok (.iadd, 1) := by decide +kernel
theorem dX12_leaf_37 : decode cX12_leaf 37 = .ok (.putfield 161, 3) := by decide +kernel
theorem dX12_leaf_40 : decode cX12_leaf 40 = .ok (.return_, 1) := by decide +kernel
theorem dX12_sign_0 : decode cX12_sign 0 = .ok (.bipush 100, 2) := by decide +kernel
theorem dX12_sign_2 : decode cX12_sign 2 = .ok (.iload_n 0, 1) := by decide +kernel
theorem dX12_sign_3 : decode cX12_sign 3 = .ok (.iadd, 1) := by decide +kernel
theorem dX12_sign_4 : decode cX12_sign 4 = .ok (.ireturn, 1) := by decide +kernel
theorem dX12_isValue_0 : decode cX12_isValue 0 = .ok (.aload_n 0, 1) := by decide +kernel
theorem dX12_isValue_1 : decode cX12_isValue 1 = .ok (.getfield 173, 3) := by decide +kernel
theorem dX12_isValue_4 : decode cX12_isValue 4 = .ok (.ifCond .eq 40, 3) := by decide +kernel
theorem dX12_isValue_7 : decode cX12_isValue 7 = .ok (.iload_n 1, 1) := by decide +kernel
theorem dX12_isValue_8 : decode cX12_isValue 8 = .ok (.bipush 9, 2) := by decide +kernel
theorem dX12_isValue_10 : decode cX12_isValue 10 = .ok (.if_icmp .eq 26, 3) := by decide +kernel
theorem dX12_isValue_13 : decode cX12_isValue 13 = .ok (.iload_n 1, 1) := by decide +kernel
theorem dX12_isValue_14 : decode cX12_isValue 14 = .ok (.bipush 13, 2) := by decide +kernel
theorem dX12_isValue_16 : decode cX12_isValue 16 = .ok (.if_icmp .eq 20, 3) := by decide +kernel
theorem dX12_isValue_19 : decode cX12_isValue 19 = .ok (.iload_n 1, 1) := by decide +kernel
theorem dX12_isValue_20 : decode cX12_isValue 20 = .ok (.bipush 18, 2) := by decide +kernel
theorem dX12_isValue_22 : decode cX12_isValue 22 = .ok (.if_icmp .eq 14, 3) := by decide +kernel
theorem dX12_isValue_25 : decode cX12_isValue 25 = .ok (.iload_n 1, 1) := by decide +kernel
theorem dX12_isValue_26 : decode cX12_isValue 26 = .ok (.bipush 21, 2) := by decide +kernel
theorem dX12_isValue_28 : decode cX12_isValue 28 = .ok (.bipush 24, 2) := by decide +kernel
theorem dX12_isValue_30 : decode cX12_isValue 30 = .ok (.invokestatic 101, 3) := by decide +kernel
theorem dX12_isValue_33 : decode cX12_isValue 33 = .ok (.ifCond .eq 7, 3) := by decide +kernel
theorem dX12_isValue_36 : decode cX12_isValue 36 = .ok (.iconst 1, 1) := by decide +kernel
theorem dX12_isValue_37 : decode cX12_isValue 37 = .ok (.goto 15, 3) := by decide +kernel
theorem dX12_isValue_40 : decode cX12_isValue 40 = .ok (.iconst 0, 1) := by decide +kernel
theorem dX12_isValue_41 : decode cX12_isValue 41 = .ok (.goto 11, 3) := by decide +kernel
theorem dX12_isValue_44 : decode cX12_isValue 44 = .ok (.iload_n 1, 1) := by decide +kernel
theorem dX12_isValue_45 : decode cX12_isValue 45 = .ok (.bipush 8, 2) := by decide +kernel
theorem dX12_isValue_47 : decode cX12_isValue 47 = .ok (.bipush 20, 2) := by decide +kernel
theorem dX12_isValue_49 : decode cX12_isValue 49 = .ok (.invokestatic 101, 3) := by decide +kernel
theorem dX12_isValue_52 : decode cX12_isValue 52 = .ok (.ireturn, 1) := by decide +kernel
theorem dX12_mustNumber_0 : decode cX12_mustNumber 0 = .ok (.aload_n 0, 1) := by decide +kernel
theorem dX12_mustNumber_1 : decode cX12_mustNumber 1 = .ok (.invokevirtual 157, 3) := by decide +kernel
theorem dX12_mustNumber_4 : decode cX12_mustNumber 4 = .ok (.ifCond .eq 38, 3) := by decide +kernel
theorem dX12_mustNumber_7 : decode cX12_mustNumber 7 = .ok (.aload_n 0, 1) := by decide +kernel
theorem dX12_mustNumber_8 : decode cX12_mustNumber 8 = .ok (.getfield 50, 3) := by decide +kernel
theorem dX12_mustNumber_11 : decode cX12_mustNumber 11 = .ok (.aload_n 0, 1) := by decide +kernel
theorem dX12_mustNumber_12 : decode cX12_mustNumber 12 = .ok (.getfield 161, 3) := by decide +kernel
theorem dX12_mustNumber_15 : decode cX12_mustNumber 15 = .ok (.iaload, 1) := by decide +kernel
theorem dX12_mustNumber_16 : decode cX12_mustNumber 16 = .ok (.bipush 50, 2) := by decide +kernel
theorem dX12_mustNumber_18 : decode cX12_mustNumber 18 = .ok (.if_icmp .ne 20, 3) := by decide +kernel
theorem dX12_mustNumber_21 : decode cX12_mustNumber 21 = .ok (.aload_n 0, 1) := by decide +kernel
theorem dX12_mustNumber_22 : decode cX12_mustNumber 22 = .ok (.getfield 53, 3) := by decide +kernel
theorem dX12_mustNumber_25 : decode cX12_mustNumber 25 = .ok (.aload_n 0, 1) := by decide +kernel
theorem dX12_mustNumber_26 : decode cX12_mustNumber 26 = .ok (.getfield 161, 3) := by decide +kernel
theorem dX12_mustNumber_29 : decode cX12_mustNumber 29 = .ok (.iaload, 1) := by decide +kernel
theorem dX12_mustNumber_30 : decode cX12_mustNumber 30 = .ok (.iload_n 1, 1) := by decide +kernel
theorem dX12_mustNumber_31 : decode cX12_mustNumber 31 = .ok (.iload_n 2, 1) := by decide +kernel
theorem dX12_mustNumber_32 : decode cX12_mustNumber 32 = .ok (.invokestatic 101, 3) := by decide +kernel
theorem dX12_mustNumber_35 : decode cX12_mustNumber 35 = .ok (.ifCond .ne 7, 3) := by decide +kernel
theorem dX12_mustNumber_38 : decode cX12_mustNumber 38 = .ok (.aload_n 0, 1) := by decide +kernel
theorem dX12_mustNumber_39 : decode cX12_mustNumber 39 = .ok (.invokevirtual 167, 3) := by decide +kernel
theorem dX12_mustNumber_42 : decode cX12_mustNumber 42 = .ok (.aload_n 0, 1) := by decide +kernel
theorem dX12_mustNumber_43 : decode cX12_mustNumber 43 = .ok (.invokevirtual 157, 3) := by decide +kernel
theorem dX12_mustNumber_46 : decode cX12_mustNumber 46 = .ok (.ifCond .eq 13, 3) := by decide +kernel
theorem dX12_mustNumber_49 : decode cX12_mustNumber 49 = .ok (.aload_n 0, 1) := by decide +kernel
theorem dX12_mustNumber_50 : decode cX12_mustNumber 50 = .ok (.dup, 1) := by decide +kernel
theorem dX12_mustNumber_51 : decode cX12_mustNumber 51 = .ok (.getfield 161, 3) := by decide +kernel
theorem dX12_mustNumber_54 : decode cX12_mustNumber 54 = .ok (.iconst 1, 1) := by decide +kernel
theorem dX12_mustNumber_55 : decode cX12_mustNumber 55 = .ok (.iadd, 1) := by decide +kernel
theorem dX12_mustNumber_56 : decode cX12_mustNumber 56 = .ok (.putfield 161, 3) := by decide +kernel
theorem dX12_mustNumber_59 : decode cX12_mustNumber 59 = .ok (.return_, 1) := by decide +kernel
theorem dX12_readClause_0 : decode cX12_readClause 0 = .ok (.aload_n 0, 1) := by decide +kernel
theorem dX12_readClause_1 : decode cX12_readClause 1 = .ok (.iconst 1, 1) := by decide +kernel
theorem dX12_readClause_2 : decode cX12_readClause 2 = .ok (.invokevirtual 164, 3) := by decide +kernel
theorem dX12_readClause_5 : decode cX12_readClause 5 = .ok (.ifCond .ne 11, 3) := by decide +kernel
theorem dX12_readClause_8 : decode cX12_readClause 8 = .ok (.aload_n 0, 1) := by decide +kernel
theorem dX12_readClause_9 : decode cX12_readClause 9 = .ok (.iconst 2, 1) := by decide +kernel
theorem dX12_readClause_10 : decode cX12_readClause 10 = .ok (.invokevirtual 164, 3) := by decide +kernel
theorem dX12_readClause_13 : decode cX12_readClause 13 = .ok (.ifCond .eq 11, 3) := by decide +kernel
theorem dX12_readClause_16 : decode cX12_readClause 16 = .ok (.aload_n 0, 1) := by decide +kernel
theorem dX12_readClause_17 : decode cX12_readClause 17 = .ok (.iconst 0, 1) := by decide +kernel
theorem dX12_readClause_18 : decode cX12_readClause 18 = .ok (.invokevirtual 177, 3) := by decide +kernel
theorem dX12_readClause_21 : decode cX12_readClause 21 = .ok (.goto 8, 3) := by decide +kernel
theorem dX12_readClause_24 : decode cX12_readClause 24 = .ok (.aload_n 0, 1) := by decide +kernel
theorem dX12_readClause_25 : decode cX12_readClause 25 = .ok (.iconst 3, 1) := by decide +kernel
theorem dX12_readClause_26 : decode cX12_readClause 26 = .ok (.invokevirtual 181, 3) := by decide +kernel
theorem dX12_readClause_29 : decode cX12_readClause 29 = .ok (.aload_n 0, 1) := by decide +kernel
theorem dX12_readClause_30 : decode cX12_readClause 30 = .ok (.iconst 4, 1) := by decide +kernel
theorem dX12_readClause_31 : decode cX12_readClause 31 = .ok (.invokevirtual 164, 3) := by decide +kernel
theorem dX12_readClause_34 : decode cX12_readClause 34 = .ok (.ifCond .eq 8, 3) := by decide +kernel
theorem dX12_readClause_37 : decode cX12_readClause 37 = .ok (.aload_n 0, 1) := by decide +kernel
theorem dX12_readClause_38 : decode cX12_readClause 38 = .ok (.iconst 0, 1) := by decide +kernel
theorem dX12_readClause_39 : decode cX12_readClause 39 = .ok (.invokevirtual 184, 3) := by decide +kernel
theorem dX12_readClause_42 : decode cX12_readClause 42 = .ok (.return_, 1) := by decide +kernel
theorem dX12_readSetting_0 : decode cX12_readSetting 0 = .ok (.aload_n 0, 1) := by decide +kernel
theorem dX12_readSetting_1 : decode cX12_readSetting 1 = .ok (.bipush 25, 2) := by decide +kernel
theorem dX12_readSetting_3 : decode cX12_readSetting 3 = .ok (.invokevirtual 164, 3) := by decide +kernel
theorem dX12_readSetting_6 : decode cX12_readSetting 6 = .ok (.ifCond .ne 12, 3) := by decide +kernel
theorem dX12_readSetting_9 : decode cX12_readSetting 9 = .ok (.aload_n 0, 1) := by decide +kernel
theorem dX12_readSetting_10 : decode cX12_readSetting 10 = .ok (.bipush 18, 2) := by decide +kernel
theorem dX12_readSetting_12 : decode cX12_readSetting 12 = .ok (.invokevirtual 164, 3) := by decide +kernel
theorem dX12_readSetting_15 : decode cX12_readSetting 15 = .ok (.ifCond .eq 11, 3) := by decide +kernel
theorem dX12_readSetting_18 : decode cX12_readSetting 18 = .ok (.aload_n 0, 1) := by decide +kernel
theorem dX12_readSetting_19 : decode cX12_readSetting 19 = .ok (.iconst 0, 1) := by decide +kernel
theorem dX12_readSetting_20 : decode cX12_readSetting 20 = .ok (.invokevirtual 177, 3) := by decide +kernel
theorem dX12_readSetting_23 : decode cX12_readSetting 23 = .ok (.goto 18, 3) := by decide +kernel
theorem dX12_readSetting_26 : decode cX12_readSetting 26 = .ok (.aload_n 0, 1) := by decide +kernel
theorem dX12_readSetting_27 : decode cX12_readSetting 27 = .ok (.bipush 26, 2) := by decide +kernel
theorem dX12_readSetting_29 : decode cX12_readSetting 29 = .ok (.invokevirtual 164, 3) := by decide +kernel
theorem dX12_readSetting_32 : decode cX12_readSetting 32 = .ok (.ifCond .ne 9, 3) := by decide +kernel
theorem dX12_readSetting_35 : decode cX12_readSetting 35 = .ok (.aload_n 0, 1) := by decide +kernel
theorem dX12_readSetting_36 : decode cX12_readSetting 36 = .ok (.bipush 27, 2) := by decide +kernel
theorem dX12_readSetting_38 : decode cX12_readSetting 38 = .ok (.invokevirtual 181, 3) := by decide +kernel
theorem dX12_readSetting_41 : decode cX12_readSetting 41 = .ok (.aload_n 0, 1) := by decide +kernel
theorem dX12_readSetting_42 : decode cX12_readSetting 42 = .ok (.bipush 28, 2) := by decide +kernel
theorem dX12_readSetting_44 : decode cX12_readSetting 44 = .ok (.invokevirtual 164, 3) := by decide +kernel
theorem dX12_readSetting_47 : decode cX12_readSetting 47 = .ok (.ifCond .eq 10, 3) := by decide +kernel
theorem dX12_readSetting_50 : decode cX12_readSetting 50 = .ok (.aload_n 0, 1) := by decide +kernel
theorem dX12_readSetting_51 : decode cX12_readSetting 51 = .ok (.iconst 1, 1) := by decide +kernel
theorem dX12_readSetting_52 : decode cX12_readSetting 52 = .ok (.bipush 20, 2) := by decide +kernel
theorem dX12_readSetting_54 : decode cX12_readSetting 54 = .ok (.invokevirtual 187, 3) := by decide +kernel
theorem dX12_readSetting_57 : decode cX12_readSetting 57 = .ok (.aload_n 0, 1) := by decide +kernel
theorem dX12_readSetting_58 : decode cX12_readSetting 58 = .ok (.iconst 4, 1) := by decide +kernel
theorem dX12_readSetting_59 : decode cX12_readSetting 59 = .ok (.invokevirtual 164, 3) := by decide +kernel
theorem dX12_readSetting_62 : decode cX12_readSetting 62 = .ok (.ifCond .eq 8, 3) := by decide +kernel
theorem dX12_readSetting_65 : decode cX12_readSetting 65 = .ok (.aload_n 0, 1) := by decide +kernel
theorem dX12_readSetting_66 : decode cX12_readSetting 66 = .ok (.iconst 0, 1) := by decide +kernel
theorem dX12_readSetting_67 : decode cX12_readSetting 67 = .ok (.invokevirtual 184, 3) := by decide +kernel
theorem dX12_readSetting_70 : decode cX12_readSetting 70 = .ok (.return_, 1) := by decide +kernel
theorem dX12_readOne_0 : decode cX12_readOne 0 = .ok (.aload_n 0, 1) := by decide +kernel
theorem dX12_readOne_1 : decode cX12_readOne 1 = .ok (.getfield 173, 3) := by decide +kernel
theorem dX12_readOne_4 : decode cX12_readOne 4 = .ok (.ifCond .eq 10, 3) := by decide +kernel
theorem dX12_readOne_7 : decode cX12_readOne 7 = .ok (.aload_n 0, 1) := by decide +kernel
theorem dX12_readOne_8 : decode cX12_readOne 8 = .ok (.invokevirtual 191, 3) := by decide +kernel
theorem dX12_readOne_11 : decode cX12_readOne 11 = .ok (.goto 7, 3) := by decide +kernel
theorem dX12_readOne_14 : decode cX12_readOne 14 = .ok (.aload_n 0, 1) := by decide +kernel
theorem dX12_readOne_15 : decode cX12_readOne 15 = .ok (.invokevirtual 194, 3) := by decide +kernel
theorem dX12_readOne_18 : decode cX12_readOne 18 = .ok (.return_, 1) := by decide +kernel
theorem dX12_readTest_0 : decode cX12_readTest 0 = .ok (.aload_n 0, 1) := by decide +kernel
theorem dX12_readTest_1 : decode cX12_readTest 1 = .ok (.iload_n 1, 1) := by decide +kernel
theorem dX12_readTest_2 : decode cX12_readTest 2 = .ok (.invokevirtual 197, 3) := by decide +kernel
theorem dX12_readTest_5 : decode cX12_readTest 5 = .ok (.aload_n 0, 1) := by decide +kernel
theorem dX12_readTest_6 : decode cX12_readTest 6 = .ok (.iconst 5, 1) := by decide +kernel
theorem dX12_readTest_7 : decode cX12_readTest 7 = .ok (.invokevirtual 164, 3) := by decide +kernel
theorem dX12_readTest_10 : decode cX12_readTest 10 = .ok (.ifCond .eq 11, 3) := by decide +kernel
theorem dX12_readTest_13 : decode cX12_readTest 13 = .ok (.aload_n 0, 1) := by decide +kernel
theorem dX12_readTest_14 : decode cX12_readTest 14 = .ok (.iload_n 1, 1) := by decide +kernel
theorem dX12_readTest_15 : decode cX12_readTest 15 = .ok (.invokevirtual 197, 3) := by decide +kernel
theorem dX12_readTest_18 : decode cX12_readTest 18 = .ok (.goto (-13), 3) := by decide +kernel
theorem dX12_readTest_21 : decode cX12_readTest 21 = .ok (.return_, 1) := by decide +kernel
theorem dX12_readBoth_0 : decode cX12_readBoth 0 = .ok (.aload_n 0, 1) := by decide +kernel
theorem dX12_readBoth_1 : decode cX12_readBoth 1 = .ok (.iload_n 1, 1) := by decide +kernel
theorem dX12_readBoth_2 : decode cX12_readBoth 2 = .ok (.invokevirtual 200, 3) := by decide +kernel
theorem dX12_readBoth_5 : decode cX12_readBoth 5 = .ok (.aload_n 0, 1) := by decide +kernel
theorem dX12_readBoth_6 : decode cX12_readBoth 6 = .ok (.bipush 6, 2) := by decide +kernel
theorem dX12_readBoth_8 : decode cX12_readBoth 8 = .ok (.invokevirtual 164, 3) := by decide +kernel
theorem dX12_readBoth_11 : decode cX12_readBoth 11 = .ok (.ifCond .eq 11, 3) := by decide +kernel
theorem dX12_readBoth_14 : decode cX12_readBoth 14 = .ok (.aload_n 0, 1) := by decide +kernel
theorem dX12_readBoth_15 : decode cX12_readBoth 15 = .ok (.iload_n 1, 1) := by decide +kernel
theorem dX12_readBoth_16 : decode cX12_readBoth 16 = .ok (.invokevirtual 200, 3) := by decide +kernel
theorem dX12_readBoth_19 : decode cX12_readBoth 19 = .ok (.goto (-14), 3) := by decide +kernel
theorem dX12_readBoth_22 : decode cX12_readBoth 22 = .ok (.return_, 1) := by decide +kernel
theorem dX12_readPlain_0 : decode cX12_readPlain 0 = .ok (.iconst 1, 1) := by decide +kernel
theorem dX12_readPlain_1 : decode cX12_readPlain 1 = .ok (.istore_n 2, 1) := by decide +kernel
theorem dX12_readPlain_2 : decode cX12_readPlain 2 = .ok (.iload_n 2, 1) := by decide +kernel
theorem dX12_readPlain_3 : decode cX12_readPlain 3 = .ok (.ifCond .eq 13, 3) := by decide +kernel
theorem dX12_readPlain_6 : decode cX12_readPlain 6 = .ok (.aload_n 0, 1) := by decide +kernel
theorem dX12_readPlain_7 : decode cX12_readPlain 7 = .ok (.bipush 7, 2) := by decide +kernel
theorem dX12_readPlain_9 : decode cX12_readPlain 9 = .ok (.invokevirtual 164, 3) := by decide +kernel
theorem dX12_readPlain_12 : decode cX12_readPlain 12 = .ok (.istore_n 2, 1) := by decide +kernel
theorem dX12_readPlain_13 : decode cX12_readPlain 13 = .ok (.goto (-11), 3) := by decide +kernel
theorem dX12_readPlain_16 : decode cX12_readPlain 16 = .ok (.aload_n 0, 1) := by decide +kernel
theorem dX12_readPlain_17 : decode cX12_readPlain 17 = .ok (.invokevirtual 157, 3) := by decide +kernel
theorem dX12_readPlain_20 : decode cX12_readPlain 20 = .ok (.ifCond .ne 4, 3) := by decide +kernel
theorem dX12_readPlain_23 : decode cX12_readPlain 23 = .ok (.return_, 1) := by decide +kernel
theorem dX12_readPlain_24 : decode cX12_readPlain 24 = .ok (.aload_n 0, 1) := by decide +kernel
theorem dX12_readPlain_25 : decode cX12_readPlain 25 = .ok (.getfield 50, 3) := by decide +kernel
theorem dX12_readPlain_28 : decode cX12_readPlain 28 = .ok (.aload_n 0, 1) := by decide +kernel
theorem dX12_readPlain_29 : decode cX12_readPlain 29 = .ok (.getfield 161, 3) := by decide +kernel
theorem dX12_readPlain_32 : decode cX12_readPlain 32 = .ok (.iaload, 1) := by decide +kernel
theorem dX12_readPlain_33 : decode cX12_readPlain 33 = .ok (.istore_n 3, 1) := by decide +kernel
theorem dX12_readPlain_34 : decode cX12_readPlain 34 = .ok (.iload_n 3, 1) := by decide +kernel
theorem dX12_readPlain_35 : decode cX12_readPlain 35 = .ok (.bipush 40, 2) := by decide +kernel
theorem dX12_readPlain_37 : decode cX12_readPlain 37 = .ok (.invokestatic 203, 3) := by decide +kernel
theorem dX12_readPlain_40 : decode cX12_readPlain 40 = .ok (.if_icmp .ne 50, 3) := by decide +kernel
theorem dX12_readPlain_43 : decode cX12_readPlain 43 = .ok (.iload_n 1, 1) := by decide +kernel
theorem dX12_readPlain_44 : decode cX12_readPlain 44 = .ok (.bipush 8, 2) := by decide +kernel
theorem dX12_readPlain_46 : decode cX12_readPlain 46 = .ok (.if_icmp .ne 7, 3) := by decide +kernel
theorem dX12_readPlain_49 : decode cX12_readPlain 49 = .ok (.aload_n 0, 1) := by decide +kernel
theorem dX12_readPlain_50 : decode cX12_readPlain 50 = .ok (.invokevirtual 167, 3) := by decide +kernel
theorem dX12_readPlain_53 : decode cX12_readPlain 53 = .ok (.aload_n 0, 1) := by decide +kernel
theorem dX12_readPlain_54 : decode cX12_readPlain 54 = .ok (.invokevirtual 157, 3) := by decide +kernel
theorem dX12_readPlain_57 : decode cX12_readPlain 57 = .ok (.ifCond .ne 4, 3) := by decide +kernel
theorem dX12_readPlain_60 : decode cX12_readPlain 60 = .ok (.return_, 1) := by decide +kernel
theorem dX12_readPlain_61 : decode cX12_readPlain 61 = .ok (.aload_n 0, 1) := by decide +kernel
theorem dX12_readPlain_62 : decode cX12_readPlain 62 = .ok (.dup, 1) := by decide +kernel
theorem dX12_readPlain_63 : decode cX12_readPlain 63 = .ok (.getfield 161, 3) := by decide +kernel
theorem dX12_readPlain_66 : decode cX12_readPlain 66 = .ok (.iconst 1, 1) := by decide +kernel
theorem dX12_readPlain_67 : decode cX12_readPlain 67 = .ok (.iadd, 1) := by decide +kernel
theorem dX12_readPlain_68 : decode cX12_readPlain 68 = .ok (.putfield 161, 3) := by decide +kernel
theorem dX12_readPlain_71 : decode cX12_readPlain 71 = .ok (.aload_n 0, 1) := by decide +kernel
theorem dX12_readPlain_72 : decode cX12_readPlain 72 = .ok (.iload_n 1, 1) := by decide +kernel
theorem dX12_readPlain_73 : decode cX12_readPlain 73 = .ok (.iconst 1, 1) := by decide +kernel
theorem dX12_readPlain_74 : decode cX12_readPlain 74 = .ok (.iadd, 1) := by decide +kernel
theorem dX12_readPlain_75 : decode cX12_readPlain 75 = .ok (.invokevirtual 184, 3) := by decide +kernel
theorem dX12_readPlain_78 : decode cX12_readPlain 78 = .ok (.aload_n 0, 1) := by decide +kernel
theorem dX12_readPlain_79 : decode cX12_readPlain 79 = .ok (.bipush 41, 2) := by decide +kernel
theorem dX12_readPlain_81 : decode cX12_readPlain 81 = .ok (.invokestatic 203, 3) := by decide +kernel
theorem dX12_readPlain_84 : decode cX12_readPlain 84 = .ok (.invokevirtual 181, 3) := by decide +kernel
theorem dX12_readPlain_87 : decode cX12_readPlain 87 = .ok (.goto 46, 3) := by decide +kernel
theorem dX12_readPlain_90 : decode cX12_readPlain 90 = .ok (.aload_n 0, 1) := by decide +kernel
theorem dX12_readPlain_91 : decode cX12_readPlain 91 = .ok (.iload_n 1, 1) := by decide +kernel
theorem dX12_readPlain_92 : decode cX12_readPlain 92 = .ok (.invokevirtual 177, 3) := by decide +kernel
theorem dX12_readPlain_95 : decode cX12_readPlain 95 = .ok (.aload_n 0, 1) := by decide +kernel
theorem dX12_readPlain_96 : decode cX12_readPlain 96 = .ok (.bipush 60, 2) := by decide +kernel
theorem dX12_readPlain_98 : decode cX12_readPlain 98 = .ok (.invokestatic 203, 3) := by decide +kernel
theorem dX12_readPlain_101 : decode cX12_readPlain 101 = .ok (.invokevirtual 164, 3) := by decide +kernel
theorem dX12_readPlain_104 : decode cX12_readPlain 104 = .ok (.ifCond .ne 24, 3) := by decide +kernel
theorem dX12_readPlain_107 : decode cX12_readPlain 107 = .ok (.aload_n 0, 1) := by decide +kernel
theorem dX12_readPlain_108 : decode cX12_readPlain 108 = .ok (.bipush 62, 2) := by decide +kernel
theorem dX12_readPlain_110 : decode cX12_readPlain 110 = .ok (.invokestatic 203, 3) := by decide +kernel
theorem dX12_readPlain_113 : decode cX12_readPlain 113 = .ok (.invokevirtual 164, 3) := by decide +kernel
theorem dX12_readPlain_116 : decode cX12_readPlain 116 = .ok (.ifCond .ne 12, 3) := by decide +kernel
theorem dX12_readPlain_119 : decode cX12_readPlain 119 = .ok (.aload_n 0, 1) := by decide +kernel
theorem dX12_readPlain_120 : decode cX12_readPlain 120 = .ok (.bipush 61, 2) := by decide +kernel
theorem dX12_readPlain_122 : decode cX12_readPlain 122 = .ok (.invokestatic 203, 3) := by decide +kernel
theorem dX12_readPlain_125 : decode cX12_readPlain 125 = .ok (.invokevirtual 181, 3) := by decide +kernel
theorem dX12_readPlain_128 : decode cX12_readPlain 128 = .ok (.aload_n 0, 1) := by decide +kernel
theorem dX12_readPlain_129 : decode cX12_readPlain 129 = .ok (.iload_n 1, 1) := by decide +kernel
theorem dX12_readPlain_130 : decode cX12_readPlain 130 = .ok (.invokevirtual 177, 3) := by decide +kernel
theorem dX12_readPlain_133 : decode cX12_readPlain 133 = .ok (.return_, 1) := by decide +kernel
theorem dX12_readSum_0 : decode cX12_readSum 0 = .ok (.aload_n 0, 1) := by decide +kernel
theorem dX12_readSum_1 : decode cX12_readSum 1 = .ok (.iload_n 1, 1) := by decide +kernel
theorem dX12_readSum_2 : decode cX12_readSum 2 = .ok (.invokevirtual 207, 3) := by decide +kernel
theorem dX12_readSum_5 : decode cX12_readSum 5 = .ok (.aload_n 0, 1) := by decide +kernel
theorem dX12_readSum_6 : decode cX12_readSum 6 = .ok (.bipush 43, 2) := by decide +kernel
theorem dX12_readSum_8 : decode cX12_readSum 8 = .ok (.invokestatic 203, 3) := by decide +kernel
theorem dX12_readSum_11 : decode cX12_readSum 11 = .ok (.invokevirtual 164, 3) := by decide +kernel
theorem dX12_readSum_14 : decode cX12_readSum 14 = .ok (.ifCond .ne 15, 3) := by decide +kernel
theorem dX12_readSum_17 : decode cX12_readSum 17 = .ok (.aload_n 0, 1) := by decide +kernel
theorem dX12_readSum_18 : decode cX12_readSum 18 = .ok (.bipush 45, 2) := by decide +kernel
theorem dX12_readSum_20 : decode cX12_readSum 20 = .ok (.invokestatic 203, 3) := by decide +kernel
theorem dX12_readSum_23 : decode cX12_readSum 23 = .ok (.invokevirtual 164, 3) := by decide +kernel
theorem dX12_readSum_26 : decode cX12_readSum 26 = .ok (.ifCond .eq 11, 3) := by decide +kernel
theorem dX12_readSum_29 : decode cX12_readSum 29 = .ok (.aload_n 0, 1) := by decide +kernel
theorem dX12_readSum_30 : decode cX12_readSum 30 = .ok (.iload_n 1, 1) := by decide +kernel
theorem dX12_readSum_31 : decode cX12_readSum 31 = .ok (.invokevirtual 207, 3) := by decide +kernel
theorem dX12_readSum_34 : decode cX12_readSum 34 = .ok (.goto (-29), 3) := by decide +kernel
theorem dX12_readSum_37 : decode cX12_readSum 37 = .ok (.return_, 1) := by decide +kernel
theorem dX12_readTerm_0 : decode cX12_readTerm 0 = .ok (.aload_n 0, 1) := by decide +kernel
theorem dX12_readTerm_1 : decode cX12_readTerm 1 = .ok (.iload_n 1, 1) := by decide +kernel
theorem dX12_readTerm_2 : decode cX12_readTerm 2 = .ok (.invokevirtual 210, 3) := by decide +kernel
theorem dX12_readTerm_5 : decode cX12_readTerm 5 = .ok (.aload_n 0, 1) := by decide +kernel
theorem dX12_readTerm_6 : decode cX12_readTerm 6 = .ok (.bipush 42, 2) := by decide +kernel
theorem dX12_readTerm_8 : decode cX12_readTerm 8 = .ok (.invokestatic 203, 3) := by decide +kernel
theorem dX12_readTerm_11 : decode cX12_readTerm 11 = .ok (.invokevirtual 164, 3) := by decide +kernel
theorem dX12_readTerm_14 : decode cX12_readTerm 14 = .ok (.ifCond .ne 27, 3) := by decide +kernel
theorem dX12_readTerm_17 : decode cX12_readTerm 17 = .ok (.aload_n 0, 1) := by decide +kernel
theorem dX12_readTerm_18 : decode cX12_readTerm 18 = .ok (.bipush 47, 2) := by decide +kernel
theorem dX12_readTerm_20 : decode cX12_readTerm 20 = .ok (.invokestatic 203, 3) := by decide +kernel
theorem dX12_readTerm_23 : decode cX12_readTerm 23 = .ok (.invokevirtual 164, 3) := by decide +kernel
theorem dX12_readTerm_26 : decode cX12_readTerm 26 = .ok (.ifCond .ne 15, 3) := by decide +kernel
theorem dX12_readTerm_29 : decode cX12_readTerm 29 = .ok (.aload_n 0, 1) := by decide +kernel
theorem dX12_readTerm_30 : decode cX12_readTerm 30 = .ok (.bipush 37, 2) := by decide +kernel
theorem dX12_readTerm_32 : decode cX12_readTerm 32 = .ok (.invokestatic 203, 3) := by decide +kernel
theorem dX12_readTerm_35 : decode cX12_readTerm 35 = .ok (.invokevirtual 164, 3) := by decide +kernel
theorem dX12_readTerm_38 : decode cX12_readTerm 38 = .ok (.ifCond .eq 11, 3) := by decide +kernel
theorem dX12_readTerm_41 : decode cX12_readTerm 41 = .ok (.aload_n 0, 1) := by decide +kernel
theorem dX12_readTerm_42 : decode cX12_readTerm 42 = .ok (.iload_n 1, 1) := by decide +kernel
theorem dX12_readTerm_43 : decode cX12_readTerm 43 = .ok (.invokevirtual 210, 3) := by decide +kernel
theorem dX12_readTerm_46 : decode cX12_readTerm 46 = .ok (.goto (-41), 3) := by decide +kernel
theorem dX12_readTerm_49 : decode cX12_readTerm 49 = .ok (.return_, 1) := by decide +kernel
theorem dX12_readPart_0 : decode cX12_readPart 0 = .ok (.aload_n 0, 1) := by decide +kernel
theorem dX12_readPart_1 : decode cX12_readPart 1 = .ok (.invokevirtual 157, 3) := by decide +kernel
theorem dX12_readPart_4 : decode cX12_readPart 4 = .ok (.ifCond .ne 4, 3) := by decide +kernel
theorem dX12_readPart_7 : decode cX12_readPart 7 = .ok (.return_, 1) := by decide +kernel
theorem dX12_readPart_8 : decode cX12_readPart 8 = .ok (.aload_n 0, 1) := by decide +kernel
theorem dX12_readPart_9 : decode cX12_readPart 9 = .ok (.getfield 50, 3) := by decide +kernel
theorem dX12_readPart_12 : decode cX12_readPart 12 = .ok (.aload_n 0, 1) := by decide +kernel
theorem dX12_readPart_13 : decode cX12_readPart 13 = .ok (.getfield 161, 3) := by decide +kernel
theorem dX12_readPart_16 : decode cX12_readPart 16 = .ok (.iaload, 1) := by decide +kernel
theorem dX12_readPart_17 : decode cX12_readPart 17 = .ok (.istore_n 2, 1) := by decide +kernel
theorem dX12_readPart_18 : decode cX12_readPart 18 = .ok (.iload_n 2, 1) := by decide +kernel
theorem dX12_readPart_19 : decode cX12_readPart 19 = .ok (.bipush 91, 2) := by decide +kernel
theorem dX12_readPart_21 : decode cX12_readPart 21 = .ok (.invokestatic 203, 3) := by decide +kernel
theorem dX12_readPart_24 : decode cX12_readPart 24 = .ok (.if_icmp .ne 50, 3) := by decide +kernel
theorem dX12_readPart_27 : decode cX12_readPart 27 = .ok (.iload_n 1, 1) := by decide +kernel
theorem dX12_readPart_28 : decode cX12_readPart 28 = .ok (.bipush 8, 2) := by decide +kernel
theorem dX12_readPart_30 : decode cX12_readPart 30 = .ok (.if_icmp .ne 7, 3) := by decide +kernel
theorem dX12_readPart_33 : decode cX12_readPart 33 = .ok (.aload_n 0, 1) := by decide +kernel
theorem dX12_readPart_34 : decode cX12_readPart 34 = .ok (.invokevirtual 167, 3) := by decide +kernel
theorem dX12_readPart_37 : decode cX12_readPart 37 = .ok (.aload_n 0, 1) := by decide +kernel
theorem dX12_readPart_38 : decode cX12_readPart 38 = .ok (.invokevirtual 157, 3) := by decide +kernel
theorem dX12_readPart_41 : decode cX12_readPart 41 = .ok (.ifCond .ne 4, 3) := by decide +kernel
theorem dX12_readPart_44 : decode cX12_readPart 44 = .ok (.return_, 1) := by decide +kernel
theorem dX12_readPart_45 : decode cX12_readPart 45 = .ok (.aload_n 0, 1) := by decide +kernel
theorem dX12_readPart_46 : decode cX12_readPart 46 = .ok (.dup, 1) := by decide +kernel
theorem dX12_readPart_47 : decode cX12_readPart 47 = .ok (.getfield 161, 3) := by decide +kernel
theorem dX12_readPart_50 : decode cX12_readPart 50 = .ok (.iconst 1, 1) := by decide +kernel
theorem dX12_readPart_51 : decode cX12_readPart 51 = .ok (.iadd, 1) := by decide +kernel
theorem dX12_readPart_52 : decode cX12_readPart 52 = .ok (.putfield 161, 3) := by decide +kernel
theorem dX12_readPart_55 : decode cX12_readPart 55 = .ok (.aload_n 0, 1) := by decide +kernel
theorem dX12_readPart_56 : decode cX12_readPart 56 = .ok (.iload_n 1, 1) := by decide +kernel
theorem dX12_readPart_57 : decode cX12_readPart 57 = .ok (.iconst 1, 1) := by decide +kernel
theorem dX12_readPart_58 : decode cX12_readPart 58 = .ok (.iadd, 1) := by decide +kernel
theorem dX12_readPart_59 : decode cX12_readPart 59 = .ok (.invokevirtual 177, 3) := by decide +kernel
theorem dX12_readPart_62 : decode cX12_readPart 62 = .ok (.aload_n 0, 1) := by decide +kernel
theorem dX12_readPart_63 : decode cX12_readPart 63 = .ok (.bipush 93, 2) := by decide +kernel
theorem dX12_readPart_65 : decode cX12_readPart 65 = .ok (.invokestatic 203, 3) := by decide +kernel
theorem dX12_readPart_68 : decode cX12_readPart 68 = .ok (.invokevirtual 181, 3) := by decide +kernel
theorem dX12_readPart_71 : decode cX12_readPart 71 = .ok (.goto 69, 3) := by decide +kernel
theorem dX12_readPart_74 : decode cX12_readPart 74 = .ok (.iload_n 2, 1) := by decide +kernel
theorem dX12_readPart_75 : decode cX12_readPart 75 = .ok (.bipush 50, 2) := by decide +kernel
theorem dX12_readPart_77 : decode cX12_readPart 77 = .ok (.if_icmp .ne 18, 3) := by decide +kernel
theorem dX12_readPart_80 : decode cX12_readPart 80 = .ok (.aload_n 0, 1) := by decide +kernel
theorem dX12_readPart_81 : decode cX12_readPart 81 = .ok (.getfield 53, 3) := by decide +kernel
theorem dX12_readPart_84 : decode cX12_readPart 84 = .ok (.aload_n 0, 1) := by decide +kernel
theorem dX12_readPart_85 : decode cX12_readPart 85 = .ok (.getfield 161, 3) := by decide +kernel
theorem dX12_readPart_88 : decode cX12_readPart 88 = .ok (.iaload, 1) := by decide +kernel
theorem dX12_readPart_89 : decode cX12_readPart 89 = .ok (.sipush 1000, 3) := by decide +kernel
theorem dX12_readPart_92 : decode cX12_readPart 92 = .ok (.if_icmp .le 11, 3) := by decide +kernel
theorem dX12_readPart_95 : decode cX12_readPart 95 = .ok (.aload_n 0, 1) := by decide +kernel
theorem dX12_readPart_96 : decode cX12_readPart 96 = .ok (.iload_n 2, 1) := by decide +kernel
theorem dX12_readPart_97 : decode cX12_readPart 97 = .ok (.invokevirtual 213, 3) := by decide +kernel
theorem dX12_readPart_100 : decode cX12_readPart 100 = .ok (.ifCond .eq 36, 3) := by decide +kernel
theorem dX12_readPart_103 : decode cX12_readPart 103 = .ok (.aload_n 0, 1) := by decide +kernel
theorem dX12_readPart_104 : decode cX12_readPart 104 = .ok (.invokevirtual 216, 3) := by decide +kernel
theorem dX12_readPart_107 : decode cX12_readPart 107 = .ok (.aload_n 0, 1) := by decide +kernel
theorem dX12_readPart_108 : decode cX12_readPart 108 = .ok (.getfield 173, 3) := by decide +kernel
theorem dX12_readPart_111 : decode cX12_readPart 111 = .ok (.ifCond .eq 29, 3) := by decide +kernel
theorem dX12_readPart_114 : decode cX12_readPart 114 = .ok (.iload_n 2, 1) := by decide +kernel
theorem dX12_readPart_115 : decode cX12_readPart 115 = .ok (.bipush 24, 2) := by decide +kernel
theorem dX12_readPart_117 : decode cX12_readPart 117 = .ok (.if_icmp .eq 9, 3) := by decide +kernel
theorem dX12_readPart_120 : decode cX12_readPart 120 = .ok (.iload_n 2, 1) := by decide +kernel
theorem dX12_readPart_121 : decode cX12_readPart 121 = .ok (.bipush 9, 2) := by decide +kernel
theorem dX12_readPart_123 : decode cX12_readPart 123 = .ok (.if_icmp .ne 17, 3) := by decide +kernel
theorem dX12_readPart_126 : decode cX12_readPart 126 = .ok (.aload_n 0, 1) := by decide +kernel
theorem dX12_readPart_127 : decode cX12_readPart 127 = .ok (.iconst 0, 1) := by decide +kernel
theorem dX12_readPart_128 : decode cX12_readPart 128 = .ok (.bipush 15, 2) := by decide +kernel
theorem dX12_readPart_130 : decode cX12_readPart 130 = .ok (.invokevirtual 187, 3) := by decide +kernel
theorem dX12_readPart_133 : decode cX12_readPart 133 = .ok (.goto 7, 3) := by decide +kernel
theorem dX12_readPart_136 : decode cX12_readPart 136 = .ok (.aload_n 0, 1) := by decide +kernel
theorem dX12_readPart_137 : decode cX12_readPart 137 = .ok (.invokevirtual 167, 3) := by decide +kernel
theorem dX12_readPart_140 : decode cX12_readPart 140 = .ok (.return_, 1) := by decide +kernel
theorem dX12_reads_0 : decode cX12_reads 0 = .ok (.aload_n 0, 1) := by decide +kernel
theorem dX12_reads_1 : decode cX12_reads 1 = .ok (.aload_n 0, 1) := by decide +kernel
theorem dX12_reads_2 : decode cX12_reads 2 = .ok (.getfield 117, 3) := by decide +kernel
theorem dX12_reads_5 : decode cX12_reads 5 = .ok (.invokevirtual 219, 3) := by decide +kernel
theorem dX12_reads_8 : decode cX12_reads 8 = .ok (.aload_n 0, 1) := by decide +kernel
theorem dX12_reads_9 : decode cX12_reads 9 = .ok (.iconst 0, 1) := by decide +kernel
theorem dX12_reads_10 : decode cX12_reads 10 = .ok (.putfield 117, 3) := by decide +kernel
theorem dX12_reads_13 : decode cX12_reads 13 = .ok (.aload_n 0, 1) := by decide +kernel
theorem dX12_reads_14 : decode cX12_reads 14 = .ok (.iconst 0, 1) := by decide +kernel
theorem dX12_reads_15 : decode cX12_reads 15 = .ok (.putfield 161, 3) := by decide +kernel
theorem dX12_reads_18 : decode cX12_reads 18 = .ok (.aload_n 0, 1) := by decide +kernel
theorem dX12_reads_19 : decode cX12_reads 19 = .ok (.iconst 0, 1) := by decide +kernel
theorem dX12_reads_20 : decode cX12_reads 20 = .ok (.putfield 170, 3) := by decide +kernel
theorem dX12_reads_23 : decode cX12_reads 23 = .ok (.aload_n 0, 1) := by decide +kernel
theorem dX12_reads_24 : decode cX12_reads 24 = .ok (.iconst (-1), 1) := by decide +kernel
theorem dX12_reads_25 : decode cX12_reads 25 = .ok (.putfield 154, 3) := by decide +kernel
theorem dX12_reads_28 : decode cX12_reads 28 = .ok (.aload_n 0, 1) := by decide +kernel
theorem dX12_reads_29 : decode cX12_reads 29 = .ok (.invokevirtual 222, 3) := by decide +kernel
theorem dX12_reads_32 : decode cX12_reads 32 = .ok (.iconst 1, 1) := by decide +kernel
theorem dX12_reads_33 : decode cX12_reads 33 = .ok (.istore_n 1, 1) := by decide +kernel
theorem dX12_reads_34 : decode cX12_reads 34 = .ok (.aload_n 0, 1) := by decide +kernel
theorem dX12_reads_35 : decode cX12_reads 35 = .ok (.bipush 59, 2) := by decide +kernel
theorem dX12_reads_37 : decode cX12_reads 37 = .ok (.invokestatic 203, 3) := by decide +kernel
theorem dX12_reads_40 : decode cX12_reads 40 = .ok (.invokevirtual 164, 3) := by decide +kernel
theorem dX12_reads_43 : decode cX12_reads 43 = .ok (.ifCond .eq 30, 3) := by decide +kernel
theorem dX12_reads_46 : decode cX12_reads 46 = .ok (.iload_n 1, 1) := by decide +kernel
theorem dX12_reads_47 : decode cX12_reads 47 = .ok (.bipush 12, 2) := by decide +kernel
theorem dX12_reads_49 : decode cX12_reads 49 = .ok (.if_icmp .ne 7, 3) := by decide +kernel
theorem dX12_reads_52 : decode cX12_reads 52 = .ok (.aload_n 0, 1) := by decide +kernel
theorem dX12_reads_53 : decode cX12_reads 53 = .ok (.invokevirtual 167, 3) := by decide +kernel
theorem dX12_reads_56 : decode cX12_reads 56 = .ok (.aload_n 0, 1) := by decide +kernel
theorem dX12_reads_57 : decode cX12_reads 57 = .ok (.invokevirtual 157, 3) := by decide +kernel
theorem dX12_reads_60 : decode cX12_reads 60 = .ok (.ifCond .eq 7, 3) := by decide +kernel
theorem dX12_reads_63 : decode cX12_reads 63 = .ok (.aload_n 0, 1) := by decide +kernel
theorem dX12_reads_64 : decode cX12_reads 64 = .ok (.invokevirtual 222, 3) := by decide +kernel
theorem dX12_reads_67 : decode cX12_reads 67 = .ok (.iinc 1 1, 3) := by decide +kernel
theorem dX12_reads_70 : decode cX12_reads 70 = .ok (.goto (-36), 3) := by decide +kernel
theorem dX12_reads_73 : decode cX12_reads 73 = .ok (.aload_n 0, 1) := by decide +kernel
theorem dX12_reads_74 : decode cX12_reads 74 = .ok (.invokevirtual 157, 3) := by decide +kernel
theorem dX12_reads_77 : decode cX12_reads 77 = .ok (.ifCond .eq 18, 3) := by decide +kernel
theorem dX12_reads_80 : decode cX12_reads 80 = .ok (.aload_n 0, 1) := by decide +kernel
theorem dX12_reads_81 : decode cX12_reads 81 = .ok (.getfield 161, 3) := by decide +kernel
theorem dX12_reads_84 : decode cX12_reads 84 = .ok (.aload_n 0, 1) := by decide +kernel
theorem dX12_reads_85 : decode cX12_reads 85 = .ok (.getfield 141, 3) := by decide +kernel
theorem dX12_reads_88 : decode cX12_reads 88 = .ok (.if_icmp .ge 7, 3) := by decide +kernel
theorem dX12_reads_91 : decode cX12_reads 91 = .ok (.aload_n 0, 1) := by decide +kernel
theorem dX12_reads_92 : decode cX12_reads 92 = .ok (.invokevirtual 167, 3) := by decide +kernel
theorem dX12_reads_95 : decode cX12_reads 95 = .ok (.aload_n 0, 1) := by decide +kernel
theorem dX12_reads_96 : decode cX12_reads 96 = .ok (.aload_n 0, 1) := by decide +kernel
theorem dX12_reads_97 : decode cX12_reads 97 = .ok (.getfield 154, 3) := by decide +kernel
theorem dX12_reads_100 : decode cX12_reads 100 = .ok (.putfield 47, 3) := by decide +kernel
theorem dX12_reads_103 : decode cX12_reads 103 = .ok (.aload_n 0, 1) := by decide +kernel
theorem dX12_reads_104 : decode cX12_reads 104 = .ok (.invokevirtual 157, 3) := by decide +kernel
theorem dX12_reads_107 : decode cX12_reads 107 = .ok (.ireturn, 1) := by decide +kernel
theorem dX12_lays_0 : decode cX12_lays 0 = .ok (.aload_n 0, 1) := by decide +kernel
theorem dX12_lays_1 : decode cX12_lays 1 = .ok (.getfield 24, 3) := by decide +kernel
theorem dX12_lays_4 : decode cX12_lays 4 = .ok (.sipush 322, 3) := by decide +kernel
theorem dX12_lays_7 : decode cX12_lays 7 = .ok (.iload_n 1, 1) := by decide +kernel
theorem dX12_lays_8 : decode cX12_lays 8 = .ok (.iadd, 1) := by decide +kernel
theorem dX12_lays_9 : decode cX12_lays 9 = .ok (.aload_n 0, 1) := by decide +kernel
theorem dX12_lays_10 : decode cX12_lays 10 = .ok (.getfield 141, 3) := by decide +kernel
theorem dX12_lays_13 : decode cX12_lays 13 = .ok (.iastore, 1) := by decide +kernel
theorem dX12_lays_14 : decode cX12_lays 14 = .ok (.iconst 0, 1) := by decide +kernel
theorem dX12_lays_15 : decode cX12_lays 15 = .ok (.istore_n 2, 1) := by decide +kernel
theorem dX12_lays_16 : decode cX12_lays 16 = .ok (.iload_n 2, 1) := by decide +kernel
theorem dX12_lays_17 : decode cX12_lays 17 = .ok (.aload_n 0, 1) := by decide +kernel
theorem dX12_lays_18 : decode cX12_lays 18 = .ok (.getfield 141, 3) := by decide +kernel
theorem dX12_lays_21 : decode cX12_lays 21 = .ok (.if_icmp .ge 53, 3) := by decide +kernel
theorem dX12_lays_24 : decode cX12_lays 24 = .ok (.aload_n 0, 1) := by decide +kernel
theorem dX12_lays_25 : decode cX12_lays 25 = .ok (.getfield 24, 3) := by decide +kernel
theorem dX12_lays_28 : decode cX12_lays 28 = .ok (.sipush 329, 3) := by decide +kernel
theorem dX12_lays_31 : decode cX12_lays 31 = .ok (.sipush 400, 3) := by decide +kernel
theorem dX12_lays_34 : decode cX12_lays 34 = .ok (.iload_n 1, 1) := by decide +kernel
theorem dX12_lays_35 : decode cX12_lays 35 = .ok (.imul, 1) := by decide +kernel
theorem dX12_lays_36 : decode cX12_lays 36 = .ok (.iadd, 1) := by decide +kernel
theorem dX12_lays_37 : decode cX12_lays 37 = .ok (.iload_n 2, 1) := by decide +kernel
theorem dX12_lays_38 : decode cX12_lays 38 = .ok (.iadd, 1) := by decide +kernel
theorem dX12_lays_39 : decode cX12_lays 39 = .ok (.aload_n 0, 1) := by decide +kernel
theorem dX12_lays_40 : decode cX12_lays 40 = .ok (.getfield 50, 3) := by decide +kernel
theorem dX12_lays_43 : decode cX12_lays 43 = .ok (.iload_n 2, 1) := by decide +kernel
theorem dX12_lays_44 : decode cX12_lays 44 = .ok (.iaload, 1) := by decide +kernel
theorem dX12_lays_45 : decode cX12_lays 45 = .ok (.iastore, 1) := by decide +kernel
theorem dX12_lays_46 : decode cX12_lays 46 = .ok (.aload_n 0, 1) := by decide +kernel
theorem dX12_lays_47 : decode cX12_lays 47 = .ok (.getfield 24, 3) := by decide +kernel
theorem dX12_lays_50 : decode cX12_lays 50 = .ok (.sipush 3129, 3) := by decide +kernel
theorem dX12_lays_53 : decode cX12_lays 53 = .ok (.sipush 400, 3) := by decide +kernel
theorem dX12_lays_56 : decode cX12_lays 56 = .ok (.iload_n 1, 1) := by decide +kernel
theorem dX12_lays_57 : decode cX12_lays 57 = .ok (.imul, 1) := by decide +kernel
theorem dX12_lays_58 : decode cX12_lays 58 = .ok (.iadd, 1) := by decide +kernel
theorem dX12_lays_59 : decode cX12_lays 59 = .ok (.iload_n 2, 1) := by decide +kernel
theorem dX12_lays_60 : decode cX12_lays 60 = .ok (.iadd, 1) := by decide +kernel
theorem dX12_lays_61 : decode cX12_lays 61 = .ok (.aload_n 0, 1) := by decide +kernel
theorem dX12_lays_62 : decode cX12_lays 62 = .ok (.getfield 53, 3) := by decide +kernel
theorem dX12_lays_65 : decode cX12_lays 65 = .ok (.iload_n 2, 1) := by decide +kernel
theorem dX12_lays_66 : decode cX12_lays 66 = .ok (.iaload, 1) := by decide +kernel
theorem dX12_lays_67 : decode cX12_lays 67 = .ok (.iastore, 1) := by decide +kernel
theorem dX12_lays_68 : decode cX12_lays 68 = .ok (.iinc 2 1, 3) := by decide +kernel
theorem dX12_lays_71 : decode cX12_lays 71 = .ok (.goto (-55), 3) := by decide +kernel
theorem dX12_lays_74 : decode cX12_lays 74 = .ok (.return_, 1) := by decide +kernel
theorem dX12_law_0 : decode cX12_law 0 = .ok (.aload_n 0, 1) := by decide +kernel
theorem dX12_law_1 : decode cX12_law 1 = .ok (.getfield 24, 3) := by decide +kernel
theorem dX12_law_4 : decode cX12_law 4 = .ok (.sipush 320, 3) := by decide +kernel
theorem dX12_law_7 : decode cX12_law 7 = .ok (.iaload, 1) := by decide +kernel
theorem dX12_law_8 : decode cX12_law 8 = .ok (.bipush 6, 2) := by decide +kernel
theorem dX12_law_10 : decode cX12_law 10 = .ok (.if_icmp .ne 15, 3) := by decide +kernel
theorem dX12_law_13 : decode cX12_law 13 = .ok (.aload_n 0, 1) := by decide +kernel
theorem dX12_law_14 : decode cX12_law 14 = .ok (.iconst 0, 1) := by decide +kernel
theorem dX12_law_15 : decode cX12_law 15 = .ok (.putfield 117, 3) := by decide +kernel
theorem dX12_law_18 : decode cX12_law 18 = .ok (.aload_n 0, 1) := by decide +kernel
theorem dX12_law_19 : decode cX12_law 19 = .ok (.bipush (-5), 2) := by decide +kernel
theorem dX12_law_21 : decode cX12_law 21 = .ok (.invokevirtual 105, 3) := by decide +kernel
theorem dX12_law_24 : decode cX12_law 24 = .ok (.ireturn, 1) := by decide +kernel
theorem dX12_law_25 : decode cX12_law 25 = .ok (.aload_n 0, 1) := by decide +kernel
theorem dX12_law_26 : decode cX12_law 26 = .ok (.iconst 0, 1) := by decide +kernel
theorem dX12_law_27 : decode cX12_law 27 = .ok (.putfield 173, 3) := by decide +kernel
theorem dX12_law_30 : decode cX12_law 30 = .ok (.aload_n 0, 1) := by decide +kernel
theorem dX12_law_31 : decode cX12_law 31 = .ok (.invokevirtual 225, 3) := by decide +kernel
theorem dX12_law_34 : decode cX12_law 34 = .ok (.ifCond .ne 10, 3) := by decide +kernel
theorem dX12_law_37 : decode cX12_law 37 = .ok (.aload_n 0, 1) := by decide +kernel
theorem dX12_law_38 : decode cX12_law 38 = .ok (.bipush (-6), 2) := by decide +kernel
theorem dX12_law_40 : decode cX12_law 40 = .ok (.invokevirtual 105, 3) := by decide +kernel
theorem dX12_law_43 : decode cX12_law 43 = .ok (.ireturn, 1) := by decide +kernel
theorem dX12_law_44 : decode cX12_law 44 = .ok (.aload_n 0, 1) := by decide +kernel
theorem dX12_law_45 : decode cX12_law 45 = .ok (.aload_n 0, 1) := by decide +kernel
theorem dX12_law_46 : decode cX12_law 46 = .ok (.getfield 24, 3) := by decide +kernel
theorem dX12_law_49 : decode cX12_law 49 = .ok (.sipush 320, 3) := by decide +kernel
theorem dX12_law_52 : decode cX12_law 52 = .ok (.iaload, 1) := by decide +kernel
theorem dX12_law_53 : decode cX12_law 53 = .ok (.invokevirtual 228, 3) := by decide +kernel
theorem dX12_law_56 : decode cX12_law 56 = .ok (.aload_n 0, 1) := by decide +kernel
theorem dX12_law_57 : decode cX12_law 57 = .ok (.getfield 24, 3) := by decide +kernel
theorem dX12_law_60 : decode cX12_law 60 = .ok (.sipush 320, 3) := by decide +kernel
theorem dX12_law_63 : decode cX12_law 63 = .ok (.dup2, 1) := by decide +kernel
theorem dX12_law_64 : decode cX12_law 64 = .ok (.iaload, 1) := by decide +kernel
theorem dX12_law_65 : decode cX12_law 65 = .ok (.iconst 1, 1) := by decide +kernel
theorem dX12_law_66 : decode cX12_law 66 = .ok (.iadd, 1) := by decide +kernel
theorem dX12_law_67 : decode cX12_law 67 = .ok (.iastore, 1) := by decide +kernel
theorem dX12_law_68 : decode cX12_law 68 = .ok (.aload_n 0, 1) := by decide +kernel
theorem dX12_law_69 : decode cX12_law 69 = .ok (.aload_n 0, 1) := by decide +kernel
theorem dX12_law_70 : decode cX12_law 70 = .ok (.getfield 24, 3) := by decide +kernel
theorem dX12_law_73 : decode cX12_law 73 = .ok (.sipush 320, 3) := by decide +kernel
theorem dX12_law_76 : decode cX12_law 76 = .ok (.iaload, 1) := by decide +kernel
theorem dX12_law_77 : decode cX12_law 77 = .ok (.iconst 1, 1) := by decide +kernel
theorem dX12_law_78 : decode cX12_law 78 = .ok (.isub, 1) := by decide +kernel
theorem dX12_law_79 : decode cX12_law 79 = .ok (.invokevirtual 14, 3) := by decide +kernel
theorem dX12_law_82 : decode cX12_law 82 = .ok (.ireturn, 1) := by decide +kernel
theorem dX12_fault_0 : decode cX12_fault 0 = .ok (.aload_n 0, 1) := by decide +kernel
theorem dX12_fault_1 : decode cX12_fault 1 = .ok (.getfield 47, 3) := by decide +kernel
theorem dX12_fault_4 : decode cX12_fault 4 = .ok (.ireturn, 1) := by decide +kernel
theorem dX12_force_0 : decode cX12_force 0 = .ok (.iload_n 1, 1) := by decide +kernel
theorem dX12_force_1 : decode cX12_force 1 = .ok (.iconst (-1), 1) := by decide +kernel
theorem dX12_force_2 : decode cX12_force 2 = .ok (.aload_n 0, 1) := by decide +kernel
theorem dX12_force_3 : decode cX12_force 3 = .ok (.getfield 24, 3) := by decide +kernel
theorem dX12_force_6 : decode cX12_force 6 = .ok (.sipush 320, 3) := by decide +kernel
theorem dX12_force_9 : decode cX12_force 9 = .ok (.iaload, 1) := by decide +kernel
theorem dX12_force_10 : decode cX12_force 10 = .ok (.iconst 1, 1) := by decide +kernel
theorem dX12_force_11 : decode cX12_force 11 = .ok (.isub, 1) := by decide +kernel
theorem dX12_force_12 : decode cX12_force 12 = .ok (.invokestatic 101, 3) := by decide +kernel
theorem dX12_force_15 : decode cX12_force 15 = .ok (.ifCond .ne 10, 3) := by decide +kernel
theorem dX12_force_18 : decode cX12_force 18 = .ok (.aload_n 0, 1) := by decide +kernel
theorem dX12_force_19 : decode cX12_force 19 = .ok (.bipush (-2), 2) := by decide +kernel
theorem dX12_force_21 : decode cX12_force 21 = .ok (.invokevirtual 105, 3) := by decide +kernel
theorem dX12_force_24 : decode cX12_force 24 = .ok (.ireturn, 1) := by decide +kernel
theorem dX12_force_25 : decode cX12_force 25 = .ok (.aload_n 0, 1) := by decide +kernel
theorem dX12_force_26 : decode cX12_force 26 = .ok (.getfield 24, 3) := by decide +kernel
theorem dX12_force_29 : decode cX12_force 29 = .ok (.sipush 321, 3) := by decide +kernel
theorem dX12_force_32 : decode cX12_force 32 = .ok (.iaload, 1) := by decide +kernel
theorem dX12_force_33 : decode cX12_force 33 = .ok (.istore_n 2, 1) := by decide +kernel
theorem dX12_force_34 : decode cX12_force 34 = .ok (.aload_n 0, 1) := by decide +kernel
theorem dX12_force_35 : decode cX12_force 35 = .ok (.getfield 24, 3) := by decide +kernel
theorem dX12_force_38 : decode cX12_force 38 = .ok (.sipush 321, 3) := by decide +kernel
theorem dX12_force_41 : decode cX12_force 41 = .ok (.iload_n 1, 1) := by decide +kernel
theorem dX12_force_42 : decode cX12_force 42 = .ok (.iastore, 1) := by decide +kernel
theorem dX12_force_43 : decode cX12_force 43 = .ok (.aload_n 0, 1) := by decide +kernel
theorem dX12_force_44 : decode cX12_force 44 = .ok (.iload_n 2, 1) := by decide +kernel
theorem dX12_force_45 : decode cX12_force 45 = .ok (.invokevirtual 14, 3) := by decide +kernel
theorem dX12_force_48 : decode cX12_force 48 = .ok (.ireturn, 1) := by decide +kernel
theorem dX12_codeAt_0 : decode cX12_codeAt 0 = .ok (.iload_n 1, 1) := by decide +kernel
theorem dX12_codeAt_1 : decode cX12_codeAt 1 = .ok (.aload_n 0, 1) := by decide +kernel
theorem dX12_codeAt_2 : decode cX12_codeAt 2 = .ok (.getfield 231, 3) := by decide +kernel
theorem dX12_codeAt_5 : decode cX12_codeAt 5 = .ok (.if_icmp .ge 16, 3) := by decide +kernel
theorem dX12_codeAt_8 : decode cX12_codeAt 8 = .ok (.aload_n 0, 1) := by decide +kernel
theorem dX12_codeAt_9 : decode cX12_codeAt 9 = .ok (.getfield 24, 3) := by decide +kernel
theorem dX12_codeAt_12 : decode cX12_codeAt 12 = .ok (.sipush 329, 3) := by decide +kernel
theorem dX12_codeAt_15 : decode cX12_codeAt 15 = .ok (.iload_n 1, 1) := by decide +kernel
theorem dX12_codeAt_16 : decode cX12_codeAt 16 = .ok (.iadd, 1) := by decide +kernel
theorem dX12_codeAt_17 : decode cX12_codeAt 17 = .ok (.iaload, 1) := by decide +kernel
theorem dX12_codeAt_18 : decode cX12_codeAt 18 = .ok (.goto 4, 3) := by decide +kernel
theorem dX12_codeAt_21 : decode cX12_codeAt 21 = .ok (.iconst 0, 1) := by decide +kernel
theorem dX12_codeAt_22 : decode cX12_codeAt 22 = .ok (.ireturn, 1) := by decide +kernel
theorem dX12_passes0_0 : decode cX12_passes0 0 = .ok (.aload_n 0, 1) := by decide +kernel
theorem dX12_passes0_1 : decode cX12_passes0 1 = .ok (.aload_n 0, 1) := by decide +kernel
theorem dX12_passes0_2 : decode cX12_passes0 2 = .ok (.getfield 234, 3) := by decide +kernel
theorem dX12_passes0_5 : decode cX12_passes0 5 = .ok (.invokevirtual 237, 3) := by decide +kernel
theorem dX12_passes0_8 : decode cX12_passes0 8 = .ok (.iload_n 1, 1) := by decide +kernel
theorem dX12_passes0_9 : decode cX12_passes0 9 = .ok (.if_icmp .ne 7, 3) := by decide +kernel
theorem dX12_passes0_12 : decode cX12_passes0 12 = .ok (.iconst 1, 1) := by decide +kernel
theorem dX12_passes0_13 : decode cX12_passes0 13 = .ok (.goto 4, 3) := by decide +kernel
theorem dX12_passes0_16 : decode cX12_passes0 16 = .ok (.iconst 0, 1) := by decide +kernel
theorem dX12_passes0_17 : decode cX12_passes0 17 = .ok (.istore_n 2, 1) := by decide +kernel
theorem dX12_passes0_18 : decode cX12_passes0 18 = .ok (.iload_n 2, 1) := by decide +kernel
theorem dX12_passes0_19 : decode cX12_passes0 19 = .ok (.ifCond .eq 13, 3) := by decide +kernel
theorem dX12_passes0_22 : decode cX12_passes0 22 = .ok (.aload_n 0, 1) := by decide +kernel
theorem dX12_passes0_23 : decode cX12_passes0 23 = .ok (.dup, 1) := by decide +kernel
theorem dX12_passes0_24 : decode cX12_passes0 24 = .ok (.getfield 234, 3) := by decide +kernel
theorem dX12_passes0_27 : decode cX12_passes0 27 = .ok (.iconst 1, 1) := by decide +kernel
theorem dX12_passes0_28 : decode cX12_passes0 28 = .ok (.iadd, 1) := by decide +kernel
theorem dX12_passes0_29 : decode cX12_passes0 29 = .ok (.putfield 234, 3) := by decide +kernel
theorem dX12_passes0_32 : decode cX12_passes0 32 = .ok (.iload_n 2, 1) := by decide +kernel
theorem dX12_passes0_33 : decode cX12_passes0 33 = .ok (.ireturn, 1) := by decide +kernel
theorem dX12_bounded_0 : decode cX12_bounded 0 = .ok (.iload_n 3, 1) := by decide +kernel
theorem dX12_bounded_1 : decode cX12_bounded 1 = .ok (.ifCond .eq 24, 3) := by decide +kernel
theorem dX12_bounded_4 : decode cX12_bounded 4 = .ok (.lload_n 1, 1) := by decide +kernel
theorem dX12_bounded_5 : decode cX12_bounded 5 = .ok (.ldc2_w 240, 3) := by decide +kernel
theorem dX12_bounded_8 : decode cX12_bounded 8 = .ok (.lcmp, 1) := by decide +kernel
theorem dX12_bounded_9 : decode cX12_bounded 9 = .ok (.ifCond .gt 11, 3) := by decide +kernel
theorem dX12_bounded_12 : decode cX12_bounded 12 = .ok (.lload_n 1, 1) := by decide +kernel
theorem dX12_bounded_13 : decode cX12_bounded 13 = .ok (.ldc2_w 242, 3) := by decide +kernel
theorem dX12_bounded_16 : decode cX12_bounded 16 = .ok (.lcmp, 1) := by decide +kernel
theorem dX12_bounded_17 : decode cX12_bounded 17 = .ok (.ifCond .ge 8, 3) := by decide +kernel
theorem dX12_bounded_20 : decode cX12_bounded 20 = .ok (.aload_n 0, 1) := by decide +kernel
theorem dX12_bounded_21 : decode cX12_bounded 21 = .ok (.iconst 1, 1) := by decide +kernel
theorem dX12_bounded_22 : decode cX12_bounded 22 = .ok (.putfield 244, 3) := by decide +kernel
theorem dX12_bounded_25 : decode cX12_bounded 25 = .ok (.aload_n 0, 1) := by decide +kernel
theorem dX12_bounded_26 : decode cX12_bounded 26 = .ok (.getfield 244, 3) := by decide +kernel
theorem dX12_bounded_29 : decode cX12_bounded 29 = .ok (.ifCond .eq 7, 3) := by decide +kernel
theorem dX12_bounded_32 : decode cX12_bounded 32 = .ok (.lconst 0, 1) := by decide +kernel
theorem dX12_bounded_33 : decode cX12_bounded 33 = .ok (.goto 4, 3) := by decide +kernel
theorem dX12_bounded_36 : decode cX12_bounded 36 = .ok (.lload_n 1, 1) := by decide +kernel
theorem dX12_bounded_37 : decode cX12_bounded 37 = .ok (.lreturn, 1) := by decide +kernel
theorem dX12_sumOf_0 : decode cX12_sumOf 0 = .ok (.aload_n 0, 1) := by decide +kernel
theorem dX12_sumOf_1 : decode cX12_sumOf 1 = .ok (.iload_n 1, 1) := by decide +kernel
theorem dX12_sumOf_2 : decode cX12_sumOf 2 = .ok (.invokevirtual 247, 3) := by decide +kernel
theorem dX12_sumOf_5 : decode cX12_sumOf 5 = .ok (.lstore_n 2, 1) := by decide +kernel
theorem dX12_sumOf_6 : decode cX12_sumOf 6 = .ok (.aload_n 0, 1) := by decide +kernel
theorem dX12_sumOf_7 : decode cX12_sumOf 7 = .ok (.aload_n 0, 1) := by decide +kernel
theorem dX12_sumOf_8 : decode cX12_sumOf 8 = .ok (.getfield 234, 3) := by decide +kernel
theorem dX12_sumOf_11 : decode cX12_sumOf 11 = .ok (.invokevirtual 237, 3) := by decide +kernel
theorem dX12_sumOf_14 : decode cX12_sumOf 14 = .ok (.bipush 43, 2) := by decide +kernel
theorem dX12_sumOf_16 : decode cX12_sumOf 16 = .ok (.invokestatic 203, 3) := by decide +kernel
theorem dX12_sumOf_19 : decode cX12_sumOf 19 = .ok (.if_icmp .eq 19, 3) := by decide +kernel
theorem dX12_sumOf_22 : decode cX12_sumOf 22 = .ok (.aload_n 0, 1) := by decide +kernel
theorem dX12_sumOf_23 : decode cX12_sumOf 23 = .ok (.aload_n 0, 1) := by decide +kernel
theorem dX12_sumOf_24 : decode cX12_sumOf 24 = .ok (.getfield 234, 3) := by decide +kernel
theorem dX12_sumOf_27 : decode cX12_sumOf 27 = .ok (.invokevirtual 237, 3) := by decide +kernel
theorem dX12_sumOf_30 : decode cX12_sumOf 30 = .ok (.bipush 45, 2) := by decide +kernel
theorem dX12_sumOf_32 : decode cX12_sumOf 32 = .ok (.invokestatic 203, 3) := by decide +kernel
theorem dX12_sumOf_35 : decode cX12_sumOf 35 = .ok (.if_icmp .ne 68, 3) := by decide +kernel
theorem dX12_sumOf_38 : decode cX12_sumOf 38 = .ok (.aload_n 0, 1) := by decide +kernel
theorem dX12_sumOf_39 : decode cX12_sumOf 39 = .ok (.aload_n 0, 1) := by decide +kernel
theorem dX12_sumOf_40 : decode cX12_sumOf 40 = .ok (.getfield 234, 3) := by decide +kernel
theorem dX12_sumOf_43 : decode cX12_sumOf 43 = .ok (.invokevirtual 237, 3) := by decide +kernel
theorem dX12_sumOf_46 : decode cX12_sumOf 46 = .ok (.bipush 43, 2) := by decide +kernel
theorem dX12_sumOf_48 : decode cX12_sumOf 48 = .ok (.invokestatic 203, 3) := by decide +kernel
theorem dX12_sumOf_51 : decode cX12_sumOf 51 = .ok (.if_icmp .ne 7, 3) := by decide +kernel
theorem dX12_sumOf_54 : decode cX12_sumOf 54 = .ok (.iconst 1, 1) := by decide +kernel
theorem dX12_sumOf_55 : decode cX12_sumOf 55 = .ok (.goto 4, 3) := by decide +kernel
theorem dX12_sumOf_58 : decode cX12_sumOf 58 = .ok (.iconst 0, 1) := by decide +kernel
theorem dX12_sumOf_59 : decode cX12_sumOf 59 = .ok (.istore 4, 2) := by decide +kernel
theorem dX12_sumOf_61 : decode cX12_sumOf 61 = .ok (.aload_n 0, 1) := by decide +kernel
theorem dX12_sumOf_62 : decode cX12_sumOf 62 = .ok (.dup, 1) := by decide +kernel
theorem dX12_sumOf_63 : decode cX12_sumOf 63 = .ok (.getfield 234, 3) := by decide +kernel
theorem dX12_sumOf_66 : decode cX12_sumOf 66 = .ok (.iconst 1, 1) := by decide +kernel
theorem dX12_sumOf_67 : decode cX12_sumOf 67 = .ok (.iadd, 1) := by decide +kernel
theorem dX12_sumOf_68 : decode cX12_sumOf 68 = .ok (.putfield 234, 3) := by decide +kernel
theorem dX12_sumOf_71 : decode cX12_sumOf 71 = .ok (.aload_n 0, 1) := by decide +kernel
theorem dX12_sumOf_72 : decode cX12_sumOf 72 = .ok (.iload_n 1, 1) := by decide +kernel
theorem dX12_sumOf_73 : decode cX12_sumOf 73 = .ok (.invokevirtual 247, 3) := by decide +kernel
theorem dX12_sumOf_76 : decode cX12_sumOf 76 = .ok (.lstore 5, 2) := by decide +kernel
theorem dX12_sumOf_78 : decode cX12_sumOf 78 = .ok (.aload_n 0, 1) := by decide +kernel
theorem dX12_sumOf_79 : decode cX12_sumOf 79 = .ok (.iload 4, 2) := by decide +kernel
theorem dX12_sumOf_81 : decode cX12_sumOf 81 = .ok (.ifCond .eq 10, 3) := by decide +kernel
theorem dX12_sumOf_84 : decode cX12_sumOf 84 = .ok (.lload_n 2, 1) := by decide +kernel
theorem dX12_sumOf_85 : decode cX12_sumOf 85 = .ok (.lload 5, 2) := by decide +kernel
theorem dX12_sumOf_87 : decode cX12_sumOf 87 = .ok (.ladd, 1) := by decide +kernel
theorem dX12_sumOf_88 : decode cX12_sumOf 88 = .ok (.goto 7, 3) := by decide +kernel
theorem dX12_sumOf_91 : decode cX12_sumOf 91 = .ok (.lload_n 2, 1) := by decide +kernel
theorem dX12_sumOf_92 : decode cX12_sumOf 92 = .ok (.lload 5, 2) := by decide +kernel
theorem dX12_sumOf_94 : decode cX12_sumOf 94 = .ok (.lsub, 1) := by decide +kernel
theorem dX12_sumOf_95 : decode cX12_sumOf 95 = .ok (.iload_n 1, 1) := by decide +kernel
theorem dX12_sumOf_96 : decode cX12_sumOf 96 = .ok (.invokevirtual 251, 3) := by decide +kernel
theorem dX12_sumOf_99 : decode cX12_sumOf 99 = .ok (.lstore_n 2, 1) := by decide +kernel
theorem dX12_sumOf_100 : decode cX12_sumOf 100 = .ok (.goto (-94), 3) := by decide +kernel
theorem dX12_sumOf_103 : decode cX12_sumOf 103 = .ok (.lload_n 2, 1) := by decide +kernel
theorem dX12_sumOf_104 : decode cX12_sumOf 104 = .ok (.lreturn, 1) := by decide +kernel
theorem dX12_termOf_0 : decode cX12_termOf 0 = .ok (.aload_n 0, 1) := by decide +kernel
theorem dX12_termOf_1 : decode cX12_termOf 1 = .ok (.iload_n 1, 1) := by decide +kernel
theorem dX12_termOf_2 : decode cX12_termOf 2 = .ok (.invokevirtual 255, 3) := by decide +kernel
theorem dX12_termOf_5 : decode cX12_termOf 5 = .ok (.lstore_n 2, 1) := by decide +kernel
theorem dX12_termOf_6 : decode cX12_termOf 6 = .ok (.aload_n 0, 1) := by decide +kernel
theorem dX12_termOf_7 : decode cX12_termOf 7 = .ok (.aload_n 0, 1) := by decide +kernel
theorem dX12_termOf_8 : decode cX12_termOf 8 = .ok (.getfield 234, 3) := by decide +kernel
theorem dX12_termOf_11 : decode cX12_termOf 11 = .ok (.invokevirtual 237, 3) := by decide +kernel
theorem dX12_termOf_14 : decode cX12_termOf 14 = .ok (.bipush 42, 2) := by decide +kernel
theorem dX12_termOf_16 : decode cX12_termOf 16 = .ok (.invokestatic 203, 3) := by decide +kernel
theorem dX12_termOf_19 : decode cX12_termOf 19 = .ok (.if_icmp .eq 35, 3) := by decide +kernel
theorem dX12_termOf_22 : decode cX12_termOf 22 = .ok (.aload_n 0, 1) := by decide +kernel
theorem dX12_termOf_23 : decode cX12_termOf 23 = .ok (.aload_n 0, 1) := by decide +kernel
theorem dX12_termOf_24 : decode cX12_termOf 24 = .ok (.getfield 234, 3) := by decide +kernel
theorem dX12_termOf_27 : decode cX12_termOf 27 = .ok (.invokevirtual 237, 3) := by decide +kernel
theorem dX12_termOf_30 : decode cX12_termOf 30 = .ok (.bipush 47, 2) := by decide +kernel
theorem dX12_termOf_32 : decode cX12_termOf 32 = .ok (.invokestatic 203, 3) := by decide +kernel
theorem dX12_termOf_35 : decode cX12_termOf 35 = .ok (.if_icmp .eq 19, 3) := by decide +kernel
theorem dX12_termOf_38 : decode cX12_termOf 38 = .ok (.aload_n 0, 1) := by decide +kernel
theorem dX12_termOf_39 : decode cX12_termOf 39 = .ok (.aload_n 0, 1) := by decide +kernel
theorem dX12_termOf_40 : decode cX12_termOf 40 = .ok (.getfield 234, 3) := by decide +kernel
theorem dX12_termOf_43 : decode cX12_termOf 43 = .ok (.invokevirtual 237, 3) := by decide +kernel
theorem dX12_termOf_46 : decode cX12_termOf 46 = .ok (.bipush 37, 2) := by decide +kernel
theorem dX12_termOf_48 : decode cX12_termOf 48 = .ok (.invokestatic 203, 3) := by decide +kernel
theorem dX12_termOf_51 : decode cX12_termOf 51 = .ok (.if_icmp .ne 117, 3) := by decide +kernel
theorem dX12_termOf_54 : decode cX12_termOf 54 = .ok (.aload_n 0, 1) := by decide +kernel
theorem dX12_termOf_55 : decode cX12_termOf 55 = .ok (.aload_n 0, 1) := by decide +kernel
theorem dX12_termOf_56 : decode cX12_termOf 56 = .ok (.getfield 234, 3) := by decide +kernel
theorem dX12_termOf_59 : decode cX12_termOf 59 = .ok (.invokevirtual 237, 3) := by decide +kernel
theorem dX12_termOf_62 : decode cX12_termOf 62 = .ok (.istore 4, 2) := by decide +kernel
theorem dX12_termOf_64 : decode cX12_termOf 64 = .ok (.aload_n 0, 1) := by decide +kernel
theorem dX12_termOf_65 : decode cX12_termOf 65 = .ok (.dup, 1) := by decide +kernel
theorem dX12_termOf_66 : decode cX12_termOf 66 = .ok (.getfield 234, 3) := by decide +kernel
theorem dX12_termOf_69 : decode cX12_termOf 69 = .ok (.iconst 1, 1) := by decide +kernel
theorem dX12_termOf_70 : decode cX12_termOf 70 = .ok (.iadd, 1) := by decide +kernel
theorem dX12_termOf_71 : decode cX12_termOf 71 = .ok (.putfield 234, 3) := by decide +kernel
theorem dX12_termOf_74 : decode cX12_termOf 74 = .ok (.aload_n 0, 1) := by decide +kernel
theorem dX12_termOf_75 : decode cX12_termOf 75 = .ok (.iload_n 1, 1) := by decide +kernel
theorem dX12_termOf_76 : decode cX12_termOf 76 = .ok (.invokevirtual 255, 3) := by decide +kernel
theorem dX12_termOf_79 : decode cX12_termOf 79 = .ok (.lstore 5, 2) := by decide +kernel
theorem dX12_termOf_81 : decode cX12_termOf 81 = .ok (.iload 4, 2) := by decide +kernel
theorem dX12_termOf_83 : decode cX12_termOf 83 = .ok (.bipush 42, 2) := by decide +kernel
theorem dX12_termOf_85 : decode cX12_termOf 85 = .ok (.invokestatic 203, 3) := by decide +kernel
theorem dX12_termOf_88 : decode cX12_termOf 88 = .ok (.if_icmp .eq 33, 3) := by decide +kernel
theorem dX12_termOf_91 : decode cX12_termOf 91 = .ok (.lload 5, 2) := by decide +kernel
theorem dX12_termOf_93 : decode cX12_termOf 93 = .ok (.lconst 0, 1) := by decide +kernel
theorem dX12_termOf_94 : decode cX12_termOf 94 = .ok (.lcmp, 1) := by decide +kernel
theorem dX12_termOf_95 : decode cX12_termOf 95 = .ok (.ifCond .ne 26, 3) := by decide +kernel
theorem dX12_termOf_98 : decode cX12_termOf 98 = .ok (.aload_n 0, 1) := by decide +kernel
theorem dX12_termOf_99 : decode cX12_termOf 99 = .ok (.aload_n 0, 1) := by decide +kernel
theorem dX12_termOf_100 : decode cX12_termOf 100 = .ok (.getfield 244, 3) := by decide +kernel
theorem dX12_termOf_103 : decode cX12_termOf 103 = .ok (.ifCond .ne 7, 3) := by decide +kernel
theorem dX12_termOf_106 : decode cX12_termOf 106 = .ok (.iload_n 1, 1) := by decide +kernel
theorem dX12_termOf_107 : decode cX12_termOf 107 = .ok (.ifCond .eq 7, 3) := by decide +kernel
theorem dX12_termOf_110 : decode cX12_termOf 110 = .ok (.iconst 1, 1) := by decide +kernel
theorem dX12_termOf_111 : decode cX12_termOf 111 = .ok (.goto 4, 3) := by decide +kernel
theorem dX12_termOf_114 : decode cX12_termOf 114 = .ok (.iconst 0, 1) := by decide +kernel
theorem dX12_termOf_115 : decode cX12_termOf 115 = .ok (.putfield 244, 3) := by decide +kernel
theorem dX12_termOf_118 : decode cX12_termOf 118 = .ok (.lconst 1, 1) := by decide +kernel
theorem dX12_termOf_119 : decode cX12_termOf 119 = .ok (.lstore 5, 2) := by decide +kernel
theorem dX12_termOf_121 : decode cX12_termOf 121 = .ok (.aload_n 0, 1) := by decide +kernel
theorem dX12_termOf_122 : decode cX12_termOf 122 = .ok (.iload 4, 2) := by decide +kernel
theorem dX12_termOf_124 : decode cX12_termOf 124 = .ok (.bipush 42, 2) := by decide +kernel
theorem dX12_termOf_126 : decode cX12_termOf 126 = .ok (.invokestatic 203, 3) := by decide +kernel
theorem dX12_termOf_129 : decode cX12_termOf 129 = .ok (.if_icmp .ne 10, 3) := by decide +kernel
theorem dX12_termOf_132 : decode cX12_termOf 132 = .ok (.lload_n 2, 1) := by decide +kernel
theorem dX12_termOf_133 : decode cX12_termOf 133 = .ok (.lload 5, 2) := by decide +kernel
theorem dX12_termOf_135 : decode cX12_termOf 135 = .ok (.lmul, 1) := by decide +kernel
theorem dX12_termOf_136 : decode cX12_termOf 136 = .ok (.goto 24, 3) := by decide +kernel
theorem dX12_termOf_139 : decode cX12_termOf 139 = .ok (.iload 4, 2) := by decide +kernel
theorem dX12_termOf_141 : decode cX12_termOf 141 = .ok (.bipush 47, 2) := by decide +kernel
theorem dX12_termOf_143 : decode cX12_termOf 143 = .ok (.invokestatic 203, 3) := by decide +kernel
theorem dX12_termOf_146 : decode cX12_termOf 146 = .ok (.if_icmp .ne 10, 3) := by decide +kernel
theorem dX12_termOf_149 : decode cX12_termOf 149 = .ok (.lload_n 2, 1) := by decide +kernel
theorem dX12_termOf_150 : decode cX12_termOf 150 = .ok (.lload 5, 2) := by decide +kernel
theorem dX12_termOf_152 : decode cX12_termOf 152 = .ok (.ldiv, 1) := by decide +kernel
theorem dX12_termOf_153 : decode cX12_termOf 153 = .ok (.goto 7, 3) := by decide +kernel
theorem dX12_termOf_156 : decode cX12_termOf 156 = .ok (.lload_n 2, 1) := by decide +kernel
theorem dX12_termOf_157 : decode cX12_termOf 157 = .ok (.lload 5, 2) := by decide +kernel
theorem dX12_termOf_159 : decode cX12_termOf 159 = .ok (.lrem, 1) := by decide +kernel
theorem dX12_termOf_160 : decode cX12_termOf 160 = .ok (.iload_n 1, 1) := by decide +kernel
theorem dX12_termOf_161 : decode cX12_termOf 161 = .ok (.invokevirtual 251, 3) := by decide +kernel
theorem dX12_termOf_164 : decode cX12_termOf 164 = .ok (.lstore_n 2, 1) := by decide +kernel
theorem dX12_termOf_165 : decode cX12_termOf 165 = .ok (.goto (-159), 3) := by decide +kernel
theorem dX12_termOf_168 : decode cX12_termOf 168 = .ok (.lload_n 2, 1) := by decide +kernel
theorem dX12_termOf_169 : decode cX12_termOf 169 = .ok (.lreturn, 1) := by decide +kernel
theorem dX12_partOf_0 : decode cX12_partOf 0 = .ok (.aload_n 0, 1) := by decide +kernel
theorem dX12_partOf_1 : decode cX12_partOf 1 = .ok (.bipush 91, 2) := by decide +kernel
theorem dX12_partOf_3 : decode cX12_partOf 3 = .ok (.invokestatic 203, 3) := by decide +kernel
theorem dX12_partOf_6 : decode cX12_partOf 6 = .ok (.invokevirtual 258, 3) := by decide +kernel
theorem dX12_partOf_9 : decode cX12_partOf 9 = .ok (.ifCond .eq 21, 3) := by decide +kernel
theorem dX12_partOf_12 : decode cX12_partOf 12 = .ok (.aload_n 0, 1) := by decide +kernel
theorem dX12_partOf_13 : decode cX12_partOf 13 = .ok (.iload_n 1, 1) := by decide +kernel
theorem dX12_partOf_14 : decode cX12_partOf 14 = .ok (.invokevirtual 261, 3) := by decide +kernel
theorem dX12_partOf_17 : decode cX12_partOf 17 = .ok (.lstore_n 2, 1) := by decide +kernel
theorem dX12_partOf_18 : decode cX12_partOf 18 = .ok (.aload_n 0, 1) := by decide +kernel
theorem dX12_partOf_19 : decode cX12_partOf 19 = .ok (.dup, 1) := by decide +kernel
theorem dX12_partOf_20 : decode cX12_partOf 20 = .ok (.getfield 234, 3) := by decide +kernel
theorem dX12_partOf_23 : decode cX12_partOf 23 = .ok (.iconst 1, 1) := by decide +kernel
theorem dX12_partOf_24 : decode cX12_partOf 24 = .ok (.iadd, 1) := by decide +kernel
theorem dX12_partOf_25 : decode cX12_partOf 25 = .ok (.putfield 234, 3) := by decide +kernel
theorem dX12_partOf_28 : decode cX12_partOf 28 = .ok (.lload_n 2, 1) := by decide +kernel
theorem dX12_partOf_29 : decode cX12_partOf 29 = .ok (.lreturn, 1) := by decide +kernel
theorem dX12_partOf_30 : decode cX12_partOf 30 = .ok (.aload_n 0, 1) := by decide +kernel
theorem dX12_partOf_31 : decode cX12_partOf 31 = .ok (.aload_n 0, 1) := by decide +kernel
theorem dX12_partOf_32 : decode cX12_partOf 32 = .ok (.getfield 234, 3) := by decide +kernel
theorem dX12_partOf_35 : decode cX12_partOf 35 = .ok (.invokevirtual 237, 3) := by decide +kernel
theorem dX12_partOf_38 : decode cX12_partOf 38 = .ok (.istore_n 2, 1) := by decide +kernel
theorem dX12_partOf_39 : decode cX12_partOf 39 = .ok (.iconst 0, 1) := by decide +kernel
theorem dX12_partOf_40 : decode cX12_partOf 40 = .ok (.istore_n 3, 1) := by decide +kernel
theorem dX12_partOf_41 : decode cX12_partOf 41 = .ok (.aload_n 0, 1) := by decide +kernel
theorem dX12_partOf_42 : decode cX12_partOf 42 = .ok (.dup, 1) := by decide +kernel
theorem dX12_partOf_43 : decode cX12_partOf 43 = .ok (.getfield 234, 3) := by decide +kernel
theorem dX12_partOf_46 : decode cX12_partOf 46 = .ok (.iconst 1, 1) := by decide +kernel
theorem dX12_partOf_47 : decode cX12_partOf 47 = .ok (.iadd, 1) := by decide +kernel
theorem dX12_partOf_48 : decode cX12_partOf 48 = .ok (.putfield 234, 3) := by decide +kernel
theorem dX12_partOf_51 : decode cX12_partOf 51 = .ok (.aload_n 0, 1) := by decide +kernel
theorem dX12_partOf_52 : decode cX12_partOf 52 = .ok (.getfield 264, 3) := by decide +kernel
theorem dX12_partOf_55 : decode cX12_partOf 55 = .ok (.ifCond .eq 39, 3) := by decide +kernel
theorem dX12_partOf_58 : decode cX12_partOf 58 = .ok (.iload_n 2, 1) := by decide +kernel
theorem dX12_partOf_59 : decode cX12_partOf 59 = .ok (.bipush 24, 2) := by decide +kernel
theorem dX12_partOf_61 : decode cX12_partOf 61 = .ok (.if_icmp .eq 9, 3) := by decide +kernel
theorem dX12_partOf_64 : decode cX12_partOf 64 = .ok (.iload_n 2, 1) := by decide +kernel
theorem dX12_partOf_65 : decode cX12_partOf 65 = .ok (.bipush 9, 2) := by decide +kernel
theorem dX12_partOf_67 : decode cX12_partOf 67 = .ok (.if_icmp .ne 27, 3) := by decide +kernel
theorem dX12_partOf_70 : decode cX12_partOf 70 = .ok (.aload_n 0, 1) := by decide +kernel
theorem dX12_partOf_71 : decode cX12_partOf 71 = .ok (.getfield 24, 3) := by decide +kernel
theorem dX12_partOf_74 : decode cX12_partOf 74 = .ok (.sipush 3129, 3) := by decide +kernel
theorem dX12_partOf_77 : decode cX12_partOf 77 = .ok (.aload_n 0, 1) := by decide +kernel
theorem dX12_partOf_78 : decode cX12_partOf 78 = .ok (.getfield 234, 3) := by decide +kernel
theorem dX12_partOf_81 : decode cX12_partOf 81 = .ok (.iadd, 1) := by decide +kernel
theorem dX12_partOf_82 : decode cX12_partOf 82 = .ok (.iaload, 1) := by decide +kernel
theorem dX12_partOf_83 : decode cX12_partOf 83 = .ok (.istore_n 3, 1) := by decide +kernel
theorem dX12_partOf_84 : decode cX12_partOf 84 = .ok (.aload_n 0, 1) := by decide +kernel
theorem dX12_partOf_85 : decode cX12_partOf 85 = .ok (.dup, 1) := by decide +kernel
theorem dX12_partOf_86 : decode cX12_partOf 86 = .ok (.getfield 234, 3) := by decide +kernel
theorem dX12_partOf_89 : decode cX12_partOf 89 = .ok (.iconst 1, 1) := by decide +kernel
theorem dX12_partOf_90 : decode cX12_partOf 90 = .ok (.iadd, 1) := by decide +kernel
theorem dX12_partOf_91 : decode cX12_partOf 91 = .ok (.putfield 234, 3) := by decide +kernel
theorem dX12_partOf_94 : decode cX12_partOf 94 = .ok (.iload_n 1, 1) := by decide +kernel
theorem dX12_partOf_95 : decode cX12_partOf 95 = .ok (.ifCond .eq 10, 3) := by decide +kernel
theorem dX12_partOf_98 : decode cX12_partOf 98 = .ok (.aload_n 0, 1) := by decide +kernel
theorem dX12_partOf_99 : decode cX12_partOf 99 = .ok (.getfield 244, 3) := by decide +kernel
theorem dX12_partOf_102 : decode cX12_partOf 102 = .ok (.ifCond .eq 5, 3) := by decide +kernel
theorem dX12_partOf_105 : decode cX12_partOf 105 = .ok (.lconst 0, 1) := by decide +kernel
theorem dX12_partOf_106 : decode cX12_partOf 106 = .ok (.lreturn, 1) := by decide +kernel
theorem dX12_partOf_107 : decode cX12_partOf 107 = .ok (.iload_n 2, 1) := by decide +kernel
theorem dX12_partOf_108 : decode cX12_partOf 108 = .ok (.bipush 50, 2) := by decide +kernel
theorem dX12_partOf_110 : decode cX12_partOf 110 = .ok (.if_icmp .ne 20, 3) := by decide +kernel
theorem dX12_partOf_113 : decode cX12_partOf 113 = .ok (.aload_n 0, 1) := by decide +kernel
theorem dX12_partOf_114 : decode cX12_partOf 114 = .ok (.getfield 24, 3) := by decide +kernel
theorem dX12_partOf_117 : decode cX12_partOf 117 = .ok (.sipush 3129, 3) := by decide +kernel
theorem dX12_partOf_120 : decode cX12_partOf 120 = .ok (.aload_n 0, 1) := by decide +kernel
theorem dX12_partOf_121 : decode cX12_partOf 121 = .ok (.getfield 234, 3) := by decide +kernel
theorem dX12_partOf_124 : decode cX12_partOf 124 = .ok (.iadd, 1) := by decide +kernel
theorem dX12_partOf_125 : decode cX12_partOf 125 = .ok (.iconst 1, 1) := by decide +kernel
theorem dX12_partOf_126 : decode cX12_partOf 126 = .ok (.isub, 1) := by decide +kernel
theorem dX12_partOf_127 : decode cX12_partOf 127 = .ok (.iaload, 1) := by decide +kernel
theorem dX12_partOf_128 : decode cX12_partOf 128 = .ok (.i2l, 1) := by decide +kernel
theorem dX12_partOf_129 : decode cX12_partOf 129 = .ok (.lreturn, 1) := by decide +kernel
theorem dX12_partOf_130 : decode cX12_partOf 130 = .ok (.aload_n 0, 1) := by decide +kernel
theorem dX12_partOf_131 : decode cX12_partOf 131 = .ok (.getfield 264, 3) := by decide +kernel
theorem dX12_partOf_134 : decode cX12_partOf 134 = .ok (.ifCond .eq 13, 3) := by decide +kernel
theorem dX12_partOf_137 : decode cX12_partOf 137 = .ok (.aload_n 0, 1) := by decide +kernel
theorem dX12_partOf_138 : decode cX12_partOf 138 = .ok (.iload_n 2, 1) := by decide +kernel
theorem dX12_partOf_139 : decode cX12_partOf 139 = .ok (.iload_n 3, 1) := by decide +kernel
theorem dX12_partOf_140 : decode cX12_partOf 140 = .ok (.invokevirtual 267, 3) := by decide +kernel
theorem dX12_partOf_143 : decode cX12_partOf 143 = .ok (.i2l, 1) := by decide +kernel
theorem dX12_partOf_144 : decode cX12_partOf 144 = .ok (.goto 13, 3) := by decide +kernel
theorem dX12_partOf_147 : decode cX12_partOf 147 = .ok (.aload_n 0, 1) := by decide +kernel
theorem dX12_partOf_148 : decode cX12_partOf 148 = .ok (.getfield 59, 3) := by decide +kernel
theorem dX12_partOf_151 : decode cX12_partOf 151 = .ok (.iload_n 2, 1) := by decide +kernel
theorem dX12_partOf_152 : decode cX12_partOf 152 = .ok (.bipush 8, 2) := by decide +kernel
theorem dX12_partOf_154 : decode cX12_partOf 154 = .ok (.isub, 1) := by decide +kernel
theorem dX12_partOf_155 : decode cX12_partOf 155 = .ok (.iaload, 1) := by decide +kernel
theorem dX12_partOf_156 : decode cX12_partOf 156 = .ok (.i2l, 1) := by decide +kernel
theorem dX12_partOf_157 : decode cX12_partOf 157 = .ok (.lreturn, 1) := by decide +kernel
theorem dX12_settingOf_0 : decode cX12_settingOf 0 = .ok (.iload_n 1, 1) := by decide +kernel
theorem dX12_settingOf_1 : decode cX12_settingOf 1 = .ok (.tableswitch 140 13 24 #[71, 140, 140, 140, 140, 105, 140, 140, 63, 79, 100, 114], 63) := by decide +kernel
theorem dX12_settingOf_64 : decode cX12_settingOf 64 = .ok (.aload_n 0, 1) := by decide +kernel
theorem dX12_settingOf_65 : decode cX12_settingOf 65 = .ok (.getfield 24, 3) := by decide +kernel
theorem dX12_settingOf_68 : decode cX12_settingOf 68 = .ok (.bipush 24, 2) := by decide +kernel
theorem dX12_settingOf_70 : decode cX12_settingOf 70 = .ok (.iaload, 1) := by decide +kernel
theorem dX12_settingOf_71 : decode cX12_settingOf 71 = .ok (.ireturn, 1) := by decide +kernel
theorem dX12_settingOf_72 : decode cX12_settingOf 72 = .ok (.aload_n 0, 1) := by decide +kernel
theorem dX12_settingOf_73 : decode cX12_settingOf 73 = .ok (.getfield 24, 3) := by decide +kernel
theorem dX12_settingOf_76 : decode cX12_settingOf 76 = .ok (.bipush 25, 2) := by decide +kernel
theorem dX12_settingOf_78 : decode cX12_settingOf 78 = .ok (.iaload, 1) := by decide +kernel
theorem dX12_settingOf_79 : decode cX12_settingOf 79 = .ok (.ireturn, 1) := by decide +kernel
theorem dX12_settingOf_80 : decode cX12_settingOf 80 = .ok (.aload_n 0, 1) := by decide +kernel
theorem dX12_settingOf_81 : decode cX12_settingOf 81 = .ok (.getfield 24, 3) := by decide +kernel
theorem dX12_settingOf_84 : decode cX12_settingOf 84 = .ok (.sipush 313, 3) := by decide +kernel
theorem dX12_settingOf_87 : decode cX12_settingOf 87 = .ok (.iaload, 1) := by decide +kernel
theorem dX12_settingOf_88 : decode cX12_settingOf 88 = .ok (.aload_n 0, 1) := by decide +kernel
theorem dX12_settingOf_89 : decode cX12_settingOf 89 = .ok (.aload_n 0, 1) := by decide +kernel
theorem dX12_settingOf_90 : decode cX12_settingOf 90 = .ok (.getfield 24, 3) := by decide +kernel
theorem dX12_settingOf_93 : decode cX12_settingOf 93 = .ok (.bipush 25, 2) := by decide +kernel
theorem dX12_settingOf_95 : decode cX12_settingOf 95 = .ok (.iaload, 1) := by decide +kernel
theorem dX12_settingOf_96 : decode cX12_settingOf 96 = .ok (.invokevirtual 270, 3) := by decide +kernel
theorem dX12_settingOf_99 : decode cX12_settingOf 99 = .ok (.isub, 1) := by decide +kernel
theorem dX12_settingOf_100 : decode cX12_settingOf 100 = .ok (.ireturn, 1) := by decide +kernel
theorem dX12_settingOf_101 : decode cX12_settingOf 101 = .ok (.aload_n 0, 1) := by decide +kernel
theorem dX12_settingOf_102 : decode cX12_settingOf 102 = .ok (.getfield 273, 3) := by decide +kernel
theorem dX12_settingOf_105 : decode cX12_settingOf 105 = .ok (.ireturn, 1) := by decide +kernel
theorem dX12_settingOf_106 : decode cX12_settingOf 106 = .ok (.aload_n 0, 1) := by decide +kernel
theorem dX12_settingOf_107 : decode cX12_settingOf 107 = .ok (.getfield 24, 3) := by decide +kernel
theorem dX12_settingOf_110 : decode cX12_settingOf 110 = .ok (.sipush 315, 3) := by decide +kernel
theorem dX12_settingOf_113 : decode cX12_settingOf 113 = .ok (.iaload, 1) := by decide +kernel
theorem dX12_settingOf_114 : decode cX12_settingOf 114 = .ok (.ireturn, 1) := by decide +kernel
theorem dX12_settingOf_115 : decode cX12_settingOf 115 = .ok (.aload_n 0, 1) := by decide +kernel
theorem dX12_settingOf_116 : decode cX12_settingOf 116 = .ok (.iload_n 2, 1) := by decide +kernel
theorem dX12_settingOf_117 : decode cX12_settingOf 117 = .ok (.invokevirtual 127, 3) := by decide +kernel
theorem dX12_settingOf_120 : decode cX12_settingOf 120 = .ok (.ifCond .eq 19, 3) := by decide +kernel
theorem dX12_settingOf_123 : decode cX12_settingOf 123 = .ok (.aload_n 0, 1) := by decide +kernel
theorem dX12_settingOf_124 : decode cX12_settingOf 124 = .ok (.iload_n 2, 1) := by decide +kernel
theorem dX12_settingOf_125 : decode cX12_settingOf 125 = .ok (.aload_n 0, 1) := by decide +kernel
theorem dX12_settingOf_126 : decode cX12_settingOf 126 = .ok (.getfield 24, 3) := by decide +kernel
theorem dX12_settingOf_129 : decode cX12_settingOf 129 = .ok (.sipush 315, 3) := by decide +kernel
theorem dX12_settingOf_132 : decode cX12_settingOf 132 = .ok (.iaload, 1) := by decide +kernel
theorem dX12_settingOf_133 : decode cX12_settingOf 133 = .ok (.invokevirtual 131, 3) := by decide +kernel
theorem dX12_settingOf_136 : decode cX12_settingOf 136 = .ok (.goto 4, 3) := by decide +kernel
theorem dX12_settingOf_139 : decode cX12_settingOf 139 = .ok (.iconst (-1), 1) := by decide +kernel
theorem dX12_settingOf_140 : decode cX12_settingOf 140 = .ok (.ireturn, 1) := by decide +kernel
theorem dX12_settingOf_141 : decode cX12_settingOf 141 = .ok (.aload_n 0, 1) := by decide +kernel
theorem dX12_settingOf_142 : decode cX12_settingOf 142 = .ok (.iload_n 2, 1) := by decide +kernel
theorem dX12_settingOf_143 : decode cX12_settingOf 143 = .ok (.invokevirtual 127, 3) := by decide +kernel
theorem dX12_settingOf_146 : decode cX12_settingOf 146 = .ok (.ifCond .eq 12, 3) := by decide +kernel
theorem dX12_settingOf_149 : decode cX12_settingOf 149 = .ok (.aload_n 0, 1) := by decide +kernel
theorem dX12_settingOf_150 : decode cX12_settingOf 150 = .ok (.iload_n 2, 1) := by decide +kernel
theorem dX12_settingOf_151 : decode cX12_settingOf 151 = .ok (.iconst 0, 1) := by decide +kernel
theorem dX12_settingOf_152 : decode cX12_settingOf 152 = .ok (.invokevirtual 120, 3) := by decide +kernel
theorem dX12_settingOf_155 : decode cX12_settingOf 155 = .ok (.goto 4, 3) := by decide +kernel
theorem dX12_settingOf_158 : decode cX12_settingOf 158 = .ok (.iconst (-1), 1) := by decide +kernel
theorem dX12_settingOf_159 : decode cX12_settingOf 159 = .ok (.ireturn, 1) := by decide +kernel
theorem dX12_testOf_0 : decode cX12_testOf 0 = .ok (.aload_n 0, 1) := by decide +kernel
theorem dX12_testOf_1 : decode cX12_testOf 1 = .ok (.iload_n 1, 1) := by decide +kernel
theorem dX12_testOf_2 : decode cX12_testOf 2 = .ok (.invokevirtual 276, 3) := by decide +kernel
theorem dX12_testOf_5 : decode cX12_testOf 5 = .ok (.istore_n 2, 1) := by decide +kernel
theorem dX12_testOf_6 : decode cX12_testOf 6 = .ok (.aload_n 0, 1) := by decide +kernel
theorem dX12_testOf_7 : decode cX12_testOf 7 = .ok (.iconst 5, 1) := by decide +kernel
theorem dX12_testOf_8 : decode cX12_testOf 8 = .ok (.invokevirtual 258, 3) := by decide +kernel
theorem dX12_testOf_11 : decode cX12_testOf 11 = .ok (.ifCond .eq 38, 3) := by decide +kernel
theorem dX12_testOf_14 : decode cX12_testOf 14 = .ok (.aload_n 0, 1) := by decide +kernel
theorem dX12_testOf_15 : decode cX12_testOf 15 = .ok (.iload_n 1, 1) := by decide +kernel
theorem dX12_testOf_16 : decode cX12_testOf 16 = .ok (.ifCond .eq 11, 3) := by decide +kernel
theorem dX12_testOf_19 : decode cX12_testOf 19 = .ok (.iload_n 2, 1) := by decide +kernel
theorem dX12_testOf_20 : decode cX12_testOf 20 = .ok (.ifCond .ne 7, 3) := by decide +kernel
theorem dX12_testOf_23 : decode cX12_testOf 23 = .ok (.iconst 1, 1) := by decide +kernel
theorem dX12_testOf_24 : decode cX12_testOf 24 = .ok (.goto 4, 3) := by decide +kernel
theorem dX12_testOf_27 : decode cX12_testOf 27 = .ok (.iconst 0, 1) := by decide +kernel
theorem dX12_testOf_28 : decode cX12_testOf 28 = .ok (.invokevirtual 276, 3) := by decide +kernel
theorem dX12_testOf_31 : decode cX12_testOf 31 = .ok (.istore_n 3, 1) := by decide +kernel
theorem dX12_testOf_32 : decode cX12_testOf 32 = .ok (.iload_n 2, 1) := by decide +kernel
theorem dX12_testOf_33 : decode cX12_testOf 33 = .ok (.ifCond .ne 7, 3) := by decide +kernel
theorem dX12_testOf_36 : decode cX12_testOf 36 = .ok (.iload_n 3, 1) := by decide +kernel
theorem dX12_testOf_37 : decode cX12_testOf 37 = .ok (.ifCond .eq 7, 3) := by decide +kernel
theorem dX12_testOf_40 : decode cX12_testOf 40 = .ok (.iconst 1, 1) := by decide +kernel
theorem dX12_testOf_41 : decode cX12_testOf 41 = .ok (.goto 4, 3) := by decide +kernel
theorem dX12_testOf_44 : decode cX12_testOf 44 = .ok (.iconst 0, 1) := by decide +kernel
theorem dX12_testOf_45 : decode cX12_testOf 45 = .ok (.istore_n 2, 1) := by decide +kernel
theorem dX12_testOf_46 : decode cX12_testOf 46 = .ok (.goto (-40), 3) := by decide +kernel
theorem dX12_testOf_49 : decode cX12_testOf 49 = .ok (.iload_n 2, 1) := by decide +kernel
theorem dX12_testOf_50 : decode cX12_testOf 50 = .ok (.ireturn, 1) := by decide +kernel
theorem dX12_bothOf_0 : decode cX12_bothOf 0 = .ok (.aload_n 0, 1) := by decide +kernel
theorem dX12_bothOf_1 : decode cX12_bothOf 1 = .ok (.iload_n 1, 1) := by decide +kernel
theorem dX12_bothOf_2 : decode cX12_bothOf 2 = .ok (.invokevirtual 280, 3) := by decide +kernel
theorem dX12_bothOf_5 : decode cX12_bothOf 5 = .ok (.istore_n 2, 1) := by decide +kernel
theorem dX12_bothOf_6 : decode cX12_bothOf 6 = .ok (.aload_n 0, 1) := by decide +kernel
theorem dX12_bothOf_7 : decode cX12_bothOf 7 = .ok (.bipush 6, 2) := by decide +kernel
theorem dX12_bothOf_9 : decode cX12_bothOf 9 = .ok (.invokevirtual 258, 3) := by decide +kernel
theorem dX12_bothOf_12 : decode cX12_bothOf 12 = .ok (.ifCond .eq 38, 3) := by decide +kernel
theorem dX12_bothOf_15 : decode cX12_bothOf 15 = .ok (.aload_n 0, 1) := by decide +kernel
theorem dX12_bothOf_16 : decode cX12_bothOf 16 = .ok (.iload_n 1, 1) := by decide +kernel
theorem dX12_bothOf_17 : decode cX12_bothOf 17 = .ok (.ifCond .eq 11, 3) := by decide +kernel
theorem dX12_bothOf_20 : decode cX12_bothOf 20 = .ok (.iload_n 2, 1) := by decide +kernel
theorem dX12_bothOf_21 : decode cX12_bothOf 21 = .ok (.ifCond .eq 7, 3) := by decide +kernel
theorem dX12_bothOf_24 : decode cX12_bothOf 24 = .ok (.iconst 1, 1) := by decide +kernel
theorem dX12_bothOf_25 : decode cX12_bothOf 25 = .ok (.goto 4, 3) := by decide +kernel
theorem dX12_bothOf_28 : decode cX12_bothOf 28 = .ok (.iconst 0, 1) := by decide +kernel
theorem dX12_bothOf_29 : decode cX12_bothOf 29 = .ok (.invokevirtual 280, 3) := by decide +kernel
theorem dX12_bothOf_32 : decode cX12_bothOf 32 = .ok (.istore_n 3, 1) := by decide +kernel
theorem dX12_bothOf_33 : decode cX12_bothOf 33 = .ok (.iload_n 2, 1) := by decide +kernel
theorem dX12_bothOf_34 : decode cX12_bothOf 34 = .ok (.ifCond .eq 11, 3) := by decide +kernel
theorem dX12_bothOf_37 : decode cX12_bothOf 37 = .ok (.iload_n 3, 1) := by decide +kernel
theorem dX12_bothOf_38 : decode cX12_bothOf 38 = .ok (.ifCond .eq 7, 3) := by decide +kernel
theorem dX12_bothOf_41 : decode cX12_bothOf 41 = .ok (.iconst 1, 1) := by decide +kernel
theorem dX12_bothOf_42 : decode cX12_bothOf 42 = .ok (.goto 4, 3) := by decide +kernel
theorem dX12_bothOf_45 : decode cX12_bothOf 45 = .ok (.iconst 0, 1) := by decide +kernel
theorem dX12_bothOf_46 : decode cX12_bothOf 46 = .ok (.istore_n 2, 1) := by decide +kernel
theorem dX12_bothOf_47 : decode cX12_bothOf 47 = .ok (.goto (-41), 3) := by decide +kernel
theorem dX12_bothOf_50 : decode cX12_bothOf 50 = .ok (.iload_n 2, 1) := by decide +kernel
theorem dX12_bothOf_51 : decode cX12_bothOf 51 = .ok (.ireturn, 1) := by decide +kernel
theorem dX12_plainOf_0 : decode cX12_plainOf 0 = .ok (.iconst 0, 1) := by decide +kernel
theorem dX12_plainOf_1 : decode cX12_plainOf 1 = .ok (.istore_n 2, 1) := by decide +kernel
theorem dX12_plainOf_2 : decode cX12_plainOf 2 = .ok (.aload_n 0, 1) := by decide +kernel
theorem dX12_plainOf_3 : decode cX12_plainOf 3 = .ok (.bipush 7, 2) := by decide +kernel
theorem dX12_plainOf_5 : decode cX12_plainOf 5 = .ok (.invokevirtual 258, 3) := by decide +kernel
theorem dX12_plainOf_8 : decode cX12_plainOf 8 = .ok (.ifCond .eq 16, 3) := by decide +kernel
theorem dX12_plainOf_11 : decode cX12_plainOf 11 = .ok (.iload_n 2, 1) := by decide +kernel
theorem dX12_plainOf_12 : decode cX12_plainOf 12 = .ok (.ifCond .ne 7, 3) := by decide +kernel
theorem dX12_plainOf_15 : decode cX12_plainOf 15 = .ok (.iconst 1, 1) := by decide +kernel
theorem dX12_plainOf_16 : decode cX12_plainOf 16 = .ok (.goto 4, 3) := by decide +kernel
theorem dX12_plainOf_19 : decode cX12_plainOf 19 = .ok (.iconst 0, 1) := by decide +kernel
theorem dX12_plainOf_20 : decode cX12_plainOf 20 = .ok (.istore_n 2, 1) := by decide +kernel
theorem dX12_plainOf_21 : decode cX12_plainOf 21 = .ok (.goto (-19), 3) := by decide +kernel
theorem dX12_plainOf_24 : decode cX12_plainOf 24 = .ok (.aload_n 0, 1) := by decide +kernel
theorem dX12_plainOf_25 : decode cX12_plainOf 25 = .ok (.iload_n 1, 1) := by decide +kernel
theorem dX12_plainOf_26 : decode cX12_plainOf 26 = .ok (.invokevirtual 283, 3) := by decide +kernel
theorem dX12_plainOf_29 : decode cX12_plainOf 29 = .ok (.iload_n 2, 1) := by decide +kernel
theorem dX12_plainOf_30 : decode cX12_plainOf 30 = .ok (.if_icmp .eq 7, 3) := by decide +kernel
theorem dX12_plainOf_33 : decode cX12_plainOf 33 = .ok (.iconst 1, 1) := by decide +kernel
theorem dX12_plainOf_34 : decode cX12_plainOf 34 = .ok (.goto 4, 3) := by decide +kernel
theorem dX12_plainOf_37 : decode cX12_plainOf 37 = .ok (.iconst 0, 1) := by decide +kernel
theorem dX12_plainOf_38 : decode cX12_plainOf 38 = .ok (.ireturn, 1) := by decide +kernel
theorem dX12_positiveOf_0 : decode cX12_positiveOf 0 = .ok (.aload_n 0, 1) := by decide +kernel
theorem dX12_positiveOf_1 : decode cX12_positiveOf 1 = .ok (.bipush 40, 2) := by decide +kernel
theorem dX12_positiveOf_3 : decode cX12_positiveOf 3 = .ok (.invokestatic 203, 3) := by decide +kernel
theorem dX12_positiveOf_6 : decode cX12_positiveOf 6 = .ok (.invokevirtual 258, 3) := by decide +kernel
theorem dX12_positiveOf_9 : decode cX12_positiveOf 9 = .ok (.ifCond .eq 21, 3) := by decide +kernel
theorem dX12_positiveOf_12 : decode cX12_positiveOf 12 = .ok (.aload_n 0, 1) := by decide +kernel
theorem dX12_positiveOf_13 : decode cX12_positiveOf 13 = .ok (.iload_n 1, 1) := by decide +kernel
theorem dX12_positiveOf_14 : decode cX12_positiveOf 14 = .ok (.invokevirtual 286, 3) := by decide +kernel
theorem dX12_positiveOf_17 : decode cX12_positiveOf 17 = .ok (.istore_n 2, 1) := by decide +kernel
theorem dX12_positiveOf_18 : decode cX12_positiveOf 18 = .ok (.aload_n 0, 1) := by decide +kernel
theorem dX12_positiveOf_19 : decode cX12_positiveOf 19 = .ok (.dup, 1) := by decide +kernel
theorem dX12_positiveOf_20 : decode cX12_positiveOf 20 = .ok (.getfield 234, 3) := by decide +kernel
theorem dX12_positiveOf_23 : decode cX12_positiveOf 23 = .ok (.iconst 1, 1) := by decide +kernel
theorem dX12_positiveOf_24 : decode cX12_positiveOf 24 = .ok (.iadd, 1) := by decide +kernel
theorem dX12_positiveOf_25 : decode cX12_positiveOf 25 = .ok (.putfield 234, 3) := by decide +kernel
theorem dX12_positiveOf_28 : decode cX12_positiveOf 28 = .ok (.iload_n 2, 1) := by decide +kernel
theorem dX12_positiveOf_29 : decode cX12_positiveOf 29 = .ok (.ireturn, 1) := by decide +kernel
theorem dX12_positiveOf_30 : decode cX12_positiveOf 30 = .ok (.aload_n 0, 1) := by decide +kernel
theorem dX12_positiveOf_31 : decode cX12_positiveOf 31 = .ok (.iload_n 1, 1) := by decide +kernel
theorem dX12_positiveOf_32 : decode cX12_positiveOf 32 = .ok (.invokevirtual 261, 3) := by decide +kernel
theorem dX12_positiveOf_35 : decode cX12_positiveOf 35 = .ok (.lstore_n 2, 1) := by decide +kernel
theorem dX12_positiveOf_36 : decode cX12_positiveOf 36 = .ok (.aload_n 0, 1) := by decide +kernel
theorem dX12_positiveOf_37 : decode cX12_positiveOf 37 = .ok (.aload_n 0, 1) := by decide +kernel
theorem dX12_positiveOf_38 : decode cX12_positiveOf 38 = .ok (.getfield 234, 3) := by decide +kernel
theorem dX12_positiveOf_41 : decode cX12_positiveOf 41 = .ok (.invokevirtual 237, 3) := by decide +kernel
theorem dX12_positiveOf_44 : decode cX12_positiveOf 44 = .ok (.istore 4, 2) := by decide +kernel
theorem dX12_positiveOf_46 : decode cX12_positiveOf 46 = .ok (.aload_n 0, 1) := by decide +kernel
theorem dX12_positiveOf_47 : decode cX12_positiveOf 47 = .ok (.dup, 1) := by decide +kernel
theorem dX12_positiveOf_48 : decode cX12_positiveOf 48 = .ok (.getfield 234, 3) := by decide +kernel
theorem dX12_positiveOf_51 : decode cX12_positiveOf 51 = .ok (.iconst 1, 1) := by decide +kernel
theorem dX12_positiveOf_52 : decode cX12_positiveOf 52 = .ok (.iadd, 1) := by decide +kernel
theorem dX12_positiveOf_53 : decode cX12_positiveOf 53 = .ok (.putfield 234, 3) := by decide +kernel
theorem dX12_positiveOf_56 : decode cX12_positiveOf 56 = .ok (.aload_n 0, 1) := by decide +kernel
theorem dX12_positiveOf_57 : decode cX12_positiveOf 57 = .ok (.iload_n 1, 1) := by decide +kernel
theorem dX12_positiveOf_58 : decode cX12_positiveOf 58 = .ok (.invokevirtual 261, 3) := by decide +kernel
theorem dX12_positiveOf_61 : decode cX12_positiveOf 61 = .ok (.lstore 5, 2) := by decide +kernel
theorem dX12_positiveOf_63 : decode cX12_positiveOf 63 = .ok (.iload_n 1, 1) := by decide +kernel
theorem dX12_positiveOf_64 : decode cX12_positiveOf 64 = .ok (.ifCond .eq 61, 3) := by decide +kernel
theorem dX12_positiveOf_67 : decode cX12_positiveOf 67 = .ok (.aload_n 0, 1) := by decide +kernel
theorem dX12_positiveOf_68 : decode cX12_positiveOf 68 = .ok (.getfield 244, 3) := by decide +kernel
theorem dX12_positiveOf_71 : decode cX12_positiveOf 71 = .ok (.ifCond .ne 54, 3) := by decide +kernel
theorem dX12_positiveOf_74 : decode cX12_positiveOf 74 = .ok (.iload 4, 2) := by decide +kernel
theorem dX12_positiveOf_76 : decode cX12_positiveOf 76 = .ok (.bipush 60, 2) := by decide +kernel
theorem dX12_positiveOf_78 : decode cX12_positiveOf 78 = .ok (.invokestatic 203, 3) := by decide +kernel
theorem dX12_positiveOf_81 : decode cX12_positiveOf 81 = .ok (.if_icmp .ne 13, 3) := by decide +kernel
theorem dX12_positiveOf_84 : decode cX12_positiveOf 84 = .ok (.lload_n 2, 1) := by decide +kernel
theorem dX12_positiveOf_85 : decode cX12_positiveOf 85 = .ok (.lload 5, 2) := by decide +kernel
theorem dX12_positiveOf_87 : decode cX12_positiveOf 87 = .ok (.lcmp, 1) := by decide +kernel
theorem dX12_positiveOf_88 : decode cX12_positiveOf 88 = .ok (.ifCond .ge 37, 3) := by decide +kernel
theorem dX12_positiveOf_91 : decode cX12_positiveOf 91 = .ok (.goto 30, 3) := by decide +kernel
theorem dX12_positiveOf_94 : decode cX12_positiveOf 94 = .ok (.iload 4, 2) := by decide +kernel
theorem dX12_positiveOf_96 : decode cX12_positiveOf 96 = .ok (.bipush 62, 2) := by decide +kernel
theorem dX12_positiveOf_98 : decode cX12_positiveOf 98 = .ok (.invokestatic 203, 3) := by decide +kernel
theorem dX12_positiveOf_101 : decode cX12_positiveOf 101 = .ok (.if_icmp .ne 13, 3) := by decide +kernel
theorem dX12_positiveOf_104 : decode cX12_positiveOf 104 = .ok (.lload_n 2, 1) := by decide +kernel
theorem dX12_positiveOf_105 : decode cX12_positiveOf 105 = .ok (.lload 5, 2) := by decide +kernel
theorem dX12_positiveOf_107 : decode cX12_positiveOf 107 = .ok (.lcmp, 1) := by decide +kernel
theorem dX12_positiveOf_108 : decode cX12_positiveOf 108 = .ok (.ifCond .le 17, 3) := by decide +kernel
theorem dX12_positiveOf_111 : decode cX12_positiveOf 111 = .ok (.goto 10, 3) := by decide +kernel
theorem dX12_positiveOf_114 : decode cX12_positiveOf 114 = .ok (.lload_n 2, 1) := by decide +kernel
theorem dX12_positiveOf_115 : decode cX12_positiveOf 115 = .ok (.lload 5, 2) := by decide +kernel
theorem dX12_positiveOf_117 : decode cX12_positiveOf 117 = .ok (.lcmp, 1) := by decide +kernel
theorem dX12_positiveOf_118 : decode cX12_positiveOf 118 = .ok (.ifCond .ne 7, 3) := by decide +kernel
theorem dX12_positiveOf_121 : decode cX12_positiveOf 121 = .ok (.iconst 1, 1) := by decide +kernel
theorem dX12_positiveOf_122 : decode cX12_positiveOf 122 = .ok (.goto 4, 3) := by decide +kernel
theorem dX12_positiveOf_125 : decode cX12_positiveOf 125 = .ok (.iconst 0, 1) := by decide +kernel
theorem dX12_positiveOf_126 : decode cX12_positiveOf 126 = .ok (.ireturn, 1) := by decide +kernel
theorem dX12_tells_0 : decode cX12_tells 0 = .ok (.aload_n 0, 1) := by decide +kernel
theorem dX12_tells_1 : decode cX12_tells 1 = .ok (.getfield 24, 3) := by decide +kernel
theorem dX12_tells_4 : decode cX12_tells 4 = .ok (.sipush 321, 3) := by decide +kernel
theorem dX12_tells_7 : decode cX12_tells 7 = .ok (.iaload, 1) := by decide +kernel
theorem dX12_tells_8 : decode cX12_tells 8 = .ok (.iconst (-1), 1) := by decide +kernel
theorem dX12_tells_9 : decode cX12_tells 9 = .ok (.if_icmp .ne 5, 3) := by decide +kernel
theorem dX12_tells_12 : decode cX12_tells 12 = .ok (.iload_n 3, 1) := by decide +kernel
theorem dX12_tells_13 : decode cX12_tells 13 = .ok (.ireturn, 1) := by decide +kernel
theorem dX12_tells_14 : decode cX12_tells 14 = .ok (.aload_n 0, 1) := by decide +kernel
theorem dX12_tells_15 : decode cX12_tells 15 = .ok (.getfield 59, 3) := by decide +kernel
theorem dX12_tells_18 : decode cX12_tells 18 = .ok (.bipush 10, 2) := by decide +kernel
theorem dX12_tells_20 : decode cX12_tells 20 = .ok (.iload_n 2, 1) := by decide +kernel
theorem dX12_tells_21 : decode cX12_tells 21 = .ok (.iastore, 1) := by decide +kernel
theorem dX12_tells_22 : decode cX12_tells 22 = .ok (.aload_n 0, 1) := by decide +kernel
theorem dX12_tells_23 : decode cX12_tells 23 = .ok (.getfield 59, 3) := by decide +kernel
theorem dX12_tells_26 : decode cX12_tells 26 = .ok (.bipush 11, 2) := by decide +kernel
theorem dX12_tells_28 : decode cX12_tells 28 = .ok (.aload_n 0, 1) := by decide +kernel
theorem dX12_tells_29 : decode cX12_tells 29 = .ok (.getfield 24, 3) := by decide +kernel
theorem dX12_tells_32 : decode cX12_tells 32 = .ok (.sipush 311, 3) := by decide +kernel
theorem dX12_tells_35 : decode cX12_tells 35 = .ok (.iaload, 1) := by decide +kernel
theorem dX12_tells_36 : decode cX12_tells 36 = .ok (.iastore, 1) := by decide +kernel
theorem dX12_tells_37 : decode cX12_tells 37 = .ok (.aload_n 0, 1) := by decide +kernel
theorem dX12_tells_38 : decode cX12_tells 38 = .ok (.getfield 59, 3) := by decide +kernel
theorem dX12_tells_41 : decode cX12_tells 41 = .ok (.bipush 12, 2) := by decide +kernel
theorem dX12_tells_43 : decode cX12_tells 43 = .ok (.aload_n 0, 1) := by decide +kernel
theorem dX12_tells_44 : decode cX12_tells 44 = .ok (.getfield 24, 3) := by decide +kernel
theorem dX12_tells_47 : decode cX12_tells 47 = .ok (.sipush 312, 3) := by decide +kernel
theorem dX12_tells_50 : decode cX12_tells 50 = .ok (.iaload, 1) := by decide +kernel
theorem dX12_tells_51 : decode cX12_tells 51 = .ok (.iastore, 1) := by decide +kernel
theorem dX12_tells_52 : decode cX12_tells 52 = .ok (.aload_n 0, 1) := by decide +kernel
theorem dX12_tells_53 : decode cX12_tells 53 = .ok (.iconst 0, 1) := by decide +kernel
theorem dX12_tells_54 : decode cX12_tells 54 = .ok (.putfield 264, 3) := by decide +kernel
theorem dX12_tells_57 : decode cX12_tells 57 = .ok (.iload_n 3, 1) := by decide +kernel
theorem dX12_tells_58 : decode cX12_tells 58 = .ok (.i2l, 1) := by decide +kernel
theorem dX12_tells_59 : decode cX12_tells 59 = .ok (.lstore 4, 2) := by decide +kernel
theorem dX12_tells_61 : decode cX12_tells 61 = .ok (.aload_n 0, 1) := by decide +kernel
theorem dX12_tells_62 : decode cX12_tells 62 = .ok (.sipush 400, 3) := by decide +kernel
theorem dX12_tells_65 : decode cX12_tells 65 = .ok (.aload_n 0, 1) := by decide +kernel
theorem dX12_tells_66 : decode cX12_tells 66 = .ok (.getfield 24, 3) := by decide +kernel
theorem dX12_tells_69 : decode cX12_tells 69 = .ok (.sipush 321, 3) := by decide +kernel
theorem dX12_tells_72 : decode cX12_tells 72 = .ok (.iaload, 1) := by decide +kernel
theorem dX12_tells_73 : decode cX12_tells 73 = .ok (.imul, 1) := by decide +kernel
theorem dX12_tells_74 : decode cX12_tells 74 = .ok (.putfield 234, 3) := by decide +kernel
theorem dX12_tells_77 : decode cX12_tells 77 = .ok (.aload_n 0, 1) := by decide +kernel
theorem dX12_tells_78 : decode cX12_tells 78 = .ok (.aload_n 0, 1) := by decide +kernel
theorem dX12_tells_79 : decode cX12_tells 79 = .ok (.getfield 234, 3) := by decide +kernel
theorem dX12_tells_82 : decode cX12_tells 82 = .ok (.aload_n 0, 1) := by decide +kernel
theorem dX12_tells_83 : decode cX12_tells 83 = .ok (.getfield 24, 3) := by decide +kernel
theorem dX12_tells_86 : decode cX12_tells 86 = .ok (.sipush 322, 3) := by decide +kernel
theorem dX12_tells_89 : decode cX12_tells 89 = .ok (.aload_n 0, 1) := by decide +kernel
theorem dX12_tells_90 : decode cX12_tells 90 = .ok (.getfield 24, 3) := by decide +kernel
theorem dX12_tells_93 : decode cX12_tells 93 = .ok (.sipush 321, 3) := by decide +kernel
theorem dX12_tells_96 : decode cX12_tells 96 = .ok (.iaload, 1) := by decide +kernel
theorem dX12_tells_97 : decode cX12_tells 97 = .ok (.iadd, 1) := by decide +kernel
theorem dX12_tells_98 : decode cX12_tells 98 = .ok (.iaload, 1) := by decide +kernel
theorem dX12_tells_99 : decode cX12_tells 99 = .ok (.iadd, 1) := by decide +kernel
theorem dX12_tells_100 : decode cX12_tells 100 = .ok (.putfield 231, 3) := by decide +kernel
theorem dX12_tells_103 : decode cX12_tells 103 = .ok (.aload_n 0, 1) := by decide +kernel
theorem dX12_tells_104 : decode cX12_tells 104 = .ok (.getfield 234, 3) := by decide +kernel
theorem dX12_tells_107 : decode cX12_tells 107 = .ok (.aload_n 0, 1) := by decide +kernel
theorem dX12_tells_108 : decode cX12_tells 108 = .ok (.getfield 231, 3) := by decide +kernel
theorem dX12_tells_111 : decode cX12_tells 111 = .ok (.if_icmp .ge 145, 3) := by decide +kernel
theorem dX12_tells_114 : decode cX12_tells 114 = .ok (.aload_n 0, 1) := by decide +kernel
theorem dX12_tells_115 : decode cX12_tells 115 = .ok (.aload_n 0, 1) := by decide +kernel
theorem dX12_tells_116 : decode cX12_tells 116 = .ok (.getfield 234, 3) := by decide +kernel
theorem dX12_tells_119 : decode cX12_tells 119 = .ok (.invokevirtual 237, 3) := by decide +kernel
theorem dX12_tells_122 : decode cX12_tells 122 = .ok (.istore 6, 2) := by decide +kernel
theorem dX12_tells_124 : decode cX12_tells 124 = .ok (.aload_n 0, 1) := by decide +kernel
theorem dX12_tells_125 : decode cX12_tells 125 = .ok (.iconst 0, 1) := by decide +kernel
theorem dX12_tells_126 : decode cX12_tells 126 = .ok (.putfield 244, 3) := by decide +kernel
theorem dX12_tells_129 : decode cX12_tells 129 = .ok (.aload_n 0, 1) := by decide +kernel
theorem dX12_tells_130 : decode cX12_tells 130 = .ok (.dup, 1) := by decide +kernel
theorem dX12_tells_131 : decode cX12_tells 131 = .ok (.getfield 234, 3) := by decide +kernel
theorem dX12_tells_134 : decode cX12_tells 134 = .ok (.iconst 1, 1) := by decide +kernel
theorem dX12_tells_135 : decode cX12_tells 135 = .ok (.iadd, 1) := by decide +kernel
theorem dX12_tells_136 : decode cX12_tells 136 = .ok (.putfield 234, 3) := by decide +kernel
theorem dX12_tells_139 : decode cX12_tells 139 = .ok (.iload 6, 2) := by decide +kernel
theorem dX12_tells_141 : decode cX12_tells 141 = .ok (.iconst 3, 1) := by decide +kernel
theorem dX12_tells_142 : decode cX12_tells 142 = .ok (.if_icmp .ne 7, 3) := by decide +kernel
theorem dX12_tells_145 : decode cX12_tells 145 = .ok (.lconst 1, 1) := by decide +kernel
theorem dX12_tells_146 : decode cX12_tells 146 = .ok (.goto 8, 3) := by decide +kernel
theorem dX12_tells_149 : decode cX12_tells 149 = .ok (.aload_n 0, 1) := by decide +kernel
theorem dX12_tells_150 : decode cX12_tells 150 = .ok (.iconst 1, 1) := by decide +kernel
theorem dX12_tells_151 : decode cX12_tells 151 = .ok (.invokevirtual 261, 3) := by decide +kernel
theorem dX12_tells_154 : decode cX12_tells 154 = .ok (.lstore 7, 2) := by decide +kernel
theorem dX12_tells_156 : decode cX12_tells 156 = .ok (.aload_n 0, 1) := by decide +kernel
theorem dX12_tells_157 : decode cX12_tells 157 = .ok (.getfield 244, 3) := by decide +kernel
theorem dX12_tells_160 : decode cX12_tells 160 = .ok (.istore 9, 2) := by decide +kernel
theorem dX12_tells_162 : decode cX12_tells 162 = .ok (.aload_n 0, 1) := by decide +kernel
theorem dX12_tells_163 : decode cX12_tells 163 = .ok (.iconst 0, 1) := by decide +kernel
theorem dX12_tells_164 : decode cX12_tells 164 = .ok (.putfield 244, 3) := by decide +kernel
theorem dX12_tells_167 : decode cX12_tells 167 = .ok (.aload_n 0, 1) := by decide +kernel
theorem dX12_tells_168 : decode cX12_tells 168 = .ok (.iconst 4, 1) := by decide +kernel
theorem dX12_tells_169 : decode cX12_tells 169 = .ok (.invokevirtual 258, 3) := by decide +kernel
theorem dX12_tells_172 : decode cX12_tells 172 = .ok (.ifCond .eq 11, 3) := by decide +kernel
theorem dX12_tells_175 : decode cX12_tells 175 = .ok (.aload_n 0, 1) := by decide +kernel
theorem dX12_tells_176 : decode cX12_tells 176 = .ok (.iconst 1, 1) := by decide +kernel
theorem dX12_tells_177 : decode cX12_tells 177 = .ok (.invokevirtual 286, 3) := by decide +kernel
theorem dX12_tells_180 : decode cX12_tells 180 = .ok (.ifCond .eq 7, 3) := by decide +kernel
theorem dX12_tells_183 : decode cX12_tells 183 = .ok (.iconst 1, 1) := by decide +kernel
theorem dX12_tells_184 : decode cX12_tells 184 = .ok (.goto 4, 3) := by decide +kernel
theorem dX12_tells_187 : decode cX12_tells 187 = .ok (.iconst 0, 1) := by decide +kernel
theorem dX12_tells_188 : decode cX12_tells 188 = .ok (.istore 10, 2) := by decide +kernel
theorem dX12_tells_190 : decode cX12_tells 190 = .ok (.iload 6, 2) := by decide +kernel
theorem dX12_tells_192 : decode cX12_tells 192 = .ok (.iload_n 1, 1) := by decide +kernel
theorem dX12_tells_193 : decode cX12_tells 193 = .ok (.if_icmp .ne 50, 3) := by decide +kernel
theorem dX12_tells_196 : decode cX12_tells 196 = .ok (.iload 10, 2) := by decide +kernel
theorem dX12_tells_198 : decode cX12_tells 198 = .ok (.ifCond .eq 45, 3) := by decide +kernel
theorem dX12_tells_201 : decode cX12_tells 201 = .ok (.aload_n 0, 1) := by decide +kernel
theorem dX12_tells_202 : decode cX12_tells 202 = .ok (.getfield 244, 3) := by decide +kernel
theorem dX12_tells_205 : decode cX12_tells 205 = .ok (.ifCond .ne 38, 3) := by decide +kernel
theorem dX12_tells_208 : decode cX12_tells 208 = .ok (.iload 9, 2) := by decide +kernel
theorem dX12_tells_210 : decode cX12_tells 210 = .ok (.ifCond .ne 33, 3) := by decide +kernel
theorem dX12_tells_213 : decode cX12_tells 213 = .ok (.lload 7, 2) := by decide +kernel
theorem dX12_tells_215 : decode cX12_tells 215 = .ok (.lconst 0, 1) := by decide +kernel
theorem dX12_tells_216 : decode cX12_tells 216 = .ok (.lcmp, 1) := by decide +kernel
theorem dX12_tells_217 : decode cX12_tells 217 = .ok (.ifCond .ge 7, 3) := by decide +kernel
theorem dX12_tells_220 : decode cX12_tells 220 = .ok (.lconst 0, 1) := by decide +kernel
theorem dX12_tells_221 : decode cX12_tells 221 = .ok (.goto 20, 3) := by decide +kernel
theorem dX12_tells_224 : decode cX12_tells 224 = .ok (.lload 7, 2) := by decide +kernel
theorem dX12_tells_226 : decode cX12_tells 226 = .ok (.ldc2_w 289, 3) := by decide +kernel
theorem dX12_tells_229 : decode cX12_tells 229 = .ok (.lcmp, 1) := by decide +kernel
theorem dX12_tells_230 : decode cX12_tells 230 = .ok (.ifCond .le 9, 3) := by decide +kernel
theorem dX12_tells_233 : decode cX12_tells 233 = .ok (.ldc2_w 289, 3) := by decide +kernel
theorem dX12_tells_236 : decode cX12_tells 236 = .ok (.goto 5, 3) := by decide +kernel
theorem dX12_tells_239 : decode cX12_tells 239 = .ok (.lload 7, 2) := by decide +kernel
theorem dX12_tells_241 : decode cX12_tells 241 = .ok (.lstore 4, 2) := by decide +kernel
theorem dX12_tells_243 : decode cX12_tells 243 = .ok (.aload_n 0, 1) := by decide +kernel
theorem dX12_tells_244 : decode cX12_tells 244 = .ok (.dup, 1) := by decide +kernel
theorem dX12_tells_245 : decode cX12_tells 245 = .ok (.getfield 234, 3) := by decide +kernel
theorem dX12_tells_248 : decode cX12_tells 248 = .ok (.iconst 1, 1) := by decide +kernel
theorem dX12_tells_249 : decode cX12_tells 249 = .ok (.iadd, 1) := by decide +kernel
theorem dX12_tells_250 : decode cX12_tells 250 = .ok (.putfield 234, 3) := by decide +kernel
theorem dX12_tells_253 : decode cX12_tells 253 = .ok (.goto (-150), 3) := by decide +kernel
theorem dX12_tells_256 : decode cX12_tells 256 = .ok (.lload 4, 2) := by decide +kernel
theorem dX12_tells_258 : decode cX12_tells 258 = .ok (.l2i, 1) := by decide +kernel
theorem dX12_tells_259 : decode cX12_tells 259 = .ok (.ireturn, 1) := by decide +kernel
theorem dX12_setsWord_0 : decode cX12_setsWord 0 = .ok (.aload_n 0, 1) := by decide +kernel
theorem dX12_setsWord_1 : decode cX12_setsWord 1 = .ok (.getfield 59, 3) := by decide +kernel
theorem dX12_setsWord_4 : decode cX12_setsWord 4 = .ok (.iconst 0, 1) := by decide +kernel
theorem dX12_setsWord_5 : decode cX12_setsWord 5 = .ok (.iload_n 1, 1) := by decide +kernel
theorem dX12_setsWord_6 : decode cX12_setsWord 6 = .ok (.iastore, 1) := by decide +kernel
theorem dX12_setsWord_7 : decode cX12_setsWord 7 = .ok (.aload_n 0, 1) := by decide +kernel
theorem dX12_setsWord_8 : decode cX12_setsWord 8 = .ok (.getfield 59, 3) := by decide +kernel
theorem dX12_setsWord_11 : decode cX12_setsWord 11 = .ok (.iconst 1, 1) := by decide +kernel
theorem dX12_setsWord_12 : decode cX12_setsWord 12 = .ok (.aload_n 0, 1) := by decide +kernel
theorem dX12_setsWord_13 : decode cX12_setsWord 13 = .ok (.iload_n 1, 1) := by decide +kernel
theorem dX12_setsWord_14 : decode cX12_setsWord 14 = .ok (.iconst 0, 1) := by decide +kernel
theorem dX12_setsWord_15 : decode cX12_setsWord 15 = .ok (.invokevirtual 120, 3) := by decide +kernel
theorem dX12_setsWord_18 : decode cX12_setsWord 18 = .ok (.iastore, 1) := by decide +kernel
theorem dX12_setsWord_19 : decode cX12_setsWord 19 = .ok (.aload_n 0, 1) := by decide +kernel
theorem dX12_setsWord_20 : decode cX12_setsWord 20 = .ok (.getfield 59, 3) := by decide +kernel
theorem dX12_setsWord_23 : decode cX12_setsWord 23 = .ok (.iconst 2, 1) := by decide +kernel
theorem dX12_setsWord_24 : decode cX12_setsWord 24 = .ok (.aload_n 0, 1) := by decide +kernel
theorem dX12_setsWord_25 : decode cX12_setsWord 25 = .ok (.iload_n 1, 1) := by decide +kernel
theorem dX12_setsWord_26 : decode cX12_setsWord 26 = .ok (.iconst 1, 1) := by decide +kernel
theorem dX12_setsWord_27 : decode cX12_setsWord 27 = .ok (.invokevirtual 120, 3) := by decide +kernel
theorem dX12_setsWord_30 : decode cX12_setsWord 30 = .ok (.iastore, 1) := by decide +kernel
theorem dX12_setsWord_31 : decode cX12_setsWord 31 = .ok (.aload_n 0, 1) := by decide +kernel
theorem dX12_setsWord_32 : decode cX12_setsWord 32 = .ok (.getfield 59, 3) := by decide +kernel
theorem dX12_setsWord_35 : decode cX12_setsWord 35 = .ok (.iconst 3, 1) := by decide +kernel
theorem dX12_setsWord_36 : decode cX12_setsWord 36 = .ok (.aload_n 0, 1) := by decide +kernel
theorem dX12_setsWord_37 : decode cX12_setsWord 37 = .ok (.iload_n 1, 1) := by decide +kernel
theorem dX12_setsWord_38 : decode cX12_setsWord 38 = .ok (.iconst 2, 1) := by decide +kernel
theorem dX12_setsWord_39 : decode cX12_setsWord 39 = .ok (.invokevirtual 120, 3) := by decide +kernel
theorem dX12_setsWord_42 : decode cX12_setsWord 42 = .ok (.iastore, 1) := by decide +kernel
theorem dX12_setsWord_43 : decode cX12_setsWord 43 = .ok (.aload_n 0, 1) := by decide +kernel
theorem dX12_setsWord_44 : decode cX12_setsWord 44 = .ok (.getfield 59, 3) := by decide +kernel
theorem dX12_setsWord_47 : decode cX12_setsWord 47 = .ok (.iconst 4, 1) := by decide +kernel
theorem dX12_setsWord_48 : decode cX12_setsWord 48 = .ok (.aload_n 0, 1) := by decide +kernel
theorem dX12_setsWord_49 : decode cX12_setsWord 49 = .ok (.iload_n 1, 1) := by decide +kernel
theorem dX12_setsWord_50 : decode cX12_setsWord 50 = .ok (.iconst 3, 1) := by decide +kernel
theorem dX12_setsWord_51 : decode cX12_setsWord 51 = .ok (.invokevirtual 120, 3) := by decide +kernel
theorem dX12_setsWord_54 : decode cX12_setsWord 54 = .ok (.iastore, 1) := by decide +kernel
theorem dX12_setsWord_55 : decode cX12_setsWord 55 = .ok (.iconst 5, 1) := by decide +kernel
theorem dX12_setsWord_56 : decode cX12_setsWord 56 = .ok (.istore_n 2, 1) := by decide +kernel
theorem dX12_setsWord_57 : decode cX12_setsWord 57 = .ok (.iload_n 2, 1) := by decide +kernel
theorem dX12_setsWord_58 : decode cX12_setsWord 58 = .ok (.bipush 10, 2) := by decide +kernel
theorem dX12_setsWord_60 : decode cX12_setsWord 60 = .ok (.if_icmp .ge 16, 3) := by decide +kernel
theorem dX12_setsWord_63 : decode cX12_setsWord 63 = .ok (.aload_n 0, 1) := by decide +kernel
theorem dX12_setsWord_64 : decode cX12_setsWord 64 = .ok (.getfield 59, 3) := by decide +kernel
theorem dX12_setsWord_67 : decode cX12_setsWord 67 = .ok (.iload_n 2, 1) := by decide +kernel
theorem dX12_setsWord_68 : decode cX12_setsWord 68 = .ok (.iconst (-1), 1) := by decide +kernel
theorem dX12_setsWord_69 : decode cX12_setsWord 69 = .ok (.iastore, 1) := by decide +kernel
theorem dX12_setsWord_70 : decode cX12_setsWord 70 = .ok (.iinc 2 1, 3) := by decide +kernel
theorem dX12_setsWord_73 : decode cX12_setsWord 73 = .ok (.goto (-16), 3) := by decide +kernel
theorem dX12_setsWord_76 : decode cX12_setsWord 76 = .ok (.return_, 1) := by decide +kernel
theorem dX12_losesOf_0 : decode cX12_losesOf 0 = .ok (.aload_n 0, 1) := by decide +kernel
theorem dX12_losesOf_1 : decode cX12_losesOf 1 = .ok (.iload_n 1, 1) := by decide +kernel
theorem dX12_losesOf_2 : decode cX12_losesOf 2 = .ok (.invokevirtual 291, 3) := by decide +kernel
theorem dX12_losesOf_5 : decode cX12_losesOf 5 = .ok (.aload_n 0, 1) := by decide +kernel
theorem dX12_losesOf_6 : decode cX12_losesOf 6 = .ok (.iconst 1, 1) := by decide +kernel
theorem dX12_losesOf_7 : decode cX12_losesOf 7 = .ok (.aload_n 0, 1) := by decide +kernel
theorem dX12_losesOf_8 : decode cX12_losesOf 8 = .ok (.getfield 24, 3) := by decide +kernel
theorem dX12_losesOf_11 : decode cX12_losesOf 11 = .ok (.sipush 315, 3) := by decide +kernel
theorem dX12_losesOf_14 : decode cX12_losesOf 14 = .ok (.iaload, 1) := by decide +kernel
theorem dX12_losesOf_15 : decode cX12_losesOf 15 = .ok (.aload_n 0, 1) := by decide +kernel
theorem dX12_losesOf_16 : decode cX12_losesOf 16 = .ok (.iload_n 1, 1) := by decide +kernel
theorem dX12_losesOf_17 : decode cX12_losesOf 17 = .ok (.iconst 1, 1) := by decide +kernel
theorem dX12_losesOf_18 : decode cX12_losesOf 18 = .ok (.invokevirtual 120, 3) := by decide +kernel
theorem dX12_losesOf_21 : decode cX12_losesOf 21 = .ok (.invokevirtual 294, 3) := by decide +kernel
theorem dX12_losesOf_24 : decode cX12_losesOf 24 = .ok (.ireturn, 1) := by decide +kernel
theorem dX12_isBarred_0 : decode cX12_isBarred 0 = .ok (.aload_n 0, 1) := by decide +kernel
theorem dX12_isBarred_1 : decode cX12_isBarred 1 = .ok (.iload_n 1, 1) := by decide +kernel
theorem dX12_isBarred_2 : decode cX12_isBarred 2 = .ok (.invokevirtual 291, 3) := by decide +kernel
theorem dX12_isBarred_5 : decode cX12_isBarred 5 = .ok (.aload_n 0, 1) := by decide +kernel
theorem dX12_isBarred_6 : decode cX12_isBarred 6 = .ok (.iconst 3, 1) := by decide +kernel
theorem dX12_isBarred_7 : decode cX12_isBarred 7 = .ok (.iload_n 2, 1) := by decide +kernel
theorem dX12_isBarred_8 : decode cX12_isBarred 8 = .ok (.iconst 0, 1) := by decide +kernel
theorem dX12_isBarred_9 : decode cX12_isBarred 9 = .ok (.invokevirtual 294, 3) := by decide +kernel
theorem dX12_isBarred_12 : decode cX12_isBarred 12 = .ok (.iconst 1, 1) := by decide +kernel
theorem dX12_isBarred_13 : decode cX12_isBarred 13 = .ok (.if_icmp .ne 7, 3) := by decide +kernel
theorem dX12_isBarred_16 : decode cX12_isBarred 16 = .ok (.iconst 1, 1) := by decide +kernel
theorem dX12_isBarred_17 : decode cX12_isBarred 17 = .ok (.goto 4, 3) := by decide +kernel
theorem dX12_isBarred_20 : decode cX12_isBarred 20 = .ok (.iconst 0, 1) := by decide +kernel
theorem dX12_isBarred_21 : decode cX12_isBarred 21 = .ok (.ireturn, 1) := by decide +kernel
theorem dX12_costOf_0 : decode cX12_costOf 0 = .ok (.iconst 0, 1) := by decide +kernel
theorem dX12_costOf_1 : decode cX12_costOf 1 = .ok (.istore 6, 2) := by decide +kernel
theorem dX12_costOf_3 : decode cX12_costOf 3 = .ok (.iload 6, 2) := by decide +kernel
theorem dX12_costOf_5 : decode cX12_costOf 5 = .ok (.iconst 5, 1) := by decide +kernel
theorem dX12_costOf_6 : decode cX12_costOf 6 = .ok (.if_icmp .ge 17, 3) := by decide +kernel
theorem dX12_costOf_9 : decode cX12_costOf 9 = .ok (.aload_n 0, 1) := by decide +kernel
theorem dX12_costOf_10 : decode cX12_costOf 10 = .ok (.getfield 59, 3) := by decide +kernel
theorem dX12_costOf_13 : decode cX12_costOf 13 = .ok (.iload 6, 2) := by decide +kernel
theorem dX12_costOf_15 : decode cX12_costOf 15 = .ok (.iconst (-1), 1) := by decide +kernel
theorem dX12_costOf_16 : decode cX12_costOf 16 = .ok (.iastore, 1) := by decide +kernel
theorem dX12_costOf_17 : decode cX12_costOf 17 = .ok (.iinc 6 1, 3) := by decide +kernel
theorem dX12_costOf_20 : decode cX12_costOf 20 = .ok (.goto (-17), 3) := by decide +kernel
theorem dX12_costOf_23 : decode cX12_costOf 23 = .ok (.aload_n 0, 1) := by decide +kernel
theorem dX12_costOf_24 : decode cX12_costOf 24 = .ok (.getfield 59, 3) := by decide +kernel
theorem dX12_costOf_27 : decode cX12_costOf 27 = .ok (.iconst 5, 1) := by decide +kernel
theorem dX12_costOf_28 : decode cX12_costOf 28 = .ok (.iload_n 1, 1) := by decide +kernel
theorem dX12_costOf_29 : decode cX12_costOf 29 = .ok (.iastore, 1) := by decide +kernel
theorem dX12_costOf_30 : decode cX12_costOf 30 = .ok (.aload_n 0, 1) := by decide +kernel
theorem dX12_costOf_31 : decode cX12_costOf 31 = .ok (.getfield 59, 3) := by decide +kernel
theorem dX12_costOf_34 : decode cX12_costOf 34 = .ok (.bipush 6, 2) := by decide +kernel
theorem dX12_costOf_36 : decode cX12_costOf 36 = .ok (.iload_n 2, 1) := by decide +kernel
theorem dX12_costOf_37 : decode cX12_costOf 37 = .ok (.iastore, 1) := by decide +kernel
theorem dX12_costOf_38 : decode cX12_costOf 38 = .ok (.aload_n 0, 1) := by decide +kernel
theorem dX12_costOf_39 : decode cX12_costOf 39 = .ok (.getfield 59, 3) := by decide +kernel
theorem dX12_costOf_42 : decode cX12_costOf 42 = .ok (.bipush 7, 2) := by decide +kernel
theorem dX12_costOf_44 : decode cX12_costOf 44 = .ok (.iload_n 3, 1) := by decide +kernel
theorem dX12_costOf_45 : decode cX12_costOf 45 = .ok (.iastore, 1) := by decide +kernel
theorem dX12_costOf_46 : decode cX12_costOf 46 = .ok (.aload_n 0, 1) := by decide +kernel
theorem dX12_costOf_47 : decode cX12_costOf 47 = .ok (.getfield 59, 3) := by decide +kernel
theorem dX12_costOf_50 : decode cX12_costOf 50 = .ok (.bipush 8, 2) := by decide +kernel
theorem dX12_costOf_52 : decode cX12_costOf 52 = .ok (.iload 4, 2) := by decide +kernel
theorem dX12_costOf_54 : decode cX12_costOf 54 = .ok (.iastore, 1) := by decide +kernel
theorem dX12_costOf_55 : decode cX12_costOf 55 = .ok (.aload_n 0, 1) := by decide +kernel
theorem dX12_costOf_56 : decode cX12_costOf 56 = .ok (.getfield 59, 3) := by decide +kernel
theorem dX12_costOf_59 : decode cX12_costOf 59 = .ok (.bipush 9, 2) := by decide +kernel
theorem dX12_costOf_61 : decode cX12_costOf 61 = .ok (.iload 5, 2) := by decide +kernel
theorem dX12_costOf_63 : decode cX12_costOf 63 = .ok (.iastore, 1) := by decide +kernel
theorem dX12_costOf_64 : decode cX12_costOf 64 = .ok (.aload_n 0, 1) := by decide +kernel
theorem dX12_costOf_65 : decode cX12_costOf 65 = .ok (.iconst 2, 1) := by decide +kernel
theorem dX12_costOf_66 : decode cX12_costOf 66 = .ok (.aload_n 0, 1) := by decide +kernel
theorem dX12_costOf_67 : decode cX12_costOf 67 = .ok (.getfield 24, 3) := by decide +kernel
theorem dX12_costOf_70 : decode cX12_costOf 70 = .ok (.sipush 315, 3) := by decide +kernel
theorem dX12_costOf_73 : decode cX12_costOf 73 = .ok (.iaload, 1) := by decide +kernel
theorem dX12_costOf_74 : decode cX12_costOf 74 = .ok (.iconst 0, 1) := by decide +kernel
theorem dX12_costOf_75 : decode cX12_costOf 75 = .ok (.iload_n 2, 1) := by decide +kernel
theorem dX12_costOf_76 : decode cX12_costOf 76 = .ok (.invokestatic 298, 3) := by decide +kernel
theorem dX12_costOf_79 : decode cX12_costOf 79 = .ok (.bipush 20, 2) := by decide +kernel
theorem dX12_costOf_81 : decode cX12_costOf 81 = .ok (.iload 4, 2) := by decide +kernel
theorem dX12_costOf_83 : decode cX12_costOf 83 = .ok (.imul, 1) := by decide +kernel
theorem dX12_costOf_84 : decode cX12_costOf 84 = .ok (.iadd, 1) := by decide +kernel
theorem dX12_costOf_85 : decode cX12_costOf 85 = .ok (.invokevirtual 294, 3) := by decide +kernel
theorem dX12_costOf_88 : decode cX12_costOf 88 = .ok (.ireturn, 1) := by decide +kernel
theorem dX12_broadIn_0 : decode cX12_broadIn 0 = .ok (.iconst 0, 1) := by decide +kernel
theorem dX12_broadIn_1 : decode cX12_broadIn 1 = .ok (.istore_n 2, 1) := by decide +kernel
theorem dX12_broadIn_2 : decode cX12_broadIn 2 = .ok (.iconst 0, 1) := by decide +kernel
theorem dX12_broadIn_3 : decode cX12_broadIn 3 = .ok (.istore_n 3, 1) := by decide +kernel
theorem dX12_broadIn_4 : decode cX12_broadIn 4 = .ok (.iconst 0, 1) := by decide +kernel
theorem dX12_broadIn_5 : decode cX12_broadIn 5 = .ok (.istore 4, 2) := by decide +kernel
theorem dX12_broadIn_7 : decode cX12_broadIn 7 = .ok (.iload 4, 2) := by decide +kernel
theorem dX12_broadIn_9 : decode cX12_broadIn 9 = .ok (.aload_n 0, 1) := by decide +kernel
theorem dX12_broadIn_10 : decode cX12_broadIn 10 = .ok (.getfield 24, 3) := by decide +kernel
theorem dX12_broadIn_13 : decode cX12_broadIn 13 = .ok (.bipush 24, 2) := by decide +kernel
theorem dX12_broadIn_15 : decode cX12_broadIn 15 = .ok (.iaload, 1) := by decide +kernel
theorem dX12_broadIn_16 : decode cX12_broadIn 16 = .ok (.if_icmp .ge 76, 3) := by decide +kernel
theorem dX12_broadIn_19 : decode cX12_broadIn 19 = .ok (.aload_n 0, 1) := by decide +kernel
theorem dX12_broadIn_20 : decode cX12_broadIn 20 = .ok (.getfield 24, 3) := by decide +kernel
theorem dX12_broadIn_23 : decode cX12_broadIn 23 = .ok (.bipush 12, 2) := by decide +kernel
theorem dX12_broadIn_25 : decode cX12_broadIn 25 = .ok (.iload 4, 2) := by decide +kernel
theorem dX12_broadIn_27 : decode cX12_broadIn 27 = .ok (.iadd, 1) := by decide +kernel
theorem dX12_broadIn_28 : decode cX12_broadIn 28 = .ok (.iaload, 1) := by decide +kernel
theorem dX12_broadIn_29 : decode cX12_broadIn 29 = .ok (.iload_n 1, 1) := by decide +kernel
theorem dX12_broadIn_30 : decode cX12_broadIn 30 = .ok (.if_icmp .eq 6, 3) := by decide +kernel
theorem dX12_broadIn_33 : decode cX12_broadIn 33 = .ok (.goto 53, 3) := by decide +kernel
theorem dX12_broadIn_36 : decode cX12_broadIn 36 = .ok (.iload_n 2, 1) := by decide +kernel
theorem dX12_broadIn_37 : decode cX12_broadIn 37 = .ok (.aload_n 0, 1) := by decide +kernel
theorem dX12_broadIn_38 : decode cX12_broadIn 38 = .ok (.aload_n 0, 1) := by decide +kernel
theorem dX12_broadIn_39 : decode cX12_broadIn 39 = .ok (.getfield 24, 3) := by decide +kernel
theorem dX12_broadIn_42 : decode cX12_broadIn 42 = .ok (.iconst 0, 1) := by decide +kernel
theorem dX12_broadIn_43 : decode cX12_broadIn 43 = .ok (.iload 4, 2) := by decide +kernel
theorem dX12_broadIn_45 : decode cX12_broadIn 45 = .ok (.iadd, 1) := by decide +kernel
theorem dX12_broadIn_46 : decode cX12_broadIn 46 = .ok (.iaload, 1) := by decide +kernel
theorem dX12_broadIn_47 : decode cX12_broadIn 47 = .ok (.aload_n 0, 1) := by decide +kernel
theorem dX12_broadIn_48 : decode cX12_broadIn 48 = .ok (.getfield 24, 3) := by decide +kernel
theorem dX12_broadIn_51 : decode cX12_broadIn 51 = .ok (.sipush 315, 3) := by decide +kernel
theorem dX12_broadIn_54 : decode cX12_broadIn 54 = .ok (.iaload, 1) := by decide +kernel
theorem dX12_broadIn_55 : decode cX12_broadIn 55 = .ok (.invokevirtual 131, 3) := by decide +kernel
theorem dX12_broadIn_58 : decode cX12_broadIn 58 = .ok (.iload_n 3, 1) := by decide +kernel
theorem dX12_broadIn_59 : decode cX12_broadIn 59 = .ok (.ifCond .le 20, 3) := by decide +kernel
theorem dX12_broadIn_62 : decode cX12_broadIn 62 = .ok (.aload_n 0, 1) := by decide +kernel
theorem dX12_broadIn_63 : decode cX12_broadIn 63 = .ok (.bipush 26, 2) := by decide +kernel
theorem dX12_broadIn_65 : decode cX12_broadIn 65 = .ok (.aload_n 0, 1) := by decide +kernel
theorem dX12_broadIn_66 : decode cX12_broadIn 66 = .ok (.getfield 24, 3) := by decide +kernel
theorem dX12_broadIn_69 : decode cX12_broadIn 69 = .ok (.sipush 315, 3) := by decide +kernel
theorem dX12_broadIn_72 : decode cX12_broadIn 72 = .ok (.iaload, 1) := by decide +kernel
theorem dX12_broadIn_73 : decode cX12_broadIn 73 = .ok (.invokevirtual 124, 3) := by decide +kernel
theorem dX12_broadIn_76 : decode cX12_broadIn 76 = .ok (.goto 4, 3) := by decide +kernel
theorem dX12_broadIn_79 : decode cX12_broadIn 79 = .ok (.iconst 0, 1) := by decide +kernel
theorem dX12_broadIn_80 : decode cX12_broadIn 80 = .ok (.iadd, 1) := by decide +kernel
theorem dX12_broadIn_81 : decode cX12_broadIn 81 = .ok (.iadd, 1) := by decide +kernel
theorem dX12_broadIn_82 : decode cX12_broadIn 82 = .ok (.istore_n 2, 1) := by decide +kernel
theorem dX12_broadIn_83 : decode cX12_broadIn 83 = .ok (.iinc 3 1, 3) := by decide +kernel
theorem dX12_broadIn_86 : decode cX12_broadIn 86 = .ok (.iinc 4 1, 3) := by decide +kernel
theorem dX12_broadIn_89 : decode cX12_broadIn 89 = .ok (.goto (-82), 3) := by decide +kernel
theorem dX12_broadIn_92 : decode cX12_broadIn 92 = .ok (.iload_n 2, 1) := by decide +kernel
theorem dX12_broadIn_93 : decode cX12_broadIn 93 = .ok (.ireturn, 1) := by decide +kernel
theorem dX12_manyIn_0 : decode cX12_manyIn 0 = .ok (.iconst 0, 1) := by decide +kernel
theorem dX12_manyIn_1 : decode cX12_manyIn 1 = .ok (.istore_n 2, 1) := by decide +kernel
theorem dX12_manyIn_2 : decode cX12_manyIn 2 = .ok (.iconst 0, 1) := by decide +kernel
theorem dX12_manyIn_3 : decode cX12_manyIn 3 = .ok (.istore_n 3, 1) := by decide +kernel
theorem dX12_manyIn_4 : decode cX12_manyIn 4 = .ok (.iload_n 3, 1) := by decide +kernel
theorem dX12_manyIn_5 : decode cX12_manyIn 5 = .ok (.aload_n 0, 1) := by decide +kernel
theorem dX12_manyIn_6 : decode cX12_manyIn 6 = .ok (.getfield 24, 3) := by decide +kernel
theorem dX12_manyIn_9 : decode cX12_manyIn 9 = .ok (.bipush 24, 2) := by decide +kernel
theorem dX12_manyIn_11 : decode cX12_manyIn 11 = .ok (.iaload, 1) := by decide +kernel
theorem dX12_manyIn_12 : decode cX12_manyIn 12 = .ok (.if_icmp .ge 30, 3) := by decide +kernel
theorem dX12_manyIn_15 : decode cX12_manyIn 15 = .ok (.iload_n 2, 1) := by decide +kernel
theorem dX12_manyIn_16 : decode cX12_manyIn 16 = .ok (.aload_n 0, 1) := by decide +kernel
theorem dX12_manyIn_17 : decode cX12_manyIn 17 = .ok (.getfield 24, 3) := by decide +kernel
theorem dX12_manyIn_20 : decode cX12_manyIn 20 = .ok (.bipush 12, 2) := by decide +kernel
theorem dX12_manyIn_22 : decode cX12_manyIn 22 = .ok (.iload_n 3, 1) := by decide +kernel
theorem dX12_manyIn_23 : decode cX12_manyIn 23 = .ok (.iadd, 1) := by decide +kernel
theorem dX12_manyIn_24 : decode cX12_manyIn 24 = .ok (.iaload, 1) := by decide +kernel
theorem dX12_manyIn_25 : decode cX12_manyIn 25 = .ok (.iload_n 1, 1) := by decide +kernel
theorem dX12_manyIn_26 : decode cX12_manyIn 26 = .ok (.if_icmp .ne 7, 3) := by decide +kernel
theorem dX12_manyIn_29 : decode cX12_manyIn 29 = .ok (.iconst 1, 1) := by decide +kernel
theorem dX12_manyIn_30 : decode cX12_manyIn 30 = .ok (.goto 4, 3) := by decide +kernel
theorem dX12_manyIn_33 : decode cX12_manyIn 33 = .ok (.iconst 0, 1) := by decide +kernel
theorem dX12_manyIn_34 : decode cX12_manyIn 34 = .ok (.iadd, 1) := by decide +kernel
theorem dX12_manyIn_35 : decode cX12_manyIn 35 = .ok (.istore_n 2, 1) := by decide +kernel
theorem dX12_manyIn_36 : decode cX12_manyIn 36 = .ok (.iinc 3 1, 3) := by decide +kernel
theorem dX12_manyIn_39 : decode cX12_manyIn 39 = .ok (.goto (-35), 3) := by decide +kernel
theorem dX12_manyIn_42 : decode cX12_manyIn 42 = .ok (.iload_n 2, 1) := by decide +kernel
theorem dX12_manyIn_43 : decode cX12_manyIn 43 = .ok (.ireturn, 1) := by decide +kernel
theorem dX12_firstIn_0 : decode cX12_firstIn 0 = .ok (.iconst 0, 1) := by decide +kernel
theorem dX12_firstIn_1 : decode cX12_firstIn 1 = .ok (.istore_n 2, 1) := by decide +kernel
theorem dX12_firstIn_2 : decode cX12_firstIn 2 = .ok (.iload_n 2, 1) := by decide +kernel
theorem dX12_firstIn_3 : decode cX12_firstIn 3 = .ok (.aload_n 0, 1) := by decide +kernel
theorem dX12_firstIn_4 : decode cX12_firstIn 4 = .ok (.getfield 24, 3) := by decide +kernel
theorem dX12_firstIn_7 : decode cX12_firstIn 7 = .ok (.bipush 24, 2) := by decide +kernel
theorem dX12_firstIn_9 : decode cX12_firstIn 9 = .ok (.iaload, 1) := by decide +kernel
theorem dX12_firstIn_10 : decode cX12_firstIn 10 = .ok (.if_icmp .ge 31, 3) := by decide +kernel
theorem dX12_firstIn_13 : decode cX12_firstIn 13 = .ok (.aload_n 0, 1) := by decide +kernel
theorem dX12_firstIn_14 : decode cX12_firstIn 14 = .ok (.getfield 24, 3) := by decide +kernel
theorem dX12_firstIn_17 : decode cX12_firstIn 17 = .ok (.bipush 12, 2) := by decide +kernel
theorem dX12_firstIn_19 : decode cX12_firstIn 19 = .ok (.iload_n 2, 1) := by decide +kernel
theorem dX12_firstIn_20 : decode cX12_firstIn 20 = .ok (.iadd, 1) := by decide +kernel
theorem dX12_firstIn_21 : decode cX12_firstIn 21 = .ok (.iaload, 1) := by decide +kernel
theorem dX12_firstIn_22 : decode cX12_firstIn 22 = .ok (.iload_n 1, 1) := by decide +kernel
theorem dX12_firstIn_23 : decode cX12_firstIn 23 = .ok (.if_icmp .ne 12, 3) := by decide +kernel
theorem dX12_firstIn_26 : decode cX12_firstIn 26 = .ok (.aload_n 0, 1) := by decide +kernel
theorem dX12_firstIn_27 : decode cX12_firstIn 27 = .ok (.getfield 24, 3) := by decide +kernel
theorem dX12_firstIn_30 : decode cX12_firstIn 30 = .ok (.iconst 0, 1) := by decide +kernel
theorem dX12_firstIn_31 : decode cX12_firstIn 31 = .ok (.iload_n 2, 1) := by decide +kernel
theorem dX12_firstIn_32 : decode cX12_firstIn 32 = .ok (.iadd, 1) := by decide +kernel
theorem dX12_firstIn_33 : decode cX12_firstIn 33 = .ok (.iaload, 1) := by decide +kernel
theorem dX12_firstIn_34 : decode cX12_firstIn 34 = .ok (.ireturn, 1) := by decide +kernel
theorem dX12_firstIn_35 : decode cX12_firstIn 35 = .ok (.iinc 2 1, 3) := by decide +kernel
theorem dX12_firstIn_38 : decode cX12_firstIn 38 = .ok (.goto (-36), 3) := by decide +kernel
theorem dX12_firstIn_41 : decode cX12_firstIn 41 = .ok (.iconst (-1), 1) := by decide +kernel
theorem dX12_firstIn_42 : decode cX12_firstIn 42 = .ok (.ireturn, 1) := by decide +kernel
theorem dX12_alikeIn_0 : decode cX12_alikeIn 0 = .ok (.iload_n 1, 1) := by decide +kernel
theorem dX12_alikeIn_1 : decode cX12_alikeIn 1 = .ok (.ifCond .eq 23, 3) := by decide +kernel
theorem dX12_alikeIn_4 : decode cX12_alikeIn 4 = .ok (.aload_n 0, 1) := by decide +kernel
theorem dX12_alikeIn_5 : decode cX12_alikeIn 5 = .ok (.iload_n 1, 1) := by decide +kernel
theorem dX12_alikeIn_6 : decode cX12_alikeIn 6 = .ok (.invokevirtual 301, 3) := by decide +kernel
theorem dX12_alikeIn_9 : decode cX12_alikeIn 9 = .ok (.iconst (-1), 1) := by decide +kernel
theorem dX12_alikeIn_10 : decode cX12_alikeIn 10 = .ok (.if_icmp .eq 14, 3) := by decide +kernel
theorem dX12_alikeIn_13 : decode cX12_alikeIn 13 = .ok (.aload_n 0, 1) := by decide +kernel
theorem dX12_alikeIn_14 : decode cX12_alikeIn 14 = .ok (.iload_n 1, 1) := by decide +kernel
theorem dX12_alikeIn_15 : decode cX12_alikeIn 15 = .ok (.iconst 1, 1) := by decide +kernel
theorem dX12_alikeIn_16 : decode cX12_alikeIn 16 = .ok (.isub, 1) := by decide +kernel
theorem dX12_alikeIn_17 : decode cX12_alikeIn 17 = .ok (.invokevirtual 301, 3) := by decide +kernel
theorem dX12_alikeIn_20 : decode cX12_alikeIn 20 = .ok (.iconst (-1), 1) := by decide +kernel
theorem dX12_alikeIn_21 : decode cX12_alikeIn 21 = .ok (.if_icmp .ne 5, 3) := by decide +kernel
theorem dX12_alikeIn_24 : decode cX12_alikeIn 24 = .ok (.iconst 0, 1) := by decide +kernel
theorem dX12_alikeIn_25 : decode cX12_alikeIn 25 = .ok (.ireturn, 1) := by decide +kernel
theorem dX12_alikeIn_26 : decode cX12_alikeIn 26 = .ok (.aload_n 0, 1) := by decide +kernel
theorem dX12_alikeIn_27 : decode cX12_alikeIn 27 = .ok (.aload_n 0, 1) := by decide +kernel
theorem dX12_alikeIn_28 : decode cX12_alikeIn 28 = .ok (.iload_n 1, 1) := by decide +kernel
theorem dX12_alikeIn_29 : decode cX12_alikeIn 29 = .ok (.invokevirtual 301, 3) := by decide +kernel
theorem dX12_alikeIn_32 : decode cX12_alikeIn 32 = .ok (.iconst 4, 1) := by decide +kernel
theorem dX12_alikeIn_33 : decode cX12_alikeIn 33 = .ok (.invokevirtual 120, 3) := by decide +kernel
theorem dX12_alikeIn_36 : decode cX12_alikeIn 36 = .ok (.aload_n 0, 1) := by decide +kernel
theorem dX12_alikeIn_37 : decode cX12_alikeIn 37 = .ok (.aload_n 0, 1) := by decide +kernel
theorem dX12_alikeIn_38 : decode cX12_alikeIn 38 = .ok (.iload_n 1, 1) := by decide +kernel
theorem dX12_alikeIn_39 : decode cX12_alikeIn 39 = .ok (.iconst 1, 1) := by decide +kernel
theorem dX12_alikeIn_40 : decode cX12_alikeIn 40 = .ok (.isub, 1) := by decide +kernel
theorem dX12_alikeIn_41 : decode cX12_alikeIn 41 = .ok (.invokevirtual 301, 3) := by decide +kernel
theorem dX12_alikeIn_44 : decode cX12_alikeIn 44 = .ok (.iconst 4, 1) := by decide +kernel
theorem dX12_alikeIn_45 : decode cX12_alikeIn 45 = .ok (.invokevirtual 120, 3) := by decide +kernel
theorem dX12_alikeIn_48 : decode cX12_alikeIn 48 = .ok (.if_icmp .ne 7, 3) := by decide +kernel
theorem dX12_alikeIn_51 : decode cX12_alikeIn 51 = .ok (.iconst 1, 1) := by decide +kernel
theorem dX12_alikeIn_52 : decode cX12_alikeIn 52 = .ok (.goto 4, 3) := by decide +kernel
theorem dX12_alikeIn_55 : decode cX12_alikeIn 55 = .ok (.iconst 0, 1) := by decide +kernel
theorem dX12_alikeIn_56 : decode cX12_alikeIn 56 = .ok (.ireturn, 1) := by decide +kernel
theorem dX12_echoIn_0 : decode cX12_echoIn 0 = .ok (.iconst 0, 1) := by decide +kernel
theorem dX12_echoIn_1 : decode cX12_echoIn 1 = .ok (.istore_n 2, 1) := by decide +kernel
theorem dX12_echoIn_2 : decode cX12_echoIn 2 = .ok (.iconst 0, 1) := by decide +kernel
theorem dX12_echoIn_3 : decode cX12_echoIn 3 = .ok (.istore_n 3, 1) := by decide +kernel
theorem dX12_echoIn_4 : decode cX12_echoIn 4 = .ok (.iload_n 3, 1) := by decide +kernel
theorem dX12_echoIn_5 : decode cX12_echoIn 5 = .ok (.aload_n 0, 1) := by decide +kernel
theorem dX12_echoIn_6 : decode cX12_echoIn 6 = .ok (.getfield 24, 3) := by decide +kernel
theorem dX12_echoIn_9 : decode cX12_echoIn 9 = .ok (.bipush 24, 2) := by decide +kernel
theorem dX12_echoIn_11 : decode cX12_echoIn 11 = .ok (.iaload, 1) := by decide +kernel
theorem dX12_echoIn_12 : decode cX12_echoIn 12 = .ok (.if_icmp .ge 49, 3) := by decide +kernel
theorem dX12_echoIn_15 : decode cX12_echoIn 15 = .ok (.aload_n 0, 1) := by decide +kernel
theorem dX12_echoIn_16 : decode cX12_echoIn 16 = .ok (.getfield 24, 3) := by decide +kernel
theorem dX12_echoIn_19 : decode cX12_echoIn 19 = .ok (.bipush 12, 2) := by decide +kernel
theorem dX12_echoIn_21 : decode cX12_echoIn 21 = .ok (.iload_n 3, 1) := by decide +kernel
theorem dX12_echoIn_22 : decode cX12_echoIn 22 = .ok (.iadd, 1) := by decide +kernel
theorem dX12_echoIn_23 : decode cX12_echoIn 23 = .ok (.iaload, 1) := by decide +kernel
theorem dX12_echoIn_24 : decode cX12_echoIn 24 = .ok (.iload_n 1, 1) := by decide +kernel
theorem dX12_echoIn_25 : decode cX12_echoIn 25 = .ok (.if_icmp .ne 28, 3) := by decide +kernel
theorem dX12_echoIn_28 : decode cX12_echoIn 28 = .ok (.aload_n 0, 1) := by decide +kernel
theorem dX12_echoIn_29 : decode cX12_echoIn 29 = .ok (.getfield 24, 3) := by decide +kernel
theorem dX12_echoIn_32 : decode cX12_echoIn 32 = .ok (.iconst 0, 1) := by decide +kernel
theorem dX12_echoIn_33 : decode cX12_echoIn 33 = .ok (.iload_n 3, 1) := by decide +kernel
theorem dX12_echoIn_34 : decode cX12_echoIn 34 = .ok (.iadd, 1) := by decide +kernel
theorem dX12_echoIn_35 : decode cX12_echoIn 35 = .ok (.iaload, 1) := by decide +kernel
theorem dX12_echoIn_36 : decode cX12_echoIn 36 = .ok (.aload_n 0, 1) := by decide +kernel
theorem dX12_echoIn_37 : decode cX12_echoIn 37 = .ok (.getfield 24, 3) := by decide +kernel
theorem dX12_echoIn_40 : decode cX12_echoIn 40 = .ok (.sipush 275, 3) := by decide +kernel
theorem dX12_echoIn_43 : decode cX12_echoIn 43 = .ok (.iload_n 1, 1) := by decide +kernel
theorem dX12_echoIn_44 : decode cX12_echoIn 44 = .ok (.iadd, 1) := by decide +kernel
theorem dX12_echoIn_45 : decode cX12_echoIn 45 = .ok (.iaload, 1) := by decide +kernel
theorem dX12_echoIn_46 : decode cX12_echoIn 46 = .ok (.if_icmp .ne 7, 3) := by decide +kernel
theorem dX12_echoIn_49 : decode cX12_echoIn 49 = .ok (.iconst 1, 1) := by decide +kernel
theorem dX12_echoIn_50 : decode cX12_echoIn 50 = .ok (.goto 4, 3) := by decide +kernel
theorem dX12_echoIn_53 : decode cX12_echoIn 53 = .ok (.iload_n 2, 1) := by decide +kernel
theorem dX12_echoIn_54 : decode cX12_echoIn 54 = .ok (.istore_n 2, 1) := by decide +kernel
theorem dX12_echoIn_55 : decode cX12_echoIn 55 = .ok (.iinc 3 1, 3) := by decide +kernel
theorem dX12_echoIn_58 : decode cX12_echoIn 58 = .ok (.goto (-54), 3) := by decide +kernel
theorem dX12_echoIn_61 : decode cX12_echoIn 61 = .ok (.iload_n 2, 1) := by decide +kernel
theorem dX12_echoIn_62 : decode cX12_echoIn 62 = .ok (.ireturn, 1) := by decide +kernel
theorem dX12_costIn_0 : decode cX12_costIn 0 = .ok (.aload_n 0, 1) := by decide +kernel
theorem dX12_costIn_1 : decode cX12_costIn 1 = .ok (.iload_n 1, 1) := by decide +kernel
theorem dX12_costIn_2 : decode cX12_costIn 2 = .ok (.invokevirtual 304, 3) := by decide +kernel
theorem dX12_costIn_5 : decode cX12_costIn 5 = .ok (.ifCond .ne 7, 3) := by decide +kernel
theorem dX12_costIn_8 : decode cX12_costIn 8 = .ok (.iconst 0, 1) := by decide +kernel
theorem dX12_costIn_9 : decode cX12_costIn 9 = .ok (.goto 37, 3) := by decide +kernel
theorem dX12_costIn_12 : decode cX12_costIn 12 = .ok (.aload_n 0, 1) := by decide +kernel
theorem dX12_costIn_13 : decode cX12_costIn 13 = .ok (.iload_n 1, 1) := by decide +kernel
theorem dX12_costIn_14 : decode cX12_costIn 14 = .ok (.aload_n 0, 1) := by decide +kernel
theorem dX12_costIn_15 : decode cX12_costIn 15 = .ok (.getfield 24, 3) := by decide +kernel
theorem dX12_costIn_18 : decode cX12_costIn 18 = .ok (.sipush 313, 3) := by decide +kernel
theorem dX12_costIn_21 : decode cX12_costIn 21 = .ok (.iaload, 1) := by decide +kernel
theorem dX12_costIn_22 : decode cX12_costIn 22 = .ok (.aload_n 0, 1) := by decide +kernel
theorem dX12_costIn_23 : decode cX12_costIn 23 = .ok (.iload_n 1, 1) := by decide +kernel
theorem dX12_costIn_24 : decode cX12_costIn 24 = .ok (.invokevirtual 270, 3) := by decide +kernel
theorem dX12_costIn_27 : decode cX12_costIn 27 = .ok (.isub, 1) := by decide +kernel
theorem dX12_costIn_28 : decode cX12_costIn 28 = .ok (.aload_n 0, 1) := by decide +kernel
theorem dX12_costIn_29 : decode cX12_costIn 29 = .ok (.iload_n 1, 1) := by decide +kernel
theorem dX12_costIn_30 : decode cX12_costIn 30 = .ok (.invokevirtual 304, 3) := by decide +kernel
theorem dX12_costIn_33 : decode cX12_costIn 33 = .ok (.aload_n 0, 1) := by decide +kernel
theorem dX12_costIn_34 : decode cX12_costIn 34 = .ok (.iload_n 1, 1) := by decide +kernel
theorem dX12_costIn_35 : decode cX12_costIn 35 = .ok (.invokevirtual 307, 3) := by decide +kernel
theorem dX12_costIn_38 : decode cX12_costIn 38 = .ok (.aload_n 0, 1) := by decide +kernel
theorem dX12_costIn_39 : decode cX12_costIn 39 = .ok (.iload_n 1, 1) := by decide +kernel
theorem dX12_costIn_40 : decode cX12_costIn 40 = .ok (.invokevirtual 310, 3) := by decide +kernel
theorem dX12_costIn_43 : decode cX12_costIn 43 = .ok (.invokevirtual 313, 3) := by decide +kernel
theorem dX12_costIn_46 : decode cX12_costIn 46 = .ok (.ireturn, 1) := by decide +kernel
theorem dX12_head_0 : decode cX12_head 0 = .ok (.iload_n 1, 1) := by decide +kernel
theorem dX12_head_1 : decode cX12_head 1 = .ok (.iconst 0, 1) := by decide +kernel
theorem dX12_head_2 : decode cX12_head 2 = .ok (.aload_n 0, 1) := by decide +kernel
theorem dX12_head_3 : decode cX12_head 3 = .ok (.getfield 24, 3) := by decide +kernel
theorem dX12_head_6 : decode cX12_head 6 = .ok (.bipush 24, 2) := by decide +kernel
theorem dX12_head_8 : decode cX12_head 8 = .ok (.iaload, 1) := by decide +kernel
theorem dX12_head_9 : decode cX12_head 9 = .ok (.iconst 1, 1) := by decide +kernel
theorem dX12_head_10 : decode cX12_head 10 = .ok (.isub, 1) := by decide +kernel
theorem dX12_head_11 : decode cX12_head 11 = .ok (.invokestatic 101, 3) := by decide +kernel
theorem dX12_head_14 : decode cX12_head 14 = .ok (.ifCond .eq 12, 3) := by decide +kernel
theorem dX12_head_17 : decode cX12_head 17 = .ok (.iload_n 2, 1) := by decide +kernel
theorem dX12_head_18 : decode cX12_head 18 = .ok (.iconst 0, 1) := by decide +kernel
theorem dX12_head_19 : decode cX12_head 19 = .ok (.iconst 1, 1) := by decide +kernel
theorem dX12_head_20 : decode cX12_head 20 = .ok (.invokestatic 101, 3) := by decide +kernel
theorem dX12_head_23 : decode cX12_head 23 = .ok (.ifCond .ne 7, 3) := by decide +kernel
theorem dX12_head_26 : decode cX12_head 26 = .ok (.iconst (-1), 1) := by decide +kernel
theorem dX12_head_27 : decode cX12_head 27 = .ok (.goto 16, 3) := by decide +kernel
theorem dX12_head_30 : decode cX12_head 30 = .ok (.aload_n 0, 1) := by decide +kernel
theorem dX12_head_31 : decode cX12_head 31 = .ok (.getfield 24, 3) := by decide +kernel
theorem dX12_head_34 : decode cX12_head 34 = .ok (.iconst 0, 1) := by decide +kernel
theorem dX12_head_35 : decode cX12_head 35 = .ok (.bipush 12, 2) := by decide +kernel
theorem dX12_head_37 : decode cX12_head 37 = .ok (.iload_n 2, 1) := by decide +kernel
theorem dX12_head_38 : decode cX12_head 38 = .ok (.imul, 1) := by decide +kernel
theorem dX12_head_39 : decode cX12_head 39 = .ok (.iadd, 1) := by decide +kernel
theorem dX12_head_40 : decode cX12_head 40 = .ok (.iload_n 1, 1) := by decide +kernel
theorem dX12_head_41 : decode cX12_head 41 = .ok (.iadd, 1) := by decide +kernel
theorem dX12_head_42 : decode cX12_head 42 = .ok (.iaload, 1) := by decide +kernel
theorem dX12_head_43 : decode cX12_head 43 = .ok (.ireturn, 1) := by decide +kernel
theorem dX12_line_0 : decode cX12_line 0 = .ok (.iload_n 1, 1) := by decide +kernel
theorem dX12_line_1 : decode cX12_line 1 = .ok (.iconst 0, 1) := by decide +kernel
theorem dX12_line_2 : decode cX12_line 2 = .ok (.iconst 3, 1) := by decide +kernel
theorem dX12_line_3 : decode cX12_line 3 = .ok (.invokestatic 101, 3) := by decide +kernel
theorem dX12_line_6 : decode cX12_line 6 = .ok (.ifCond .ne 5, 3) := by decide +kernel
theorem dX12_line_9 : decode cX12_line 9 = .ok (.iconst (-1), 1) := by decide +kernel
theorem dX12_line_10 : decode cX12_line 10 = .ok (.ireturn, 1) := by decide +kernel
theorem dX12_line_11 : decode cX12_line 11 = .ok (.iload_n 2, 1) := by decide +kernel
theorem dX12_line_12 : decode cX12_line 12 = .ok (.tableswitch 66 0 4 #[36, 42, 48, 54, 60], 36) := by decide +kernel
theorem dX12_line_48 : decode cX12_line 48 = .ok (.aload_n 0, 1) := by decide +kernel
theorem dX12_line_49 : decode cX12_line 49 = .ok (.iload_n 1, 1) := by decide +kernel
theorem dX12_line_50 : decode cX12_line 50 = .ok (.invokevirtual 270, 3) := by decide +kernel
theorem dX12_line_53 : decode cX12_line 53 = .ok (.ireturn, 1) := by decide +kernel
theorem dX12_line_54 : decode cX12_line 54 = .ok (.aload_n 0, 1) := by decide +kernel
theorem dX12_line_55 : decode cX12_line 55 = .ok (.iload_n 1, 1) := by decide +kernel
theorem dX12_line_56 : decode cX12_line 56 = .ok (.invokevirtual 304, 3) := by decide +kernel
theorem dX12_line_59 : decode cX12_line 59 = .ok (.ireturn, 1) := by decide +kernel
theorem dX12_line_60 : decode cX12_line 60 = .ok (.aload_n 0, 1) := by decide +kernel
theorem dX12_line_61 : decode cX12_line 61 = .ok (.iload_n 1, 1) := by decide +kernel
theorem dX12_line_62 : decode cX12_line 62 = .ok (.invokevirtual 317, 3) := by decide +kernel
theorem dX12_line_65 : decode cX12_line 65 = .ok (.ireturn, 1) := by decide +kernel
theorem dX12_line_66 : decode cX12_line 66 = .ok (.aload_n 0, 1) := by decide +kernel
theorem dX12_line_67 : decode cX12_line 67 = .ok (.iload_n 1, 1) := by decide +kernel
theorem dX12_line_68 : decode cX12_line 68 = .ok (.invokevirtual 307, 3) := by decide +kernel
theorem dX12_line_71 : decode cX12_line 71 = .ok (.ireturn, 1) := by decide +kernel
theorem dX12_line_72 : decode cX12_line 72 = .ok (.aload_n 0, 1) := by decide +kernel
theorem dX12_line_73 : decode cX12_line 73 = .ok (.iload_n 1, 1) := by decide +kernel
theorem dX12_line_74 : decode cX12_line 74 = .ok (.invokevirtual 310, 3) := by decide +kernel
theorem dX12_line_77 : decode cX12_line 77 = .ok (.ireturn, 1) := by decide +kernel
theorem dX12_line_78 : decode cX12_line 78 = .ok (.iconst (-1), 1) := by decide +kernel
theorem dX12_line_79 : decode cX12_line 79 = .ok (.ireturn, 1) := by decide +kernel
theorem dX12_cost_0 : decode cX12_cost 0 = .ok (.iconst 0, 1) := by decide +kernel
theorem dX12_cost_1 : decode cX12_cost 1 = .ok (.istore_n 1, 1) := by decide +kernel
theorem dX12_cost_2 : decode cX12_cost 2 = .ok (.iconst 0, 1) := by decide +kernel
theorem dX12_cost_3 : decode cX12_cost 3 = .ok (.istore_n 2, 1) := by decide +kernel
theorem dX12_cost_4 : decode cX12_cost 4 = .ok (.iload_n 2, 1) := by decide +kernel
theorem dX12_cost_5 : decode cX12_cost 5 = .ok (.aload_n 0, 1) := by decide +kernel
theorem dX12_cost_6 : decode cX12_cost 6 = .ok (.getfield 24, 3) := by decide +kernel
theorem dX12_cost_9 : decode cX12_cost 9 = .ok (.bipush 24, 2) := by decide +kernel
theorem dX12_cost_11 : decode cX12_cost 11 = .ok (.iaload, 1) := by decide +kernel
theorem dX12_cost_12 : decode cX12_cost 12 = .ok (.if_icmp .ge 24, 3) := by decide +kernel
theorem dX12_cost_15 : decode cX12_cost 15 = .ok (.iload_n 1, 1) := by decide +kernel
theorem dX12_cost_16 : decode cX12_cost 16 = .ok (.aload_n 0, 1) := by decide +kernel
theorem dX12_cost_17 : decode cX12_cost 17 = .ok (.aload_n 0, 1) := by decide +kernel
theorem dX12_cost_18 : decode cX12_cost 18 = .ok (.getfield 24, 3) := by decide +kernel
theorem dX12_cost_21 : decode cX12_cost 21 = .ok (.iconst 0, 1) := by decide +kernel
theorem dX12_cost_22 : decode cX12_cost 22 = .ok (.iload_n 2, 1) := by decide +kernel
theorem dX12_cost_23 : decode cX12_cost 23 = .ok (.iadd, 1) := by decide +kernel
theorem dX12_cost_24 : decode cX12_cost 24 = .ok (.iaload, 1) := by decide +kernel
theorem dX12_cost_25 : decode cX12_cost 25 = .ok (.invokevirtual 134, 3) := by decide +kernel
theorem dX12_cost_28 : decode cX12_cost 28 = .ok (.iadd, 1) := by decide +kernel
theorem dX12_cost_29 : decode cX12_cost 29 = .ok (.istore_n 1, 1) := by decide +kernel
theorem dX12_cost_30 : decode cX12_cost 30 = .ok (.iinc 2 1, 3) := by decide +kernel
theorem dX12_cost_33 : decode cX12_cost 33 = .ok (.goto (-29), 3) := by decide +kernel
theorem dX12_cost_36 : decode cX12_cost 36 = .ok (.iconst 0, 1) := by decide +kernel
theorem dX12_cost_37 : decode cX12_cost 37 = .ok (.istore_n 2, 1) := by decide +kernel
theorem dX12_cost_38 : decode cX12_cost 38 = .ok (.iload_n 2, 1) := by decide +kernel
theorem dX12_cost_39 : decode cX12_cost 39 = .ok (.iconst 4, 1) := by decide +kernel
theorem dX12_cost_40 : decode cX12_cost 40 = .ok (.if_icmp .ge 17, 3) := by decide +kernel
theorem dX12_cost_43 : decode cX12_cost 43 = .ok (.iload_n 1, 1) := by decide +kernel
theorem dX12_cost_44 : decode cX12_cost 44 = .ok (.aload_n 0, 1) := by decide +kernel
theorem dX12_cost_45 : decode cX12_cost 45 = .ok (.iload_n 2, 1) := by decide +kernel
theorem dX12_cost_46 : decode cX12_cost 46 = .ok (.invokevirtual 317, 3) := by decide +kernel
theorem dX12_cost_49 : decode cX12_cost 49 = .ok (.iadd, 1) := by decide +kernel
theorem dX12_cost_50 : decode cX12_cost 50 = .ok (.istore_n 1, 1) := by decide +kernel
theorem dX12_cost_51 : decode cX12_cost 51 = .ok (.iinc 2 1, 3) := by decide +kernel
theorem dX12_cost_54 : decode cX12_cost 54 = .ok (.goto (-16), 3) := by decide +kernel
theorem dX12_cost_57 : decode cX12_cost 57 = .ok (.iload_n 1, 1) := by decide +kernel
theorem dX12_cost_58 : decode cX12_cost 58 = .ok (.ireturn, 1) := by decide +kernel
theorem dX12_keeps_0 : decode cX12_keeps 0 = .ok (.bipush 27, 2) := by decide +kernel
theorem dX12_keeps_2 : decode cX12_keeps 2 = .ok (.istore_n 2, 1) := by decide +kernel
theorem dX12_keeps_3 : decode cX12_keeps 3 = .ok (.aload_n 0, 1) := by decide +kernel
theorem dX12_keeps_4 : decode cX12_keeps 4 = .ok (.getfield 11, 3) := by decide +kernel
theorem dX12_keeps_7 : decode cX12_keeps 7 = .ok (.bipush 16, 2) := by decide +kernel
theorem dX12_keeps_9 : decode cX12_keeps 9 = .ok (.if_icmp .ne 43, 3) := by decide +kernel
theorem dX12_keeps_12 : decode cX12_keeps 12 = .ok (.iconst 0, 1) := by decide +kernel
theorem dX12_keeps_13 : decode cX12_keeps 13 = .ok (.istore_n 3, 1) := by decide +kernel
theorem dX12_keeps_14 : decode cX12_keeps 14 = .ok (.iload_n 3, 1) := by decide +kernel
theorem dX12_keeps_15 : decode cX12_keeps 15 = .ok (.bipush 15, 2) := by decide +kernel
theorem dX12_keeps_17 : decode cX12_keeps 17 = .ok (.iload_n 2, 1) := by decide +kernel
theorem dX12_keeps_18 : decode cX12_keeps 18 = .ok (.imul, 1) := by decide +kernel
theorem dX12_keeps_19 : decode cX12_keeps 19 = .ok (.if_icmp .ge 23, 3) := by decide +kernel
theorem dX12_keeps_22 : decode cX12_keeps 22 = .ok (.aload_n 0, 1) := by decide +kernel
theorem dX12_keeps_23 : decode cX12_keeps 23 = .ok (.getfield 62, 3) := by decide +kernel
theorem dX12_keeps_26 : decode cX12_keeps 26 = .ok (.iload_n 3, 1) := by decide +kernel
theorem dX12_keeps_27 : decode cX12_keeps 27 = .ok (.aload_n 0, 1) := by decide +kernel
theorem dX12_keeps_28 : decode cX12_keeps 28 = .ok (.getfield 62, 3) := by decide +kernel
theorem dX12_keeps_31 : decode cX12_keeps 31 = .ok (.iload_n 3, 1) := by decide +kernel
theorem dX12_keeps_32 : decode cX12_keeps 32 = .ok (.iload_n 2, 1) := by decide +kernel
theorem dX12_keeps_33 : decode cX12_keeps 33 = .ok (.iadd, 1) := by decide +kernel
theorem dX12_keeps_34 : decode cX12_keeps 34 = .ok (.iaload, 1) := by decide +kernel
theorem dX12_keeps_35 : decode cX12_keeps 35 = .ok (.iastore, 1) := by decide +kernel
theorem dX12_keeps_36 : decode cX12_keeps 36 = .ok (.iinc 3 1, 3) := by decide +kernel
theorem dX12_keeps_39 : decode cX12_keeps 39 = .ok (.goto (-25), 3) := by decide +kernel
theorem dX12_keeps_42 : decode cX12_keeps 42 = .ok (.aload_n 0, 1) := by decide +kernel
theorem dX12_keeps_43 : decode cX12_keeps 43 = .ok (.dup, 1) := by decide +kernel
theorem dX12_keeps_44 : decode cX12_keeps 44 = .ok (.getfield 11, 3) := by decide +kernel
theorem dX12_keeps_47 : decode cX12_keeps 47 = .ok (.iconst 1, 1) := by decide +kernel
theorem dX12_keeps_48 : decode cX12_keeps 48 = .ok (.isub, 1) := by decide +kernel
theorem dX12_keeps_49 : decode cX12_keeps 49 = .ok (.putfield 11, 3) := by decide +kernel
theorem dX12_keeps_52 : decode cX12_keeps 52 = .ok (.iconst 0, 1) := by decide +kernel
theorem dX12_keeps_53 : decode cX12_keeps 53 = .ok (.istore_n 3, 1) := by decide +kernel
theorem dX12_keeps_54 : decode cX12_keeps 54 = .ok (.iload_n 3, 1) := by decide +kernel
theorem dX12_keeps_55 : decode cX12_keeps 55 = .ok (.bipush 26, 2) := by decide +kernel
theorem dX12_keeps_57 : decode cX12_keeps 57 = .ok (.if_icmp .ge 28, 3) := by decide +kernel
theorem dX12_keeps_60 : decode cX12_keeps 60 = .ok (.aload_n 0, 1) := by decide +kernel
theorem dX12_keeps_61 : decode cX12_keeps 61 = .ok (.getfield 62, 3) := by decide +kernel
theorem dX12_keeps_64 : decode cX12_keeps 64 = .ok (.iload_n 2, 1) := by decide +kernel
theorem dX12_keeps_65 : decode cX12_keeps 65 = .ok (.aload_n 0, 1) := by decide +kernel
theorem dX12_keeps_66 : decode cX12_keeps 66 = .ok (.getfield 11, 3) := by decide +kernel
theorem dX12_keeps_69 : decode cX12_keeps 69 = .ok (.imul, 1) := by decide +kernel
theorem dX12_keeps_70 : decode cX12_keeps 70 = .ok (.iload_n 3, 1) := by decide +kernel
theorem dX12_keeps_71 : decode cX12_keeps 71 = .ok (.iadd, 1) := by decide +kernel
theorem dX12_keeps_72 : decode cX12_keeps 72 = .ok (.aload_n 0, 1) := by decide +kernel
theorem dX12_keeps_73 : decode cX12_keeps 73 = .ok (.getfield 24, 3) := by decide +kernel
theorem dX12_keeps_76 : decode cX12_keeps 76 = .ok (.iload_n 3, 1) := by decide +kernel
theorem dX12_keeps_77 : decode cX12_keeps 77 = .ok (.iaload, 1) := by decide +kernel
theorem dX12_keeps_78 : decode cX12_keeps 78 = .ok (.iastore, 1) := by decide +kernel
theorem dX12_keeps_79 : decode cX12_keeps 79 = .ok (.iinc 3 1, 3) := by decide +kernel
theorem dX12_keeps_82 : decode cX12_keeps 82 = .ok (.goto (-28), 3) := by decide +kernel
theorem dX12_keeps_85 : decode cX12_keeps 85 = .ok (.aload_n 0, 1) := by decide +kernel
theorem dX12_keeps_86 : decode cX12_keeps 86 = .ok (.getfield 62, 3) := by decide +kernel
theorem dX12_keeps_89 : decode cX12_keeps 89 = .ok (.iload_n 2, 1) := by decide +kernel
theorem dX12_keeps_90 : decode cX12_keeps 90 = .ok (.aload_n 0, 1) := by decide +kernel
theorem dX12_keeps_91 : decode cX12_keeps 91 = .ok (.getfield 11, 3) := by decide +kernel
theorem dX12_keeps_94 : decode cX12_keeps 94 = .ok (.imul, 1) := by decide +kernel
theorem dX12_keeps_95 : decode cX12_keeps 95 = .ok (.bipush 26, 2) := by decide +kernel
theorem dX12_keeps_97 : decode cX12_keeps 97 = .ok (.iadd, 1) := by decide +kernel
theorem dX12_keeps_98 : decode cX12_keeps 98 = .ok (.iload_n 1, 1) := by decide +kernel
theorem dX12_keeps_99 : decode cX12_keeps 99 = .ok (.iastore, 1) := by decide +kernel
theorem dX12_keeps_100 : decode cX12_keeps 100 = .ok (.aload_n 0, 1) := by decide +kernel
theorem dX12_keeps_101 : decode cX12_keeps 101 = .ok (.dup, 1) := by decide +kernel
theorem dX12_keeps_102 : decode cX12_keeps 102 = .ok (.getfield 11, 3) := by decide +kernel
theorem dX12_keeps_105 : decode cX12_keeps 105 = .ok (.iconst 1, 1) := by decide +kernel
theorem dX12_keeps_106 : decode cX12_keeps 106 = .ok (.iadd, 1) := by decide +kernel
theorem dX12_keeps_107 : decode cX12_keeps 107 = .ok (.putfield 11, 3) := by decide +kernel
theorem dX12_keeps_110 : decode cX12_keeps 110 = .ok (.return_, 1) := by decide +kernel
theorem dX12_undo_0 : decode cX12_undo 0 = .ok (.aload_n 0, 1) := by decide +kernel
theorem dX12_undo_1 : decode cX12_undo 1 = .ok (.getfield 11, 3) := by decide +kernel
theorem dX12_undo_4 : decode cX12_undo 4 = .ok (.ifCond .ne 10, 3) := by decide +kernel
theorem dX12_undo_7 : decode cX12_undo 7 = .ok (.aload_n 0, 1) := by decide +kernel
theorem dX12_undo_8 : decode cX12_undo 8 = .ok (.bipush (-3), 2) := by decide +kernel
theorem dX12_undo_10 : decode cX12_undo 10 = .ok (.invokevirtual 105, 3) := by decide +kernel
theorem dX12_undo_13 : decode cX12_undo 13 = .ok (.ireturn, 1) := by decide +kernel
theorem dX12_undo_14 : decode cX12_undo 14 = .ok (.aload_n 0, 1) := by decide +kernel
theorem dX12_undo_15 : decode cX12_undo 15 = .ok (.dup, 1) := by decide +kernel
theorem dX12_undo_16 : decode cX12_undo 16 = .ok (.getfield 11, 3) := by decide +kernel
theorem dX12_undo_19 : decode cX12_undo 19 = .ok (.iconst 1, 1) := by decide +kernel
theorem dX12_undo_20 : decode cX12_undo 20 = .ok (.isub, 1) := by decide +kernel
theorem dX12_undo_21 : decode cX12_undo 21 = .ok (.putfield 11, 3) := by decide +kernel
theorem dX12_undo_24 : decode cX12_undo 24 = .ok (.bipush 27, 2) := by decide +kernel
theorem dX12_undo_26 : decode cX12_undo 26 = .ok (.aload_n 0, 1) := by decide +kernel
theorem dX12_undo_27 : decode cX12_undo 27 = .ok (.getfield 11, 3) := by decide +kernel
theorem dX12_undo_30 : decode cX12_undo 30 = .ok (.imul, 1) := by decide +kernel
theorem dX12_undo_31 : decode cX12_undo 31 = .ok (.istore_n 1, 1) := by decide +kernel
theorem dX12_undo_32 : decode cX12_undo 32 = .ok (.iconst 0, 1) := by decide +kernel
theorem dX12_undo_33 : decode cX12_undo 33 = .ok (.istore_n 2, 1) := by decide +kernel
theorem dX12_undo_34 : decode cX12_undo 34 = .ok (.iload_n 2, 1) := by decide +kernel
theorem dX12_undo_35 : decode cX12_undo 35 = .ok (.bipush 26, 2) := by decide +kernel
theorem dX12_undo_37 : decode cX12_undo 37 = .ok (.if_icmp .ge 23, 3) := by decide +kernel
theorem dX12_undo_40 : decode cX12_undo 40 = .ok (.aload_n 0, 1) := by decide +kernel
theorem dX12_undo_41 : decode cX12_undo 41 = .ok (.getfield 24, 3) := by decide +kernel
theorem dX12_undo_44 : decode cX12_undo 44 = .ok (.iload_n 2, 1) := by decide +kernel
theorem dX12_undo_45 : decode cX12_undo 45 = .ok (.aload_n 0, 1) := by decide +kernel
theorem dX12_undo_46 : decode cX12_undo 46 = .ok (.getfield 62, 3) := by decide +kernel
theorem dX12_undo_49 : decode cX12_undo 49 = .ok (.iload_n 1, 1) := by decide +kernel
theorem dX12_undo_50 : decode cX12_undo 50 = .ok (.iload_n 2, 1) := by decide +kernel
theorem dX12_undo_51 : decode cX12_undo 51 = .ok (.iadd, 1) := by decide +kernel
theorem dX12_undo_52 : decode cX12_undo 52 = .ok (.iaload, 1) := by decide +kernel
theorem dX12_undo_53 : decode cX12_undo 53 = .ok (.iastore, 1) := by decide +kernel
theorem dX12_undo_54 : decode cX12_undo 54 = .ok (.iinc 2 1, 3) := by decide +kernel
theorem dX12_undo_57 : decode cX12_undo 57 = .ok (.goto (-23), 3) := by decide +kernel
theorem dX12_undo_60 : decode cX12_undo 60 = .ok (.aload_n 0, 1) := by decide +kernel
theorem dX12_undo_61 : decode cX12_undo 61 = .ok (.aload_n 0, 1) := by decide +kernel
theorem dX12_undo_62 : decode cX12_undo 62 = .ok (.getfield 62, 3) := by decide +kernel
theorem dX12_undo_65 : decode cX12_undo 65 = .ok (.iload_n 1, 1) := by decide +kernel
theorem dX12_undo_66 : decode cX12_undo 66 = .ok (.bipush 26, 2) := by decide +kernel
theorem dX12_undo_68 : decode cX12_undo 68 = .ok (.iadd, 1) := by decide +kernel
theorem dX12_undo_69 : decode cX12_undo 69 = .ok (.iaload, 1) := by decide +kernel
theorem dX12_undo_70 : decode cX12_undo 70 = .ok (.invokevirtual 14, 3) := by decide +kernel
theorem dX12_undo_73 : decode cX12_undo 73 = .ok (.ireturn, 1) := by decide +kernel
theorem dX12_goodOr_0 : decode cX12_goodOr 0 = .ok (.iload_n 1, 1) := by decide +kernel
theorem dX12_goodOr_1 : decode cX12_goodOr 1 = .ok (.ifCond .ge 11, 3) := by decide +kernel
theorem dX12_goodOr_4 : decode cX12_goodOr 4 = .ok (.aload_n 0, 1) := by decide +kernel
theorem dX12_goodOr_5 : decode cX12_goodOr 5 = .ok (.iload_n 1, 1) := by decide +kernel
theorem dX12_goodOr_6 : decode cX12_goodOr 6 = .ok (.invokevirtual 105, 3) := by decide +kernel
theorem dX12_goodOr_9 : decode cX12_goodOr 9 = .ok (.goto 8, 3) := by decide +kernel
theorem dX12_goodOr_12 : decode cX12_goodOr 12 = .ok (.aload_n 0, 1) := by decide +kernel
theorem dX12_goodOr_13 : decode cX12_goodOr 13 = .ok (.iload_n 1, 1) := by decide +kernel
theorem dX12_goodOr_14 : decode cX12_goodOr 14 = .ok (.invokevirtual 14, 3) := by decide +kernel
theorem dX12_goodOr_17 : decode cX12_goodOr 17 = .ok (.ireturn, 1) := by decide +kernel
theorem dX12_setsKept_0 : decode cX12_setsKept 0 = .ok (.aload_n 0, 1) := by decide +kernel
theorem dX12_setsKept_1 : decode cX12_setsKept 1 = .ok (.iload_n 1, 1) := by decide +kernel
theorem dX12_setsKept_2 : decode cX12_setsKept 2 = .ok (.invokevirtual 127, 3) := by decide +kernel
theorem dX12_setsKept_5 : decode cX12_setsKept 5 = .ok (.ifCond .ne 6, 3) := by decide +kernel
theorem dX12_setsKept_8 : decode cX12_setsKept 8 = .ok (.bipush (-2), 2) := by decide +kernel
theorem dX12_setsKept_10 : decode cX12_setsKept 10 = .ok (.ireturn, 1) := by decide +kernel
theorem dX12_setsKept_11 : decode cX12_setsKept 11 = .ok (.aload_n 0, 1) := by decide +kernel
theorem dX12_setsKept_12 : decode cX12_setsKept 12 = .ok (.getfield 24, 3) := by decide +kernel
theorem dX12_setsKept_15 : decode cX12_setsKept 15 = .ok (.bipush 25, 2) := by decide +kernel
theorem dX12_setsKept_17 : decode cX12_setsKept 17 = .ok (.iaload, 1) := by decide +kernel
theorem dX12_setsKept_18 : decode cX12_setsKept 18 = .ok (.istore_n 2, 1) := by decide +kernel
theorem dX12_setsKept_19 : decode cX12_setsKept 19 = .ok (.aload_n 0, 1) := by decide +kernel
theorem dX12_setsKept_20 : decode cX12_setsKept 20 = .ok (.iload_n 2, 1) := by decide +kernel
theorem dX12_setsKept_21 : decode cX12_setsKept 21 = .ok (.invokevirtual 270, 3) := by decide +kernel
theorem dX12_setsKept_24 : decode cX12_setsKept 24 = .ok (.aload_n 0, 1) := by decide +kernel
theorem dX12_setsKept_25 : decode cX12_setsKept 25 = .ok (.iload_n 1, 1) := by decide +kernel
theorem dX12_setsKept_26 : decode cX12_setsKept 26 = .ok (.aload_n 0, 1) := by decide +kernel
theorem dX12_setsKept_27 : decode cX12_setsKept 27 = .ok (.getfield 24, 3) := by decide +kernel
theorem dX12_setsKept_30 : decode cX12_setsKept 30 = .ok (.sipush 315, 3) := by decide +kernel
theorem dX12_setsKept_33 : decode cX12_setsKept 33 = .ok (.iaload, 1) := by decide +kernel
theorem dX12_setsKept_34 : decode cX12_setsKept 34 = .ok (.invokevirtual 131, 3) := by decide +kernel
theorem dX12_setsKept_37 : decode cX12_setsKept 37 = .ok (.iadd, 1) := by decide +kernel
theorem dX12_setsKept_38 : decode cX12_setsKept 38 = .ok (.aload_n 0, 1) := by decide +kernel
theorem dX12_setsKept_39 : decode cX12_setsKept 39 = .ok (.iload_n 2, 1) := by decide +kernel
theorem dX12_setsKept_40 : decode cX12_setsKept 40 = .ok (.invokevirtual 304, 3) := by decide +kernel
theorem dX12_setsKept_43 : decode cX12_setsKept 43 = .ok (.ifCond .le 20, 3) := by decide +kernel
theorem dX12_setsKept_46 : decode cX12_setsKept 46 = .ok (.aload_n 0, 1) := by decide +kernel
theorem dX12_setsKept_47 : decode cX12_setsKept 47 = .ok (.bipush 26, 2) := by decide +kernel
theorem dX12_setsKept_49 : decode cX12_setsKept 49 = .ok (.aload_n 0, 1) := by decide +kernel
theorem dX12_setsKept_50 : decode cX12_setsKept 50 = .ok (.getfield 24, 3) := by decide +kernel
theorem dX12_setsKept_53 : decode cX12_setsKept 53 = .ok (.sipush 315, 3) := by decide +kernel
theorem dX12_setsKept_56 : decode cX12_setsKept 56 = .ok (.iaload, 1) := by decide +kernel
theorem dX12_setsKept_57 : decode cX12_setsKept 57 = .ok (.invokevirtual 124, 3) := by decide +kernel
theorem dX12_setsKept_60 : decode cX12_setsKept 60 = .ok (.goto 4, 3) := by decide +kernel
theorem dX12_setsKept_63 : decode cX12_setsKept 63 = .ok (.iconst 0, 1) := by decide +kernel
theorem dX12_setsKept_64 : decode cX12_setsKept 64 = .ok (.iadd, 1) := by decide +kernel
theorem dX12_setsKept_65 : decode cX12_setsKept 65 = .ok (.istore_n 3, 1) := by decide +kernel
theorem dX12_setsKept_66 : decode cX12_setsKept 66 = .ok (.iload_n 3, 1) := by decide +kernel
theorem dX12_setsKept_67 : decode cX12_setsKept 67 = .ok (.aload_n 0, 1) := by decide +kernel
theorem dX12_setsKept_68 : decode cX12_setsKept 68 = .ok (.getfield 24, 3) := by decide +kernel
theorem dX12_setsKept_71 : decode cX12_setsKept 71 = .ok (.sipush 313, 3) := by decide +kernel
theorem dX12_setsKept_74 : decode cX12_setsKept 74 = .ok (.iaload, 1) := by decide +kernel
theorem dX12_setsKept_75 : decode cX12_setsKept 75 = .ok (.if_icmp .gt 19, 3) := by decide +kernel
theorem dX12_setsKept_78 : decode cX12_setsKept 78 = .ok (.aload_n 0, 1) := by decide +kernel
theorem dX12_setsKept_79 : decode cX12_setsKept 79 = .ok (.iload_n 1, 1) := by decide +kernel
theorem dX12_setsKept_80 : decode cX12_setsKept 80 = .ok (.aload_n 0, 1) := by decide +kernel
theorem dX12_setsKept_81 : decode cX12_setsKept 81 = .ok (.getfield 24, 3) := by decide +kernel
theorem dX12_setsKept_84 : decode cX12_setsKept 84 = .ok (.sipush 315, 3) := by decide +kernel
theorem dX12_setsKept_87 : decode cX12_setsKept 87 = .ok (.iaload, 1) := by decide +kernel
theorem dX12_setsKept_88 : decode cX12_setsKept 88 = .ok (.invokevirtual 137, 3) := by decide +kernel
theorem dX12_setsKept_91 : decode cX12_setsKept 91 = .ok (.ifCond .eq 6, 3) := by decide +kernel
theorem dX12_setsKept_94 : decode cX12_setsKept 94 = .ok (.bipush (-3), 2) := by decide +kernel
theorem dX12_setsKept_96 : decode cX12_setsKept 96 = .ok (.ireturn, 1) := by decide +kernel
theorem dX12_setsKept_97 : decode cX12_setsKept 97 = .ok (.aload_n 0, 1) := by decide +kernel
theorem dX12_setsKept_98 : decode cX12_setsKept 98 = .ok (.getfield 24, 3) := by decide +kernel
theorem dX12_setsKept_101 : decode cX12_setsKept 101 = .ok (.bipush 24, 2) := by decide +kernel
theorem dX12_setsKept_103 : decode cX12_setsKept 103 = .ok (.iaload, 1) := by decide +kernel
theorem dX12_setsKept_104 : decode cX12_setsKept 104 = .ok (.bipush 12, 2) := by decide +kernel
theorem dX12_setsKept_106 : decode cX12_setsKept 106 = .ok (.if_icmp .ne 6, 3) := by decide +kernel
theorem dX12_setsKept_109 : decode cX12_setsKept 109 = .ok (.bipush (-5), 2) := by decide +kernel
theorem dX12_setsKept_111 : decode cX12_setsKept 111 = .ok (.ireturn, 1) := by decide +kernel
theorem dX12_setsKept_112 : decode cX12_setsKept 112 = .ok (.aload_n 0, 1) := by decide +kernel
theorem dX12_setsKept_113 : decode cX12_setsKept 113 = .ok (.iconst 0, 1) := by decide +kernel
theorem dX12_setsKept_114 : decode cX12_setsKept 114 = .ok (.invokevirtual 320, 3) := by decide +kernel
theorem dX12_setsKept_117 : decode cX12_setsKept 117 = .ok (.aload_n 0, 1) := by decide +kernel
theorem dX12_setsKept_118 : decode cX12_setsKept 118 = .ok (.getfield 24, 3) := by decide +kernel
theorem dX12_setsKept_121 : decode cX12_setsKept 121 = .ok (.iconst 0, 1) := by decide +kernel
theorem dX12_setsKept_122 : decode cX12_setsKept 122 = .ok (.aload_n 0, 1) := by decide +kernel
theorem dX12_setsKept_123 : decode cX12_setsKept 123 = .ok (.getfield 24, 3) := by decide +kernel
theorem dX12_setsKept_126 : decode cX12_setsKept 126 = .ok (.bipush 24, 2) := by decide +kernel
theorem dX12_setsKept_128 : decode cX12_setsKept 128 = .ok (.iaload, 1) := by decide +kernel
theorem dX12_setsKept_129 : decode cX12_setsKept 129 = .ok (.iadd, 1) := by decide +kernel
theorem dX12_setsKept_130 : decode cX12_setsKept 130 = .ok (.iload_n 1, 1) := by decide +kernel
theorem dX12_setsKept_131 : decode cX12_setsKept 131 = .ok (.iastore, 1) := by decide +kernel
theorem dX12_setsKept_132 : decode cX12_setsKept 132 = .ok (.aload_n 0, 1) := by decide +kernel
theorem dX12_setsKept_133 : decode cX12_setsKept 133 = .ok (.getfield 24, 3) := by decide +kernel
theorem dX12_setsKept_136 : decode cX12_setsKept 136 = .ok (.bipush 12, 2) := by decide +kernel
theorem dX12_setsKept_138 : decode cX12_setsKept 138 = .ok (.aload_n 0, 1) := by decide +kernel
theorem dX12_setsKept_139 : decode cX12_setsKept 139 = .ok (.getfield 24, 3) := by decide +kernel
theorem dX12_setsKept_142 : decode cX12_setsKept 142 = .ok (.bipush 24, 2) := by decide +kernel
theorem dX12_setsKept_144 : decode cX12_setsKept 144 = .ok (.iaload, 1) := by decide +kernel
theorem dX12_setsKept_145 : decode cX12_setsKept 145 = .ok (.iadd, 1) := by decide +kernel
theorem dX12_setsKept_146 : decode cX12_setsKept 146 = .ok (.iload_n 2, 1) := by decide +kernel
theorem dX12_setsKept_147 : decode cX12_setsKept 147 = .ok (.iastore, 1) := by decide +kernel
theorem dX12_setsKept_148 : decode cX12_setsKept 148 = .ok (.aload_n 0, 1) := by decide +kernel
theorem dX12_setsKept_149 : decode cX12_setsKept 149 = .ok (.getfield 24, 3) := by decide +kernel
theorem dX12_setsKept_152 : decode cX12_setsKept 152 = .ok (.bipush 24, 2) := by decide +kernel
theorem dX12_setsKept_154 : decode cX12_setsKept 154 = .ok (.dup2, 1) := by decide +kernel
theorem dX12_setsKept_155 : decode cX12_setsKept 155 = .ok (.iaload, 1) := by decide +kernel
theorem dX12_setsKept_156 : decode cX12_setsKept 156 = .ok (.iconst 1, 1) := by decide +kernel
theorem dX12_setsKept_157 : decode cX12_setsKept 157 = .ok (.iadd, 1) := by decide +kernel
theorem dX12_setsKept_158 : decode cX12_setsKept 158 = .ok (.iastore, 1) := by decide +kernel
theorem dX12_setsKept_159 : decode cX12_setsKept 159 = .ok (.aload_n 0, 1) := by decide +kernel
theorem dX12_setsKept_160 : decode cX12_setsKept 160 = .ok (.getfield 24, 3) := by decide +kernel
theorem dX12_setsKept_163 : decode cX12_setsKept 163 = .ok (.sipush 313, 3) := by decide +kernel
theorem dX12_setsKept_166 : decode cX12_setsKept 166 = .ok (.iaload, 1) := by decide +kernel
theorem dX12_setsKept_167 : decode cX12_setsKept 167 = .ok (.iload_n 3, 1) := by decide +kernel
theorem dX12_setsKept_168 : decode cX12_setsKept 168 = .ok (.isub, 1) := by decide +kernel
theorem dX12_setsKept_169 : decode cX12_setsKept 169 = .ok (.ireturn, 1) := by decide +kernel
theorem dX12_turnsKept_0 : decode cX12_turnsKept 0 = .ok (.aload_n 0, 1) := by decide +kernel
theorem dX12_turnsKept_1 : decode cX12_turnsKept 1 = .ok (.aload_n 0, 1) := by decide +kernel
theorem dX12_turnsKept_2 : decode cX12_turnsKept 2 = .ok (.getfield 24, 3) := by decide +kernel
theorem dX12_turnsKept_5 : decode cX12_turnsKept 5 = .ok (.bipush 25, 2) := by decide +kernel
theorem dX12_turnsKept_7 : decode cX12_turnsKept 7 = .ok (.iaload, 1) := by decide +kernel
theorem dX12_turnsKept_8 : decode cX12_turnsKept 8 = .ok (.invokevirtual 304, 3) := by decide +kernel
theorem dX12_turnsKept_11 : decode cX12_turnsKept 11 = .ok (.ifCond .eq 23, 3) := by decide +kernel
theorem dX12_turnsKept_14 : decode cX12_turnsKept 14 = .ok (.aload_n 0, 1) := by decide +kernel
theorem dX12_turnsKept_15 : decode cX12_turnsKept 15 = .ok (.getfield 24, 3) := by decide +kernel
theorem dX12_turnsKept_18 : decode cX12_turnsKept 18 = .ok (.bipush 25, 2) := by decide +kernel
theorem dX12_turnsKept_20 : decode cX12_turnsKept 20 = .ok (.iaload, 1) := by decide +kernel
theorem dX12_turnsKept_21 : decode cX12_turnsKept 21 = .ok (.iconst 1, 1) := by decide +kernel
theorem dX12_turnsKept_22 : decode cX12_turnsKept 22 = .ok (.iadd, 1) := by decide +kernel
theorem dX12_turnsKept_23 : decode cX12_turnsKept 23 = .ok (.aload_n 0, 1) := by decide +kernel
theorem dX12_turnsKept_24 : decode cX12_turnsKept 24 = .ok (.getfield 24, 3) := by decide +kernel
theorem dX12_turnsKept_27 : decode cX12_turnsKept 27 = .ok (.sipush 314, 3) := by decide +kernel
theorem dX12_turnsKept_30 : decode cX12_turnsKept 30 = .ok (.iaload, 1) := by decide +kernel
theorem dX12_turnsKept_31 : decode cX12_turnsKept 31 = .ok (.if_icmp .lt 6, 3) := by decide +kernel
theorem dX12_turnsKept_34 : decode cX12_turnsKept 34 = .ok (.bipush (-3), 2) := by decide +kernel
theorem dX12_turnsKept_36 : decode cX12_turnsKept 36 = .ok (.ireturn, 1) := by decide +kernel
theorem dX12_turnsKept_37 : decode cX12_turnsKept 37 = .ok (.aload_n 0, 1) := by decide +kernel
theorem dX12_turnsKept_38 : decode cX12_turnsKept 38 = .ok (.iconst 1, 1) := by decide +kernel
theorem dX12_turnsKept_39 : decode cX12_turnsKept 39 = .ok (.invokevirtual 320, 3) := by decide +kernel
theorem dX12_turnsKept_42 : decode cX12_turnsKept 42 = .ok (.aload_n 0, 1) := by decide +kernel
theorem dX12_turnsKept_43 : decode cX12_turnsKept 43 = .ok (.getfield 24, 3) := by decide +kernel
theorem dX12_turnsKept_46 : decode cX12_turnsKept 46 = .ok (.bipush 25, 2) := by decide +kernel
theorem dX12_turnsKept_48 : decode cX12_turnsKept 48 = .ok (.dup2, 1) := by decide +kernel
theorem dX12_turnsKept_49 : decode cX12_turnsKept 49 = .ok (.iaload, 1) := by decide +kernel
theorem dX12_turnsKept_50 : decode cX12_turnsKept 50 = .ok (.iconst 1, 1) := by decide +kernel
theorem dX12_turnsKept_51 : decode cX12_turnsKept 51 = .ok (.iadd, 1) := by decide +kernel
theorem dX12_turnsKept_52 : decode cX12_turnsKept 52 = .ok (.iastore, 1) := by decide +kernel
theorem dX12_turnsKept_53 : decode cX12_turnsKept 53 = .ok (.aload_n 0, 1) := by decide +kernel
theorem dX12_turnsKept_54 : decode cX12_turnsKept 54 = .ok (.getfield 24, 3) := by decide +kernel
theorem dX12_turnsKept_57 : decode cX12_turnsKept 57 = .ok (.bipush 25, 2) := by decide +kernel
theorem dX12_turnsKept_59 : decode cX12_turnsKept 59 = .ok (.iaload, 1) := by decide +kernel
theorem dX12_turnsKept_60 : decode cX12_turnsKept 60 = .ok (.ireturn, 1) := by decide +kernel
theorem dX12_clearsKept_0 : decode cX12_clearsKept 0 = .ok (.aload_n 0, 1) := by decide +kernel
theorem dX12_clearsKept_1 : decode cX12_clearsKept 1 = .ok (.getfield 24, 3) := by decide +kernel
theorem dX12_clearsKept_4 : decode cX12_clearsKept 4 = .ok (.bipush 24, 2) := by decide +kernel
theorem dX12_clearsKept_6 : decode cX12_clearsKept 6 = .ok (.iaload, 1) := by decide +kernel
theorem dX12_clearsKept_7 : decode cX12_clearsKept 7 = .ok (.istore_n 1, 1) := by decide +kernel
theorem dX12_clearsKept_8 : decode cX12_clearsKept 8 = .ok (.iload_n 1, 1) := by decide +kernel
theorem dX12_clearsKept_9 : decode cX12_clearsKept 9 = .ok (.ifCond .ne 6, 3) := by decide +kernel
theorem dX12_clearsKept_12 : decode cX12_clearsKept 12 = .ok (.bipush (-3), 2) := by decide +kernel
theorem dX12_clearsKept_14 : decode cX12_clearsKept 14 = .ok (.ireturn, 1) := by decide +kernel
theorem dX12_clearsKept_15 : decode cX12_clearsKept 15 = .ok (.aload_n 0, 1) := by decide +kernel
theorem dX12_clearsKept_16 : decode cX12_clearsKept 16 = .ok (.iconst 2, 1) := by decide +kernel
theorem dX12_clearsKept_17 : decode cX12_clearsKept 17 = .ok (.invokevirtual 320, 3) := by decide +kernel
theorem dX12_clearsKept_20 : decode cX12_clearsKept 20 = .ok (.aload_n 0, 1) := by decide +kernel
theorem dX12_clearsKept_21 : decode cX12_clearsKept 21 = .ok (.getfield 24, 3) := by decide +kernel
theorem dX12_clearsKept_24 : decode cX12_clearsKept 24 = .ok (.bipush 24, 2) := by decide +kernel
theorem dX12_clearsKept_26 : decode cX12_clearsKept 26 = .ok (.iconst 0, 1) := by decide +kernel
theorem dX12_clearsKept_27 : decode cX12_clearsKept 27 = .ok (.iastore, 1) := by decide +kernel
theorem dX12_clearsKept_28 : decode cX12_clearsKept 28 = .ok (.aload_n 0, 1) := by decide +kernel
theorem dX12_clearsKept_29 : decode cX12_clearsKept 29 = .ok (.getfield 24, 3) := by decide +kernel
theorem dX12_clearsKept_32 : decode cX12_clearsKept 32 = .ok (.bipush 25, 2) := by decide +kernel
theorem dX12_clearsKept_34 : decode cX12_clearsKept 34 = .ok (.iconst 0, 1) := by decide +kernel
theorem dX12_clearsKept_35 : decode cX12_clearsKept 35 = .ok (.iastore, 1) := by decide +kernel
theorem dX12_clearsKept_36 : decode cX12_clearsKept 36 = .ok (.iload_n 1, 1) := by decide +kernel
theorem dX12_clearsKept_37 : decode cX12_clearsKept 37 = .ok (.ireturn, 1) := by decide +kernel
theorem dX12_set_0 : decode cX12_set 0 = .ok (.aload_n 0, 1) := by decide +kernel
theorem dX12_set_1 : decode cX12_set 1 = .ok (.aload_n 0, 1) := by decide +kernel
theorem dX12_set_2 : decode cX12_set 2 = .ok (.iload_n 1, 1) := by decide +kernel
theorem dX12_set_3 : decode cX12_set 3 = .ok (.invokevirtual 323, 3) := by decide +kernel
theorem dX12_set_6 : decode cX12_set 6 = .ok (.invokevirtual 114, 3) := by decide +kernel
theorem dX12_set_9 : decode cX12_set 9 = .ok (.ireturn, 1) := by decide +kernel
theorem dX12_turn_0 : decode cX12_turn 0 = .ok (.aload_n 0, 1) := by decide +kernel
theorem dX12_turn_1 : decode cX12_turn 1 = .ok (.aload_n 0, 1) := by decide +kernel
theorem dX12_turn_2 : decode cX12_turn 2 = .ok (.invokevirtual 326, 3) := by decide +kernel
theorem dX12_turn_5 : decode cX12_turn 5 = .ok (.invokevirtual 114, 3) := by decide +kernel
theorem dX12_turn_8 : decode cX12_turn 8 = .ok (.ireturn, 1) := by decide +kernel
theorem dX12_clear_0 : decode cX12_clear 0 = .ok (.aload_n 0, 1) := by decide +kernel
theorem dX12_clear_1 : decode cX12_clear 1 = .ok (.aload_n 0, 1) := by decide +kernel
theorem dX12_clear_2 : decode cX12_clear 2 = .ok (.invokevirtual 330, 3) := by decide +kernel
theorem dX12_clear_5 : decode cX12_clear 5 = .ok (.invokevirtual 114, 3) := by decide +kernel
theorem dX12_clear_8 : decode cX12_clear 8 = .ok (.ireturn, 1) := by decide +kernel
theorem dX12_said_0 : decode cX12_said 0 = .ok (.aload_n 0, 1) := by decide +kernel
theorem dX12_said_1 : decode cX12_said 1 = .ok (.getfield 24, 3) := by decide +kernel
theorem dX12_said_4 : decode cX12_said 4 = .ok (.sipush 317, 3) := by decide +kernel
theorem dX12_said_7 : decode cX12_said 7 = .ok (.iaload, 1) := by decide +kernel
theorem dX12_said_8 : decode cX12_said 8 = .ok (.ireturn, 1) := by decide +kernel
theorem dX12_lists_0 : decode cX12_lists 0 = .ok (.aload_n 0, 1) := by decide +kernel
theorem dX12_lists_1 : decode cX12_lists 1 = .ok (.aload_n 0, 1) := by decide +kernel
theorem dX12_lists_2 : decode cX12_lists 2 = .ok (.invokevirtual 333, 3) := by decide +kernel
theorem dX12_lists_5 : decode cX12_lists 5 = .ok (.ifCond .ne 7, 3) := by decide +kernel
theorem dX12_lists_8 : decode cX12_lists 8 = .ok (.iconst 0, 1) := by decide +kernel
theorem dX12_lists_9 : decode cX12_lists 9 = .ok (.goto 4, 3) := by decide +kernel
theorem dX12_lists_12 : decode cX12_lists 12 = .ok (.iconst 1, 1) := by decide +kernel
theorem dX12_lists_13 : decode cX12_lists 13 = .ok (.putfield 336, 3) := by decide +kernel
theorem dX12_lists_16 : decode cX12_lists 16 = .ok (.aload_n 0, 1) := by decide +kernel
theorem dX12_lists_17 : decode cX12_lists 17 = .ok (.iconst 1, 1) := by decide +kernel
theorem dX12_lists_18 : decode cX12_lists 18 = .ok (.putfield 339, 3) := by decide +kernel
theorem dX12_lists_21 : decode cX12_lists 21 = .ok (.aload_n 0, 1) := by decide +kernel
theorem dX12_lists_22 : decode cX12_lists 22 = .ok (.aload_n 0, 1) := by decide +kernel
theorem dX12_lists_23 : decode cX12_lists 23 = .ok (.bipush 26, 2) := by decide +kernel
theorem dX12_lists_25 : decode cX12_lists 25 = .ok (.iload_n 1, 1) := by decide +kernel
theorem dX12_lists_26 : decode cX12_lists 26 = .ok (.invokevirtual 124, 3) := by decide +kernel
theorem dX12_lists_29 : decode cX12_lists 29 = .ok (.putfield 342, 3) := by decide +kernel
theorem dX12_lists_32 : decode cX12_lists 32 = .ok (.iconst 0, 1) := by decide +kernel
theorem dX12_lists_33 : decode cX12_lists 33 = .ok (.istore_n 2, 1) := by decide +kernel
theorem dX12_lists_34 : decode cX12_lists 34 = .ok (.iload_n 2, 1) := by decide +kernel
theorem dX12_lists_35 : decode cX12_lists 35 = .ok (.aload_n 0, 1) := by decide +kernel
theorem dX12_lists_36 : decode cX12_lists 36 = .ok (.getfield 24, 3) := by decide +kernel
theorem dX12_lists_39 : decode cX12_lists 39 = .ok (.sipush 316, 3) := by decide +kernel
theorem dX12_lists_42 : decode cX12_lists 42 = .ok (.iaload, 1) := by decide +kernel
theorem dX12_lists_43 : decode cX12_lists 43 = .ok (.if_icmp .ge 32, 3) := by decide +kernel
theorem dX12_lists_46 : decode cX12_lists 46 = .ok (.aload_n 0, 1) := by decide +kernel
theorem dX12_lists_47 : decode cX12_lists 47 = .ok (.getfield 80, 3) := by decide +kernel
theorem dX12_lists_50 : decode cX12_lists 50 = .ok (.iload_n 2, 1) := by decide +kernel
theorem dX12_lists_51 : decode cX12_lists 51 = .ok (.aload_n 0, 1) := by decide +kernel
theorem dX12_lists_52 : decode cX12_lists 52 = .ok (.iload_n 2, 1) := by decide +kernel
theorem dX12_lists_53 : decode cX12_lists 53 = .ok (.iload_n 1, 1) := by decide +kernel
theorem dX12_lists_54 : decode cX12_lists 54 = .ok (.invokevirtual 131, 3) := by decide +kernel
theorem dX12_lists_57 : decode cX12_lists 57 = .ok (.iastore, 1) := by decide +kernel
theorem dX12_lists_58 : decode cX12_lists 58 = .ok (.aload_n 0, 1) := by decide +kernel
theorem dX12_lists_59 : decode cX12_lists 59 = .ok (.getfield 83, 3) := by decide +kernel
theorem dX12_lists_62 : decode cX12_lists 62 = .ok (.iload_n 2, 1) := by decide +kernel
theorem dX12_lists_63 : decode cX12_lists 63 = .ok (.aload_n 0, 1) := by decide +kernel
theorem dX12_lists_64 : decode cX12_lists 64 = .ok (.iload_n 2, 1) := by decide +kernel
theorem dX12_lists_65 : decode cX12_lists 65 = .ok (.invokevirtual 134, 3) := by decide +kernel
theorem dX12_lists_68 : decode cX12_lists 68 = .ok (.iastore, 1) := by decide +kernel
theorem dX12_lists_69 : decode cX12_lists 69 = .ok (.iinc 2 1, 3) := by decide +kernel
theorem dX12_lists_72 : decode cX12_lists 72 = .ok (.goto (-38), 3) := by decide +kernel
theorem dX12_lists_75 : decode cX12_lists 75 = .ok (.iconst 0, 1) := by decide +kernel
theorem dX12_lists_76 : decode cX12_lists 76 = .ok (.istore_n 2, 1) := by decide +kernel
theorem dX12_lists_77 : decode cX12_lists 77 = .ok (.iload_n 2, 1) := by decide +kernel
theorem dX12_lists_78 : decode cX12_lists 78 = .ok (.aload_n 0, 1) := by decide +kernel
theorem dX12_lists_79 : decode cX12_lists 79 = .ok (.invokevirtual 333, 3) := by decide +kernel
theorem dX12_lists_82 : decode cX12_lists 82 = .ok (.if_icmp .ge 126, 3) := by decide +kernel
theorem dX12_lists_85 : decode cX12_lists 85 = .ok (.aload_n 0, 1) := by decide +kernel
theorem dX12_lists_86 : decode cX12_lists 86 = .ok (.getfield 71, 3) := by decide +kernel
theorem dX12_lists_89 : decode cX12_lists 89 = .ok (.iload_n 2, 1) := by decide +kernel
theorem dX12_lists_90 : decode cX12_lists 90 = .ok (.iconst 0, 1) := by decide +kernel
theorem dX12_lists_91 : decode cX12_lists 91 = .ok (.iastore, 1) := by decide +kernel
theorem dX12_lists_92 : decode cX12_lists 92 = .ok (.iconst 0, 1) := by decide +kernel
theorem dX12_lists_93 : decode cX12_lists 93 = .ok (.istore_n 3, 1) := by decide +kernel
theorem dX12_lists_94 : decode cX12_lists 94 = .ok (.iload_n 3, 1) := by decide +kernel
theorem dX12_lists_95 : decode cX12_lists 95 = .ok (.aload_n 0, 1) := by decide +kernel
theorem dX12_lists_96 : decode cX12_lists 96 = .ok (.getfield 24, 3) := by decide +kernel
theorem dX12_lists_99 : decode cX12_lists 99 = .ok (.sipush 316, 3) := by decide +kernel
theorem dX12_lists_102 : decode cX12_lists 102 = .ok (.iaload, 1) := by decide +kernel
theorem dX12_lists_103 : decode cX12_lists 103 = .ok (.if_icmp .ge 66, 3) := by decide +kernel
theorem dX12_lists_106 : decode cX12_lists 106 = .ok (.aload_n 0, 1) := by decide +kernel
theorem dX12_lists_107 : decode cX12_lists 107 = .ok (.iload_n 3, 1) := by decide +kernel
theorem dX12_lists_108 : decode cX12_lists 108 = .ok (.iconst 0, 1) := by decide +kernel
theorem dX12_lists_109 : decode cX12_lists 109 = .ok (.invokevirtual 120, 3) := by decide +kernel
theorem dX12_lists_112 : decode cX12_lists 112 = .ok (.aload_n 0, 1) := by decide +kernel
theorem dX12_lists_113 : decode cX12_lists 113 = .ok (.getfield 24, 3) := by decide +kernel
theorem dX12_lists_116 : decode cX12_lists 116 = .ok (.sipush 269, 3) := by decide +kernel
theorem dX12_lists_119 : decode cX12_lists 119 = .ok (.iload_n 2, 1) := by decide +kernel
theorem dX12_lists_120 : decode cX12_lists 120 = .ok (.iadd, 1) := by decide +kernel
theorem dX12_lists_121 : decode cX12_lists 121 = .ok (.iaload, 1) := by decide +kernel
theorem dX12_lists_122 : decode cX12_lists 122 = .ok (.if_icmp .ne 41, 3) := by decide +kernel
theorem dX12_lists_125 : decode cX12_lists 125 = .ok (.aload_n 0, 1) := by decide +kernel
theorem dX12_lists_126 : decode cX12_lists 126 = .ok (.iload_n 3, 1) := by decide +kernel
theorem dX12_lists_127 : decode cX12_lists 127 = .ok (.iload_n 1, 1) := by decide +kernel
theorem dX12_lists_128 : decode cX12_lists 128 = .ok (.invokevirtual 137, 3) := by decide +kernel
theorem dX12_lists_131 : decode cX12_lists 131 = .ok (.ifCond .eq 6, 3) := by decide +kernel
theorem dX12_lists_134 : decode cX12_lists 134 = .ok (.goto 29, 3) := by decide +kernel
theorem dX12_lists_137 : decode cX12_lists 137 = .ok (.aload_n 0, 1) := by decide +kernel
theorem dX12_lists_138 : decode cX12_lists 138 = .ok (.getfield 68, 3) := by decide +kernel
theorem dX12_lists_141 : decode cX12_lists 141 = .ok (.iconst 3, 1) := by decide +kernel
theorem dX12_lists_142 : decode cX12_lists 142 = .ok (.iload_n 2, 1) := by decide +kernel
theorem dX12_lists_143 : decode cX12_lists 143 = .ok (.imul, 1) := by decide +kernel
theorem dX12_lists_144 : decode cX12_lists 144 = .ok (.aload_n 0, 1) := by decide +kernel
theorem dX12_lists_145 : decode cX12_lists 145 = .ok (.getfield 71, 3) := by decide +kernel
theorem dX12_lists_148 : decode cX12_lists 148 = .ok (.iload_n 2, 1) := by decide +kernel
theorem dX12_lists_149 : decode cX12_lists 149 = .ok (.iaload, 1) := by decide +kernel
theorem dX12_lists_150 : decode cX12_lists 150 = .ok (.iadd, 1) := by decide +kernel
theorem dX12_lists_151 : decode cX12_lists 151 = .ok (.iload_n 3, 1) := by decide +kernel
theorem dX12_lists_152 : decode cX12_lists 152 = .ok (.iastore, 1) := by decide +kernel
theorem dX12_lists_153 : decode cX12_lists 153 = .ok (.aload_n 0, 1) := by decide +kernel
theorem dX12_lists_154 : decode cX12_lists 154 = .ok (.getfield 71, 3) := by decide +kernel
theorem dX12_lists_157 : decode cX12_lists 157 = .ok (.iload_n 2, 1) := by decide +kernel
theorem dX12_lists_158 : decode cX12_lists 158 = .ok (.dup2, 1) := by decide +kernel
theorem dX12_lists_159 : decode cX12_lists 159 = .ok (.iaload, 1) := by decide +kernel
theorem dX12_lists_160 : decode cX12_lists 160 = .ok (.iconst 1, 1) := by decide +kernel
theorem dX12_lists_161 : decode cX12_lists 161 = .ok (.iadd, 1) := by decide +kernel
theorem dX12_lists_162 : decode cX12_lists 162 = .ok (.iastore, 1) := by decide +kernel
theorem dX12_lists_163 : decode cX12_lists 163 = .ok (.iinc 3 1, 3) := by decide +kernel
theorem dX12_lists_166 : decode cX12_lists 166 = .ok (.goto (-72), 3) := by decide +kernel
theorem dX12_lists_169 : decode cX12_lists 169 = .ok (.aload_n 0, 1) := by decide +kernel
theorem dX12_lists_170 : decode cX12_lists 170 = .ok (.dup, 1) := by decide +kernel
theorem dX12_lists_171 : decode cX12_lists 171 = .ok (.getfield 336, 3) := by decide +kernel
theorem dX12_lists_174 : decode cX12_lists 174 = .ok (.aload_n 0, 1) := by decide +kernel
theorem dX12_lists_175 : decode cX12_lists 175 = .ok (.getfield 71, 3) := by decide +kernel
theorem dX12_lists_178 : decode cX12_lists 178 = .ok (.iload_n 2, 1) := by decide +kernel
theorem dX12_lists_179 : decode cX12_lists 179 = .ok (.iaload, 1) := by decide +kernel
theorem dX12_lists_180 : decode cX12_lists 180 = .ok (.imul, 1) := by decide +kernel
theorem dX12_lists_181 : decode cX12_lists 181 = .ok (.putfield 336, 3) := by decide +kernel
theorem dX12_lists_184 : decode cX12_lists 184 = .ok (.aload_n 0, 1) := by decide +kernel
theorem dX12_lists_185 : decode cX12_lists 185 = .ok (.dup, 1) := by decide +kernel
theorem dX12_lists_186 : decode cX12_lists 186 = .ok (.getfield 339, 3) := by decide +kernel
theorem dX12_lists_189 : decode cX12_lists 189 = .ok (.iload_n 2, 1) := by decide +kernel
theorem dX12_lists_190 : decode cX12_lists 190 = .ok (.ifCond .le 7, 3) := by decide +kernel
theorem dX12_lists_193 : decode cX12_lists 193 = .ok (.iconst 2, 1) := by decide +kernel
theorem dX12_lists_194 : decode cX12_lists 194 = .ok (.goto 4, 3) := by decide +kernel
theorem dX12_lists_197 : decode cX12_lists 197 = .ok (.iconst 1, 1) := by decide +kernel
theorem dX12_lists_198 : decode cX12_lists 198 = .ok (.imul, 1) := by decide +kernel
theorem dX12_lists_199 : decode cX12_lists 199 = .ok (.putfield 339, 3) := by decide +kernel
theorem dX12_lists_202 : decode cX12_lists 202 = .ok (.iinc 2 1, 3) := by decide +kernel
theorem dX12_lists_205 : decode cX12_lists 205 = .ok (.goto (-128), 3) := by decide +kernel
theorem dX12_lists_208 : decode cX12_lists 208 = .ok (.aload_n 0, 1) := by decide +kernel
theorem dX12_lists_209 : decode cX12_lists 209 = .ok (.dup, 1) := by decide +kernel
theorem dX12_lists_210 : decode cX12_lists 210 = .ok (.getfield 336, 3) := by decide +kernel
theorem dX12_lists_213 : decode cX12_lists 213 = .ok (.aload_n 0, 1) := by decide +kernel
theorem dX12_lists_214 : decode cX12_lists 214 = .ok (.getfield 339, 3) := by decide +kernel
theorem dX12_lists_217 : decode cX12_lists 217 = .ok (.imul, 1) := by decide +kernel
theorem dX12_lists_218 : decode cX12_lists 218 = .ok (.putfield 336, 3) := by decide +kernel
theorem dX12_lists_221 : decode cX12_lists 221 = .ok (.return_, 1) := by decide +kernel
theorem dX12_opens_0 : decode cX12_opens 0 = .ok (.iload_n 1, 1) := by decide +kernel
theorem dX12_opens_1 : decode cX12_opens 1 = .ok (.aload_n 0, 1) := by decide +kernel
theorem dX12_opens_2 : decode cX12_opens 2 = .ok (.getfield 339, 3) := by decide +kernel
theorem dX12_opens_5 : decode cX12_opens 5 = .ok (.idiv, 1) := by decide +kernel
theorem dX12_opens_6 : decode cX12_opens 6 = .ok (.istore_n 2, 1) := by decide +kernel
theorem dX12_opens_7 : decode cX12_opens 7 = .ok (.aload_n 0, 1) := by decide +kernel
theorem dX12_opens_8 : decode cX12_opens 8 = .ok (.invokevirtual 333, 3) := by decide +kernel
theorem dX12_opens_11 : decode cX12_opens 11 = .ok (.iconst 1, 1) := by decide +kernel
theorem dX12_opens_12 : decode cX12_opens 12 = .ok (.isub, 1) := by decide +kernel
theorem dX12_opens_13 : decode cX12_opens 13 = .ok (.istore_n 3, 1) := by decide +kernel
theorem dX12_opens_14 : decode cX12_opens 14 = .ok (.iload_n 3, 1) := by decide +kernel
theorem dX12_opens_15 : decode cX12_opens 15 = .ok (.ifCond .lt 72, 3) := by decide +kernel
theorem dX12_opens_18 : decode cX12_opens 18 = .ok (.aload_n 0, 1) := by decide +kernel
theorem dX12_opens_19 : decode cX12_opens 19 = .ok (.getfield 74, 3) := by decide +kernel
theorem dX12_opens_22 : decode cX12_opens 22 = .ok (.iload_n 3, 1) := by decide +kernel
theorem dX12_opens_23 : decode cX12_opens 23 = .ok (.aload_n 0, 1) := by decide +kernel
theorem dX12_opens_24 : decode cX12_opens 24 = .ok (.getfield 68, 3) := by decide +kernel
theorem dX12_opens_27 : decode cX12_opens 27 = .ok (.iconst 3, 1) := by decide +kernel
theorem dX12_opens_28 : decode cX12_opens 28 = .ok (.iload_n 3, 1) := by decide +kernel
theorem dX12_opens_29 : decode cX12_opens 29 = .ok (.imul, 1) := by decide +kernel
theorem dX12_opens_30 : decode cX12_opens 30 = .ok (.iload_n 2, 1) := by decide +kernel
theorem dX12_opens_31 : decode cX12_opens 31 = .ok (.aload_n 0, 1) := by decide +kernel
theorem dX12_opens_32 : decode cX12_opens 32 = .ok (.getfield 71, 3) := by decide +kernel
theorem dX12_opens_35 : decode cX12_opens 35 = .ok (.iload_n 3, 1) := by decide +kernel
theorem dX12_opens_36 : decode cX12_opens 36 = .ok (.iaload, 1) := by decide +kernel
theorem dX12_opens_37 : decode cX12_opens 37 = .ok (.irem, 1) := by decide +kernel
theorem dX12_opens_38 : decode cX12_opens 38 = .ok (.iadd, 1) := by decide +kernel
theorem dX12_opens_39 : decode cX12_opens 39 = .ok (.iaload, 1) := by decide +kernel
theorem dX12_opens_40 : decode cX12_opens 40 = .ok (.iastore, 1) := by decide +kernel
theorem dX12_opens_41 : decode cX12_opens 41 = .ok (.iload_n 2, 1) := by decide +kernel
theorem dX12_opens_42 : decode cX12_opens 42 = .ok (.aload_n 0, 1) := by decide +kernel
theorem dX12_opens_43 : decode cX12_opens 43 = .ok (.getfield 71, 3) := by decide +kernel
theorem dX12_opens_46 : decode cX12_opens 46 = .ok (.iload_n 3, 1) := by decide +kernel
theorem dX12_opens_47 : decode cX12_opens 47 = .ok (.iaload, 1) := by decide +kernel
theorem dX12_opens_48 : decode cX12_opens 48 = .ok (.idiv, 1) := by decide +kernel
theorem dX12_opens_49 : decode cX12_opens 49 = .ok (.istore_n 2, 1) := by decide +kernel
theorem dX12_opens_50 : decode cX12_opens 50 = .ok (.aload_n 0, 1) := by decide +kernel
theorem dX12_opens_51 : decode cX12_opens 51 = .ok (.getfield 77, 3) := by decide +kernel
theorem dX12_opens_54 : decode cX12_opens 54 = .ok (.iload_n 3, 1) := by decide +kernel
theorem dX12_opens_55 : decode cX12_opens 55 = .ok (.iload_n 3, 1) := by decide +kernel
theorem dX12_opens_56 : decode cX12_opens 56 = .ok (.ifCond .ne 7, 3) := by decide +kernel
theorem dX12_opens_59 : decode cX12_opens 59 = .ok (.iconst 0, 1) := by decide +kernel
theorem dX12_opens_60 : decode cX12_opens 60 = .ok (.goto 20, 3) := by decide +kernel
theorem dX12_opens_63 : decode cX12_opens 63 = .ok (.iload_n 1, 1) := by decide +kernel
theorem dX12_opens_64 : decode cX12_opens 64 = .ok (.aload_n 0, 1) := by decide +kernel
theorem dX12_opens_65 : decode cX12_opens 65 = .ok (.getfield 339, 3) := by decide +kernel
theorem dX12_opens_68 : decode cX12_opens 68 = .ok (.irem, 1) := by decide +kernel
theorem dX12_opens_69 : decode cX12_opens 69 = .ok (.aload_n 0, 1) := by decide +kernel
theorem dX12_opens_70 : decode cX12_opens 70 = .ok (.invokevirtual 333, 3) := by decide +kernel
theorem dX12_opens_73 : decode cX12_opens 73 = .ok (.iconst 1, 1) := by decide +kernel
theorem dX12_opens_74 : decode cX12_opens 74 = .ok (.isub, 1) := by decide +kernel
theorem dX12_opens_75 : decode cX12_opens 75 = .ok (.iload_n 3, 1) := by decide +kernel
theorem dX12_opens_76 : decode cX12_opens 76 = .ok (.isub, 1) := by decide +kernel
theorem dX12_opens_77 : decode cX12_opens 77 = .ok (.ishr, 1) := by decide +kernel
theorem dX12_opens_78 : decode cX12_opens 78 = .ok (.iconst 1, 1) := by decide +kernel
theorem dX12_opens_79 : decode cX12_opens 79 = .ok (.iand, 1) := by decide +kernel
theorem dX12_opens_80 : decode cX12_opens 80 = .ok (.iastore, 1) := by decide +kernel
theorem dX12_opens_81 : decode cX12_opens 81 = .ok (.iinc 3 (-1), 3) := by decide +kernel
theorem dX12_opens_84 : decode cX12_opens 84 = .ok (.goto (-70), 3) := by decide +kernel
theorem dX12_opens_87 : decode cX12_opens 87 = .ok (.aload_n 0, 1) := by decide +kernel
theorem dX12_opens_88 : decode cX12_opens 88 = .ok (.iconst 0, 1) := by decide +kernel
theorem dX12_opens_89 : decode cX12_opens 89 = .ok (.putfield 345, 3) := by decide +kernel
theorem dX12_opens_92 : decode cX12_opens 92 = .ok (.iconst 0, 1) := by decide +kernel
theorem dX12_opens_93 : decode cX12_opens 93 = .ok (.istore_n 3, 1) := by decide +kernel
theorem dX12_opens_94 : decode cX12_opens 94 = .ok (.iload_n 3, 1) := by decide +kernel
theorem dX12_opens_95 : decode cX12_opens 95 = .ok (.aload_n 0, 1) := by decide +kernel
theorem dX12_opens_96 : decode cX12_opens 96 = .ok (.invokevirtual 333, 3) := by decide +kernel
theorem dX12_opens_99 : decode cX12_opens 99 = .ok (.if_icmp .ge 96, 3) := by decide +kernel
theorem dX12_opens_102 : decode cX12_opens 102 = .ok (.iload_n 3, 1) := by decide +kernel
theorem dX12_opens_103 : decode cX12_opens 103 = .ok (.ifCond .eq 13, 3) := by decide +kernel
theorem dX12_opens_106 : decode cX12_opens 106 = .ok (.aload_n 0, 1) := by decide +kernel
theorem dX12_opens_107 : decode cX12_opens 107 = .ok (.getfield 77, 3) := by decide +kernel
theorem dX12_opens_110 : decode cX12_opens 110 = .ok (.iload_n 3, 1) := by decide +kernel
theorem dX12_opens_111 : decode cX12_opens 111 = .ok (.iaload, 1) := by decide +kernel
theorem dX12_opens_112 : decode cX12_opens 112 = .ok (.iconst 1, 1) := by decide +kernel
theorem dX12_opens_113 : decode cX12_opens 113 = .ok (.if_icmp .ne 46, 3) := by decide +kernel
theorem dX12_opens_116 : decode cX12_opens 116 = .ok (.aload_n 0, 1) := by decide +kernel
theorem dX12_opens_117 : decode cX12_opens 117 = .ok (.getfield 89, 3) := by decide +kernel
theorem dX12_opens_120 : decode cX12_opens 120 = .ok (.aload_n 0, 1) := by decide +kernel
theorem dX12_opens_121 : decode cX12_opens 121 = .ok (.getfield 345, 3) := by decide +kernel
theorem dX12_opens_124 : decode cX12_opens 124 = .ok (.iload_n 3, 1) := by decide +kernel
theorem dX12_opens_125 : decode cX12_opens 125 = .ok (.iastore, 1) := by decide +kernel
theorem dX12_opens_126 : decode cX12_opens 126 = .ok (.aload_n 0, 1) := by decide +kernel
theorem dX12_opens_127 : decode cX12_opens 127 = .ok (.getfield 86, 3) := by decide +kernel
theorem dX12_opens_130 : decode cX12_opens 130 = .ok (.aload_n 0, 1) := by decide +kernel
theorem dX12_opens_131 : decode cX12_opens 131 = .ok (.getfield 345, 3) := by decide +kernel
theorem dX12_opens_134 : decode cX12_opens 134 = .ok (.aload_n 0, 1) := by decide +kernel
theorem dX12_opens_135 : decode cX12_opens 135 = .ok (.getfield 80, 3) := by decide +kernel
theorem dX12_opens_138 : decode cX12_opens 138 = .ok (.aload_n 0, 1) := by decide +kernel
theorem dX12_opens_139 : decode cX12_opens 139 = .ok (.getfield 74, 3) := by decide +kernel
theorem dX12_opens_142 : decode cX12_opens 142 = .ok (.iload_n 3, 1) := by decide +kernel
theorem dX12_opens_143 : decode cX12_opens 143 = .ok (.iaload, 1) := by decide +kernel
theorem dX12_opens_144 : decode cX12_opens 144 = .ok (.iaload, 1) := by decide +kernel
theorem dX12_opens_145 : decode cX12_opens 145 = .ok (.iastore, 1) := by decide +kernel
theorem dX12_opens_146 : decode cX12_opens 146 = .ok (.aload_n 0, 1) := by decide +kernel
theorem dX12_opens_147 : decode cX12_opens 147 = .ok (.dup, 1) := by decide +kernel
theorem dX12_opens_148 : decode cX12_opens 148 = .ok (.getfield 345, 3) := by decide +kernel
theorem dX12_opens_151 : decode cX12_opens 151 = .ok (.iconst 1, 1) := by decide +kernel
theorem dX12_opens_152 : decode cX12_opens 152 = .ok (.iadd, 1) := by decide +kernel
theorem dX12_opens_153 : decode cX12_opens 153 = .ok (.putfield 345, 3) := by decide +kernel
theorem dX12_opens_156 : decode cX12_opens 156 = .ok (.goto 33, 3) := by decide +kernel
theorem dX12_opens_159 : decode cX12_opens 159 = .ok (.aload_n 0, 1) := by decide +kernel
theorem dX12_opens_160 : decode cX12_opens 160 = .ok (.getfield 86, 3) := by decide +kernel
theorem dX12_opens_163 : decode cX12_opens 163 = .ok (.aload_n 0, 1) := by decide +kernel
theorem dX12_opens_164 : decode cX12_opens 164 = .ok (.getfield 345, 3) := by decide +kernel
theorem dX12_opens_167 : decode cX12_opens 167 = .ok (.iconst 1, 1) := by decide +kernel
theorem dX12_opens_168 : decode cX12_opens 168 = .ok (.isub, 1) := by decide +kernel
theorem dX12_opens_169 : decode cX12_opens 169 = .ok (.dup2, 1) := by decide +kernel
theorem dX12_opens_170 : decode cX12_opens 170 = .ok (.iaload, 1) := by decide +kernel
theorem dX12_opens_171 : decode cX12_opens 171 = .ok (.aload_n 0, 1) := by decide +kernel
theorem dX12_opens_172 : decode cX12_opens 172 = .ok (.getfield 342, 3) := by decide +kernel
theorem dX12_opens_175 : decode cX12_opens 175 = .ok (.aload_n 0, 1) := by decide +kernel
theorem dX12_opens_176 : decode cX12_opens 176 = .ok (.getfield 80, 3) := by decide +kernel
theorem dX12_opens_179 : decode cX12_opens 179 = .ok (.aload_n 0, 1) := by decide +kernel
theorem dX12_opens_180 : decode cX12_opens 180 = .ok (.getfield 74, 3) := by decide +kernel
theorem dX12_opens_183 : decode cX12_opens 183 = .ok (.iload_n 3, 1) := by decide +kernel
theorem dX12_opens_184 : decode cX12_opens 184 = .ok (.iaload, 1) := by decide +kernel
theorem dX12_opens_185 : decode cX12_opens 185 = .ok (.iaload, 1) := by decide +kernel
theorem dX12_opens_186 : decode cX12_opens 186 = .ok (.iadd, 1) := by decide +kernel
theorem dX12_opens_187 : decode cX12_opens 187 = .ok (.iadd, 1) := by decide +kernel
theorem dX12_opens_188 : decode cX12_opens 188 = .ok (.iastore, 1) := by decide +kernel
theorem dX12_opens_189 : decode cX12_opens 189 = .ok (.iinc 3 1, 3) := by decide +kernel
theorem dX12_opens_192 : decode cX12_opens 192 = .ok (.goto (-98), 3) := by decide +kernel
theorem dX12_opens_195 : decode cX12_opens 195 = .ok (.aload_n 0, 1) := by decide +kernel
theorem dX12_opens_196 : decode cX12_opens 196 = .ok (.getfield 89, 3) := by decide +kernel
theorem dX12_opens_199 : decode cX12_opens 199 = .ok (.aload_n 0, 1) := by decide +kernel
theorem dX12_opens_200 : decode cX12_opens 200 = .ok (.getfield 345, 3) := by decide +kernel
theorem dX12_opens_203 : decode cX12_opens 203 = .ok (.aload_n 0, 1) := by decide +kernel
theorem dX12_opens_204 : decode cX12_opens 204 = .ok (.invokevirtual 333, 3) := by decide +kernel
theorem dX12_opens_207 : decode cX12_opens 207 = .ok (.iastore, 1) := by decide +kernel
theorem dX12_opens_208 : decode cX12_opens 208 = .ok (.aload_n 0, 1) := by decide +kernel
theorem dX12_opens_209 : decode cX12_opens 209 = .ok (.getfield 345, 3) := by decide +kernel
theorem dX12_opens_212 : decode cX12_opens 212 = .ok (.aload_n 0, 1) := by decide +kernel
theorem dX12_opens_213 : decode cX12_opens 213 = .ok (.getfield 24, 3) := by decide +kernel
theorem dX12_opens_216 : decode cX12_opens 216 = .ok (.sipush 314, 3) := by decide +kernel
theorem dX12_opens_219 : decode cX12_opens 219 = .ok (.iaload, 1) := by decide +kernel
theorem dX12_opens_220 : decode cX12_opens 220 = .ok (.if_icmp .gt 7, 3) := by decide +kernel
theorem dX12_opens_223 : decode cX12_opens 223 = .ok (.iconst 1, 1) := by decide +kernel
theorem dX12_opens_224 : decode cX12_opens 224 = .ok (.goto 4, 3) := by decide +kernel
theorem dX12_opens_227 : decode cX12_opens 227 = .ok (.iconst 0, 1) := by decide +kernel
theorem dX12_opens_228 : decode cX12_opens 228 = .ok (.ireturn, 1) := by decide +kernel
theorem dX12_broadest_0 : decode cX12_broadest 0 = .ok (.iconst 0, 1) := by decide +kernel
theorem dX12_broadest_1 : decode cX12_broadest 1 = .ok (.istore_n 1, 1) := by decide +kernel
theorem dX12_broadest_2 : decode cX12_broadest 2 = .ok (.iconst 0, 1) := by decide +kernel
theorem dX12_broadest_3 : decode cX12_broadest 3 = .ok (.istore_n 2, 1) := by decide +kernel
theorem dX12_broadest_4 : decode cX12_broadest 4 = .ok (.iload_n 2, 1) := by decide +kernel
theorem dX12_broadest_5 : decode cX12_broadest 5 = .ok (.aload_n 0, 1) := by decide +kernel
theorem dX12_broadest_6 : decode cX12_broadest 6 = .ok (.getfield 345, 3) := by decide +kernel
theorem dX12_broadest_9 : decode cX12_broadest 9 = .ok (.if_icmp .ge 20, 3) := by decide +kernel
theorem dX12_broadest_12 : decode cX12_broadest 12 = .ok (.iload_n 1, 1) := by decide +kernel
theorem dX12_broadest_13 : decode cX12_broadest 13 = .ok (.aload_n 0, 1) := by decide +kernel
theorem dX12_broadest_14 : decode cX12_broadest 14 = .ok (.getfield 86, 3) := by decide +kernel
theorem dX12_broadest_17 : decode cX12_broadest 17 = .ok (.iload_n 2, 1) := by decide +kernel
theorem dX12_broadest_18 : decode cX12_broadest 18 = .ok (.iaload, 1) := by decide +kernel
theorem dX12_broadest_19 : decode cX12_broadest 19 = .ok (.invokestatic 298, 3) := by decide +kernel
theorem dX12_broadest_22 : decode cX12_broadest 22 = .ok (.istore_n 1, 1) := by decide +kernel
theorem dX12_broadest_23 : decode cX12_broadest 23 = .ok (.iinc 2 1, 3) := by decide +kernel
theorem dX12_broadest_26 : decode cX12_broadest 26 = .ok (.goto (-22), 3) := by decide +kernel
theorem dX12_broadest_29 : decode cX12_broadest 29 = .ok (.iload_n 1, 1) := by decide +kernel
theorem dX12_broadest_30 : decode cX12_broadest 30 = .ok (.ireturn, 1) := by decide +kernel
theorem dX12_costOfRow_0 : decode cX12_costOfRow 0 = .ok (.iconst 0, 1) := by decide +kernel
theorem dX12_costOfRow_1 : decode cX12_costOfRow 1 = .ok (.istore_n 1, 1) := by decide +kernel
theorem dX12_costOfRow_2 : decode cX12_costOfRow 2 = .ok (.iconst 0, 1) := by decide +kernel
theorem dX12_costOfRow_3 : decode cX12_costOfRow 3 = .ok (.istore_n 2, 1) := by decide +kernel
theorem dX12_costOfRow_4 : decode cX12_costOfRow 4 = .ok (.iload_n 2, 1) := by decide +kernel
theorem dX12_costOfRow_5 : decode cX12_costOfRow 5 = .ok (.aload_n 0, 1) := by decide +kernel
theorem dX12_costOfRow_6 : decode cX12_costOfRow 6 = .ok (.invokevirtual 333, 3) := by decide +kernel
theorem dX12_costOfRow_9 : decode cX12_costOfRow 9 = .ok (.if_icmp .ge 23, 3) := by decide +kernel
theorem dX12_costOfRow_12 : decode cX12_costOfRow 12 = .ok (.iload_n 1, 1) := by decide +kernel
theorem dX12_costOfRow_13 : decode cX12_costOfRow 13 = .ok (.aload_n 0, 1) := by decide +kernel
theorem dX12_costOfRow_14 : decode cX12_costOfRow 14 = .ok (.getfield 83, 3) := by decide +kernel
theorem dX12_costOfRow_17 : decode cX12_costOfRow 17 = .ok (.aload_n 0, 1) := by decide +kernel
theorem dX12_costOfRow_18 : decode cX12_costOfRow 18 = .ok (.getfield 74, 3) := by decide +kernel
theorem dX12_costOfRow_21 : decode cX12_costOfRow 21 = .ok (.iload_n 2, 1) := by decide +kernel
theorem dX12_costOfRow_22 : decode cX12_costOfRow 22 = .ok (.iaload, 1) := by decide +kernel
theorem dX12_costOfRow_23 : decode cX12_costOfRow 23 = .ok (.iaload, 1) := by decide +kernel
theorem dX12_costOfRow_24 : decode cX12_costOfRow 24 = .ok (.iadd, 1) := by decide +kernel
theorem dX12_costOfRow_25 : decode cX12_costOfRow 25 = .ok (.istore_n 1, 1) := by decide +kernel
theorem dX12_costOfRow_26 : decode cX12_costOfRow 26 = .ok (.iinc 2 1, 3) := by decide +kernel
theorem dX12_costOfRow_29 : decode cX12_costOfRow 29 = .ok (.goto (-25), 3) := by decide +kernel
theorem dX12_costOfRow_32 : decode cX12_costOfRow 32 = .ok (.iconst 0, 1) := by decide +kernel
theorem dX12_costOfRow_33 : decode cX12_costOfRow 33 = .ok (.istore_n 2, 1) := by decide +kernel
theorem dX12_costOfRow_34 : decode cX12_costOfRow 34 = .ok (.iload_n 2, 1) := by decide +kernel
theorem dX12_costOfRow_35 : decode cX12_costOfRow 35 = .ok (.aload_n 0, 1) := by decide +kernel
theorem dX12_costOfRow_36 : decode cX12_costOfRow 36 = .ok (.getfield 345, 3) := by decide +kernel
theorem dX12_costOfRow_39 : decode cX12_costOfRow 39 = .ok (.if_icmp .ge 155, 3) := by decide +kernel
theorem dX12_costOfRow_42 : decode cX12_costOfRow 42 = .ok (.iload_n 2, 1) := by decide +kernel
theorem dX12_costOfRow_43 : decode cX12_costOfRow 43 = .ok (.ifCond .le 44, 3) := by decide +kernel
theorem dX12_costOfRow_46 : decode cX12_costOfRow 46 = .ok (.aload_n 0, 1) := by decide +kernel
theorem dX12_costOfRow_47 : decode cX12_costOfRow 47 = .ok (.aload_n 0, 1) := by decide +kernel
theorem dX12_costOfRow_48 : decode cX12_costOfRow 48 = .ok (.getfield 74, 3) := by decide +kernel
theorem dX12_costOfRow_51 : decode cX12_costOfRow 51 = .ok (.aload_n 0, 1) := by decide +kernel
theorem dX12_costOfRow_52 : decode cX12_costOfRow 52 = .ok (.getfield 89, 3) := by decide +kernel
theorem dX12_costOfRow_55 : decode cX12_costOfRow 55 = .ok (.iload_n 2, 1) := by decide +kernel
theorem dX12_costOfRow_56 : decode cX12_costOfRow 56 = .ok (.iaload, 1) := by decide +kernel
theorem dX12_costOfRow_57 : decode cX12_costOfRow 57 = .ok (.iaload, 1) := by decide +kernel
theorem dX12_costOfRow_58 : decode cX12_costOfRow 58 = .ok (.iconst 4, 1) := by decide +kernel
theorem dX12_costOfRow_59 : decode cX12_costOfRow 59 = .ok (.invokevirtual 120, 3) := by decide +kernel
theorem dX12_costOfRow_62 : decode cX12_costOfRow 62 = .ok (.aload_n 0, 1) := by decide +kernel
theorem dX12_costOfRow_63 : decode cX12_costOfRow 63 = .ok (.aload_n 0, 1) := by decide +kernel
theorem dX12_costOfRow_64 : decode cX12_costOfRow 64 = .ok (.getfield 74, 3) := by decide +kernel
theorem dX12_costOfRow_67 : decode cX12_costOfRow 67 = .ok (.aload_n 0, 1) := by decide +kernel
theorem dX12_costOfRow_68 : decode cX12_costOfRow 68 = .ok (.getfield 89, 3) := by decide +kernel
theorem dX12_costOfRow_71 : decode cX12_costOfRow 71 = .ok (.iload_n 2, 1) := by decide +kernel
theorem dX12_costOfRow_72 : decode cX12_costOfRow 72 = .ok (.iconst 1, 1) := by decide +kernel
theorem dX12_costOfRow_73 : decode cX12_costOfRow 73 = .ok (.isub, 1) := by decide +kernel
theorem dX12_costOfRow_74 : decode cX12_costOfRow 74 = .ok (.iaload, 1) := by decide +kernel
theorem dX12_costOfRow_75 : decode cX12_costOfRow 75 = .ok (.iaload, 1) := by decide +kernel
theorem dX12_costOfRow_76 : decode cX12_costOfRow 76 = .ok (.iconst 4, 1) := by decide +kernel
theorem dX12_costOfRow_77 : decode cX12_costOfRow 77 = .ok (.invokevirtual 120, 3) := by decide +kernel
theorem dX12_costOfRow_80 : decode cX12_costOfRow 80 = .ok (.if_icmp .ne 7, 3) := by decide +kernel
theorem dX12_costOfRow_83 : decode cX12_costOfRow 83 = .ok (.iconst 1, 1) := by decide +kernel
theorem dX12_costOfRow_84 : decode cX12_costOfRow 84 = .ok (.goto 4, 3) := by decide +kernel
theorem dX12_costOfRow_87 : decode cX12_costOfRow 87 = .ok (.iconst 0, 1) := by decide +kernel
theorem dX12_costOfRow_88 : decode cX12_costOfRow 88 = .ok (.istore_n 3, 1) := by decide +kernel
theorem dX12_costOfRow_89 : decode cX12_costOfRow 89 = .ok (.iconst 0, 1) := by decide +kernel
theorem dX12_costOfRow_90 : decode cX12_costOfRow 90 = .ok (.istore 4, 2) := by decide +kernel
theorem dX12_costOfRow_92 : decode cX12_costOfRow 92 = .ok (.aload_n 0, 1) := by decide +kernel
theorem dX12_costOfRow_93 : decode cX12_costOfRow 93 = .ok (.getfield 89, 3) := by decide +kernel
theorem dX12_costOfRow_96 : decode cX12_costOfRow 96 = .ok (.iload_n 2, 1) := by decide +kernel
theorem dX12_costOfRow_97 : decode cX12_costOfRow 97 = .ok (.iaload, 1) := by decide +kernel
theorem dX12_costOfRow_98 : decode cX12_costOfRow 98 = .ok (.istore 5, 2) := by decide +kernel
theorem dX12_costOfRow_100 : decode cX12_costOfRow 100 = .ok (.iload 5, 2) := by decide +kernel
theorem dX12_costOfRow_102 : decode cX12_costOfRow 102 = .ok (.aload_n 0, 1) := by decide +kernel
theorem dX12_costOfRow_103 : decode cX12_costOfRow 103 = .ok (.getfield 89, 3) := by decide +kernel
theorem dX12_costOfRow_106 : decode cX12_costOfRow 106 = .ok (.iload_n 2, 1) := by decide +kernel
theorem dX12_costOfRow_107 : decode cX12_costOfRow 107 = .ok (.iconst 1, 1) := by decide +kernel
theorem dX12_costOfRow_108 : decode cX12_costOfRow 108 = .ok (.iadd, 1) := by decide +kernel
theorem dX12_costOfRow_109 : decode cX12_costOfRow 109 = .ok (.iaload, 1) := by decide +kernel
theorem dX12_costOfRow_110 : decode cX12_costOfRow 110 = .ok (.if_icmp .ge 37, 3) := by decide +kernel
theorem dX12_costOfRow_113 : decode cX12_costOfRow 113 = .ok (.aload_n 0, 1) := by decide +kernel
theorem dX12_costOfRow_114 : decode cX12_costOfRow 114 = .ok (.getfield 74, 3) := by decide +kernel
theorem dX12_costOfRow_117 : decode cX12_costOfRow 117 = .ok (.iload 5, 2) := by decide +kernel
theorem dX12_costOfRow_119 : decode cX12_costOfRow 119 = .ok (.iaload, 1) := by decide +kernel
theorem dX12_costOfRow_120 : decode cX12_costOfRow 120 = .ok (.aload_n 0, 1) := by decide +kernel
theorem dX12_costOfRow_121 : decode cX12_costOfRow 121 = .ok (.getfield 24, 3) := by decide +kernel
theorem dX12_costOfRow_124 : decode cX12_costOfRow 124 = .ok (.sipush 275, 3) := by decide +kernel
theorem dX12_costOfRow_127 : decode cX12_costOfRow 127 = .ok (.iload_n 2, 1) := by decide +kernel
theorem dX12_costOfRow_128 : decode cX12_costOfRow 128 = .ok (.iadd, 1) := by decide +kernel
theorem dX12_costOfRow_129 : decode cX12_costOfRow 129 = .ok (.iaload, 1) := by decide +kernel
theorem dX12_costOfRow_130 : decode cX12_costOfRow 130 = .ok (.if_icmp .ne 7, 3) := by decide +kernel
theorem dX12_costOfRow_133 : decode cX12_costOfRow 133 = .ok (.iconst 1, 1) := by decide +kernel
theorem dX12_costOfRow_134 : decode cX12_costOfRow 134 = .ok (.goto 5, 3) := by decide +kernel
theorem dX12_costOfRow_137 : decode cX12_costOfRow 137 = .ok (.iload 4, 2) := by decide +kernel
theorem dX12_costOfRow_139 : decode cX12_costOfRow 139 = .ok (.istore 4, 2) := by decide +kernel
theorem dX12_costOfRow_141 : decode cX12_costOfRow 141 = .ok (.iinc 5 1, 3) := by decide +kernel
theorem dX12_costOfRow_144 : decode cX12_costOfRow 144 = .ok (.goto (-44), 3) := by decide +kernel
theorem dX12_costOfRow_147 : decode cX12_costOfRow 147 = .ok (.iload_n 1, 1) := by decide +kernel
theorem dX12_costOfRow_148 : decode cX12_costOfRow 148 = .ok (.aload_n 0, 1) := by decide +kernel
theorem dX12_costOfRow_149 : decode cX12_costOfRow 149 = .ok (.iload_n 2, 1) := by decide +kernel
theorem dX12_costOfRow_150 : decode cX12_costOfRow 150 = .ok (.aload_n 0, 1) := by decide +kernel
theorem dX12_costOfRow_151 : decode cX12_costOfRow 151 = .ok (.getfield 24, 3) := by decide +kernel
theorem dX12_costOfRow_154 : decode cX12_costOfRow 154 = .ok (.sipush 313, 3) := by decide +kernel
theorem dX12_costOfRow_157 : decode cX12_costOfRow 157 = .ok (.iaload, 1) := by decide +kernel
theorem dX12_costOfRow_158 : decode cX12_costOfRow 158 = .ok (.aload_n 0, 1) := by decide +kernel
theorem dX12_costOfRow_159 : decode cX12_costOfRow 159 = .ok (.getfield 86, 3) := by decide +kernel
theorem dX12_costOfRow_162 : decode cX12_costOfRow 162 = .ok (.iload_n 2, 1) := by decide +kernel
theorem dX12_costOfRow_163 : decode cX12_costOfRow 163 = .ok (.iaload, 1) := by decide +kernel
theorem dX12_costOfRow_164 : decode cX12_costOfRow 164 = .ok (.isub, 1) := by decide +kernel
theorem dX12_costOfRow_165 : decode cX12_costOfRow 165 = .ok (.aload_n 0, 1) := by decide +kernel
theorem dX12_costOfRow_166 : decode cX12_costOfRow 166 = .ok (.getfield 89, 3) := by decide +kernel
theorem dX12_costOfRow_169 : decode cX12_costOfRow 169 = .ok (.iload_n 2, 1) := by decide +kernel
theorem dX12_costOfRow_170 : decode cX12_costOfRow 170 = .ok (.iconst 1, 1) := by decide +kernel
theorem dX12_costOfRow_171 : decode cX12_costOfRow 171 = .ok (.iadd, 1) := by decide +kernel
theorem dX12_costOfRow_172 : decode cX12_costOfRow 172 = .ok (.iaload, 1) := by decide +kernel
theorem dX12_costOfRow_173 : decode cX12_costOfRow 173 = .ok (.aload_n 0, 1) := by decide +kernel
theorem dX12_costOfRow_174 : decode cX12_costOfRow 174 = .ok (.getfield 89, 3) := by decide +kernel
theorem dX12_costOfRow_177 : decode cX12_costOfRow 177 = .ok (.iload_n 2, 1) := by decide +kernel
theorem dX12_costOfRow_178 : decode cX12_costOfRow 178 = .ok (.iaload, 1) := by decide +kernel
theorem dX12_costOfRow_179 : decode cX12_costOfRow 179 = .ok (.isub, 1) := by decide +kernel
theorem dX12_costOfRow_180 : decode cX12_costOfRow 180 = .ok (.iload_n 3, 1) := by decide +kernel
theorem dX12_costOfRow_181 : decode cX12_costOfRow 181 = .ok (.iload 4, 2) := by decide +kernel
theorem dX12_costOfRow_183 : decode cX12_costOfRow 183 = .ok (.invokevirtual 313, 3) := by decide +kernel
theorem dX12_costOfRow_186 : decode cX12_costOfRow 186 = .ok (.iadd, 1) := by decide +kernel
theorem dX12_costOfRow_187 : decode cX12_costOfRow 187 = .ok (.istore_n 1, 1) := by decide +kernel
theorem dX12_costOfRow_188 : decode cX12_costOfRow 188 = .ok (.iinc 2 1, 3) := by decide +kernel
theorem dX12_costOfRow_191 : decode cX12_costOfRow 191 = .ok (.goto (-157), 3) := by decide +kernel
theorem dX12_costOfRow_194 : decode cX12_costOfRow 194 = .ok (.iload_n 1, 1) := by decide +kernel
theorem dX12_costOfRow_195 : decode cX12_costOfRow 195 = .ok (.ireturn, 1) := by decide +kernel
theorem dX12_tellsRow_0 : decode cX12_tellsRow 0 = .ok (.iload_n 2, 1) := by decide +kernel
theorem dX12_tellsRow_1 : decode cX12_tellsRow 1 = .ok (.bipush 9, 2) := by decide +kernel
theorem dX12_tellsRow_3 : decode cX12_tellsRow 3 = .ok (.if_icmp .ge 9, 3) := by decide +kernel
theorem dX12_tellsRow_6 : decode cX12_tellsRow 6 = .ok (.iload_n 2, 1) := by decide +kernel
theorem dX12_tellsRow_7 : decode cX12_tellsRow 7 = .ok (.iconst 3, 1) := by decide +kernel
theorem dX12_tellsRow_8 : decode cX12_tellsRow 8 = .ok (.isub, 1) := by decide +kernel
theorem dX12_tellsRow_9 : decode cX12_tellsRow 9 = .ok (.goto 7, 3) := by decide +kernel
theorem dX12_tellsRow_12 : decode cX12_tellsRow 12 = .ok (.iload_n 2, 1) := by decide +kernel
theorem dX12_tellsRow_13 : decode cX12_tellsRow 13 = .ok (.bipush 9, 2) := by decide +kernel
theorem dX12_tellsRow_15 : decode cX12_tellsRow 15 = .ok (.isub, 1) := by decide +kernel
theorem dX12_tellsRow_16 : decode cX12_tellsRow 16 = .ok (.istore_n 3, 1) := by decide +kernel
theorem dX12_tellsRow_17 : decode cX12_tellsRow 17 = .ok (.iload_n 3, 1) := by decide +kernel
theorem dX12_tellsRow_18 : decode cX12_tellsRow 18 = .ok (.aload_n 0, 1) := by decide +kernel
theorem dX12_tellsRow_19 : decode cX12_tellsRow 19 = .ok (.invokevirtual 333, 3) := by decide +kernel
theorem dX12_tellsRow_22 : decode cX12_tellsRow 22 = .ok (.if_icmp .lt 5, 3) := by decide +kernel
theorem dX12_tellsRow_25 : decode cX12_tellsRow 25 = .ok (.iconst (-1), 1) := by decide +kernel
theorem dX12_tellsRow_26 : decode cX12_tellsRow 26 = .ok (.ireturn, 1) := by decide +kernel
theorem dX12_tellsRow_27 : decode cX12_tellsRow 27 = .ok (.aload_n 0, 1) := by decide +kernel
theorem dX12_tellsRow_28 : decode cX12_tellsRow 28 = .ok (.iload_n 1, 1) := by decide +kernel
theorem dX12_tellsRow_29 : decode cX12_tellsRow 29 = .ok (.invokevirtual 348, 3) := by decide +kernel
theorem dX12_tellsRow_32 : decode cX12_tellsRow 32 = .ok (.pop, 1) := by decide +kernel
theorem dX12_tellsRow_33 : decode cX12_tellsRow 33 = .ok (.iload_n 2, 1) := by decide +kernel
theorem dX12_tellsRow_34 : decode cX12_tellsRow 34 = .ok (.bipush 9, 2) := by decide +kernel
theorem dX12_tellsRow_36 : decode cX12_tellsRow 36 = .ok (.if_icmp .ge 12, 3) := by decide +kernel
theorem dX12_tellsRow_39 : decode cX12_tellsRow 39 = .ok (.aload_n 0, 1) := by decide +kernel
theorem dX12_tellsRow_40 : decode cX12_tellsRow 40 = .ok (.getfield 74, 3) := by decide +kernel
theorem dX12_tellsRow_43 : decode cX12_tellsRow 43 = .ok (.iload_n 3, 1) := by decide +kernel
theorem dX12_tellsRow_44 : decode cX12_tellsRow 44 = .ok (.iaload, 1) := by decide +kernel
theorem dX12_tellsRow_45 : decode cX12_tellsRow 45 = .ok (.goto 9, 3) := by decide +kernel
theorem dX12_tellsRow_48 : decode cX12_tellsRow 48 = .ok (.aload_n 0, 1) := by decide +kernel
theorem dX12_tellsRow_49 : decode cX12_tellsRow 49 = .ok (.getfield 77, 3) := by decide +kernel
theorem dX12_tellsRow_52 : decode cX12_tellsRow 52 = .ok (.iload_n 3, 1) := by decide +kernel
theorem dX12_tellsRow_53 : decode cX12_tellsRow 53 = .ok (.iaload, 1) := by decide +kernel
theorem dX12_tellsRow_54 : decode cX12_tellsRow 54 = .ok (.ireturn, 1) := by decide +kernel
theorem dX12_fit_0 : decode cX12_fit 0 = .ok (.iload_n 1, 1) := by decide +kernel
theorem dX12_fit_1 : decode cX12_fit 1 = .ok (.iconst 0, 1) := by decide +kernel
theorem dX12_fit_2 : decode cX12_fit 2 = .ok (.bipush 14, 2) := by decide +kernel
theorem dX12_fit_4 : decode cX12_fit 4 = .ok (.invokestatic 101, 3) := by decide +kernel
theorem dX12_fit_7 : decode cX12_fit 7 = .ok (.ifCond .eq 10, 3) := by decide +kernel
theorem dX12_fit_10 : decode cX12_fit 10 = .ok (.aload_n 0, 1) := by decide +kernel
theorem dX12_fit_11 : decode cX12_fit 11 = .ok (.invokevirtual 333, 3) := by decide +kernel
theorem dX12_fit_14 : decode cX12_fit 14 = .ok (.ifCond .ne 5, 3) := by decide +kernel
theorem dX12_fit_17 : decode cX12_fit 17 = .ok (.iconst (-1), 1) := by decide +kernel
theorem dX12_fit_18 : decode cX12_fit 18 = .ok (.ireturn, 1) := by decide +kernel
theorem dX12_fit_19 : decode cX12_fit 19 = .ok (.aload_n 0, 1) := by decide +kernel
theorem dX12_fit_20 : decode cX12_fit 20 = .ok (.aload_n 0, 1) := by decide +kernel
theorem dX12_fit_21 : decode cX12_fit 21 = .ok (.getfield 24, 3) := by decide +kernel
theorem dX12_fit_24 : decode cX12_fit 24 = .ok (.sipush 315, 3) := by decide +kernel
theorem dX12_fit_27 : decode cX12_fit 27 = .ok (.iaload, 1) := by decide +kernel
theorem dX12_fit_28 : decode cX12_fit 28 = .ok (.invokevirtual 351, 3) := by decide +kernel
theorem dX12_fit_31 : decode cX12_fit 31 = .ok (.iconst (-1), 1) := by decide +kernel
theorem dX12_fit_32 : decode cX12_fit 32 = .ok (.istore_n 2, 1) := by decide +kernel
theorem dX12_fit_33 : decode cX12_fit 33 = .ok (.ldc 153, 2) := by decide +kernel
theorem dX12_fit_35 : decode cX12_fit 35 = .ok (.istore_n 3, 1) := by decide +kernel
theorem dX12_fit_36 : decode cX12_fit 36 = .ok (.iconst 0, 1) := by decide +kernel
theorem dX12_fit_37 : decode cX12_fit 37 = .ok (.istore 4, 2) := by decide +kernel
theorem dX12_fit_39 : decode cX12_fit 39 = .ok (.iconst 0, 1) := by decide +kernel
theorem dX12_fit_40 : decode cX12_fit 40 = .ok (.istore 5, 2) := by decide +kernel
theorem dX12_fit_42 : decode cX12_fit 42 = .ok (.iload 5, 2) := by decide +kernel
theorem dX12_fit_44 : decode cX12_fit 44 = .ok (.aload_n 0, 1) := by decide +kernel
theorem dX12_fit_45 : decode cX12_fit 45 = .ok (.getfield 336, 3) := by decide +kernel
theorem dX12_fit_48 : decode cX12_fit 48 = .ok (.if_icmp .ge 60, 3) := by decide +kernel
theorem dX12_fit_51 : decode cX12_fit 51 = .ok (.aload_n 0, 1) := by decide +kernel
theorem dX12_fit_52 : decode cX12_fit 52 = .ok (.iload 5, 2) := by decide +kernel
theorem dX12_fit_54 : decode cX12_fit 54 = .ok (.invokevirtual 348, 3) := by decide +kernel
theorem dX12_fit_57 : decode cX12_fit 57 = .ok (.ifCond .eq 45, 3) := by decide +kernel
theorem dX12_fit_60 : decode cX12_fit 60 = .ok (.aload_n 0, 1) := by decide +kernel
theorem dX12_fit_61 : decode cX12_fit 61 = .ok (.invokevirtual 354, 3) := by decide +kernel
theorem dX12_fit_64 : decode cX12_fit 64 = .ok (.aload_n 0, 1) := by decide +kernel
theorem dX12_fit_65 : decode cX12_fit 65 = .ok (.getfield 24, 3) := by decide +kernel
theorem dX12_fit_68 : decode cX12_fit 68 = .ok (.sipush 313, 3) := by decide +kernel
theorem dX12_fit_71 : decode cX12_fit 71 = .ok (.iaload, 1) := by decide +kernel
theorem dX12_fit_72 : decode cX12_fit 72 = .ok (.if_icmp .le 6, 3) := by decide +kernel
theorem dX12_fit_75 : decode cX12_fit 75 = .ok (.goto 27, 3) := by decide +kernel
theorem dX12_fit_78 : decode cX12_fit 78 = .ok (.iinc 4 1, 3) := by decide +kernel
theorem dX12_fit_81 : decode cX12_fit 81 = .ok (.aload_n 0, 1) := by decide +kernel
theorem dX12_fit_82 : decode cX12_fit 82 = .ok (.invokevirtual 357, 3) := by decide +kernel
theorem dX12_fit_85 : decode cX12_fit 85 = .ok (.istore 6, 2) := by decide +kernel
theorem dX12_fit_87 : decode cX12_fit 87 = .ok (.iload 6, 2) := by decide +kernel
theorem dX12_fit_89 : decode cX12_fit 89 = .ok (.iload_n 3, 1) := by decide +kernel
theorem dX12_fit_90 : decode cX12_fit 90 = .ok (.if_icmp .lt 6, 3) := by decide +kernel
theorem dX12_fit_93 : decode cX12_fit 93 = .ok (.goto 9, 3) := by decide +kernel
theorem dX12_fit_96 : decode cX12_fit 96 = .ok (.iload 6, 2) := by decide +kernel
theorem dX12_fit_98 : decode cX12_fit 98 = .ok (.istore_n 3, 1) := by decide +kernel
theorem dX12_fit_99 : decode cX12_fit 99 = .ok (.iload 5, 2) := by decide +kernel
theorem dX12_fit_101 : decode cX12_fit 101 = .ok (.istore_n 2, 1) := by decide +kernel
theorem dX12_fit_102 : decode cX12_fit 102 = .ok (.iinc 5 1, 3) := by decide +kernel
theorem dX12_fit_105 : decode cX12_fit 105 = .ok (.goto (-63), 3) := by decide +kernel
theorem dX12_fit_108 : decode cX12_fit 108 = .ok (.iload_n 1, 1) := by decide +kernel
theorem dX12_fit_109 : decode cX12_fit 109 = .ok (.iconst 1, 1) := by decide +kernel
theorem dX12_fit_110 : decode cX12_fit 110 = .ok (.if_icmp .eq 8, 3) := by decide +kernel
theorem dX12_fit_113 : decode cX12_fit 113 = .ok (.iload_n 2, 1) := by decide +kernel
theorem dX12_fit_114 : decode cX12_fit 114 = .ok (.iconst (-1), 1) := by decide +kernel
theorem dX12_fit_115 : decode cX12_fit 115 = .ok (.if_icmp .ne 15, 3) := by decide +kernel
theorem dX12_fit_118 : decode cX12_fit 118 = .ok (.iload_n 1, 1) := by decide +kernel
theorem dX12_fit_119 : decode cX12_fit 119 = .ok (.iconst 1, 1) := by decide +kernel
theorem dX12_fit_120 : decode cX12_fit 120 = .ok (.if_icmp .ne 8, 3) := by decide +kernel
theorem dX12_fit_123 : decode cX12_fit 123 = .ok (.iload 4, 2) := by decide +kernel
theorem dX12_fit_125 : decode cX12_fit 125 = .ok (.goto 4, 3) := by decide +kernel
theorem dX12_fit_128 : decode cX12_fit 128 = .ok (.iconst (-1), 1) := by decide +kernel
theorem dX12_fit_129 : decode cX12_fit 129 = .ok (.ireturn, 1) := by decide +kernel
theorem dX12_fit_130 : decode cX12_fit 130 = .ok (.iload_n 1, 1) := by decide +kernel
theorem dX12_fit_131 : decode cX12_fit 131 = .ok (.ifCond .ne 5, 3) := by decide +kernel
theorem dX12_fit_134 : decode cX12_fit 134 = .ok (.iload_n 3, 1) := by decide +kernel
theorem dX12_fit_135 : decode cX12_fit 135 = .ok (.ireturn, 1) := by decide +kernel
theorem dX12_fit_136 : decode cX12_fit 136 = .ok (.iload_n 1, 1) := by decide +kernel
theorem dX12_fit_137 : decode cX12_fit 137 = .ok (.iconst 2, 1) := by decide +kernel
theorem dX12_fit_138 : decode cX12_fit 138 = .ok (.if_icmp .le 10, 3) := by decide +kernel
theorem dX12_fit_141 : decode cX12_fit 141 = .ok (.aload_n 0, 1) := by decide +kernel
theorem dX12_fit_142 : decode cX12_fit 142 = .ok (.iload_n 2, 1) := by decide +kernel
theorem dX12_fit_143 : decode cX12_fit 143 = .ok (.iload_n 1, 1) := by decide +kernel
theorem dX12_fit_144 : decode cX12_fit 144 = .ok (.invokevirtual 360, 3) := by decide +kernel
theorem dX12_fit_147 : decode cX12_fit 147 = .ok (.ireturn, 1) := by decide +kernel
theorem dX12_fit_148 : decode cX12_fit 148 = .ok (.aload_n 0, 1) := by decide +kernel
theorem dX12_fit_149 : decode cX12_fit 149 = .ok (.iload_n 2, 1) := by decide +kernel
theorem dX12_fit_150 : decode cX12_fit 150 = .ok (.invokevirtual 348, 3) := by decide +kernel
theorem dX12_fit_153 : decode cX12_fit 153 = .ok (.pop, 1) := by decide +kernel
theorem dX12_fit_154 : decode cX12_fit 154 = .ok (.aload_n 0, 1) := by decide +kernel
theorem dX12_fit_155 : decode cX12_fit 155 = .ok (.getfield 345, 3) := by decide +kernel
theorem dX12_fit_158 : decode cX12_fit 158 = .ok (.ireturn, 1) := by decide +kernel
theorem dX12_leastBroad_0 : decode cX12_leastBroad 0 = .ok (.aload_n 0, 1) := by decide +kernel
theorem dX12_leastBroad_1 : decode cX12_leastBroad 1 = .ok (.iload_n 1, 1) := by decide +kernel
theorem dX12_leastBroad_2 : decode cX12_leastBroad 2 = .ok (.invokevirtual 351, 3) := by decide +kernel
theorem dX12_leastBroad_5 : decode cX12_leastBroad 5 = .ok (.ldc 153, 2) := by decide +kernel
theorem dX12_leastBroad_7 : decode cX12_leastBroad 7 = .ok (.istore_n 2, 1) := by decide +kernel
theorem dX12_leastBroad_8 : decode cX12_leastBroad 8 = .ok (.iconst 0, 1) := by decide +kernel
theorem dX12_leastBroad_9 : decode cX12_leastBroad 9 = .ok (.istore_n 3, 1) := by decide +kernel
theorem dX12_leastBroad_10 : decode cX12_leastBroad 10 = .ok (.iload_n 3, 1) := by decide +kernel
theorem dX12_leastBroad_11 : decode cX12_leastBroad 11 = .ok (.aload_n 0, 1) := by decide +kernel
theorem dX12_leastBroad_12 : decode cX12_leastBroad 12 = .ok (.getfield 336, 3) := by decide +kernel
theorem dX12_leastBroad_15 : decode cX12_leastBroad 15 = .ok (.if_icmp .ge 30, 3) := by decide +kernel
theorem dX12_leastBroad_18 : decode cX12_leastBroad 18 = .ok (.aload_n 0, 1) := by decide +kernel
theorem dX12_leastBroad_19 : decode cX12_leastBroad 19 = .ok (.iload_n 3, 1) := by decide +kernel
theorem dX12_leastBroad_20 : decode cX12_leastBroad 20 = .ok (.invokevirtual 348, 3) := by decide +kernel
theorem dX12_leastBroad_23 : decode cX12_leastBroad 23 = .ok (.ifCond .eq 16, 3) := by decide +kernel
theorem dX12_leastBroad_26 : decode cX12_leastBroad 26 = .ok (.aload_n 0, 1) := by decide +kernel
theorem dX12_leastBroad_27 : decode cX12_leastBroad 27 = .ok (.invokevirtual 354, 3) := by decide +kernel
theorem dX12_leastBroad_30 : decode cX12_leastBroad 30 = .ok (.iload_n 2, 1) := by decide +kernel
theorem dX12_leastBroad_31 : decode cX12_leastBroad 31 = .ok (.if_icmp .ge 8, 3) := by decide +kernel
theorem dX12_leastBroad_34 : decode cX12_leastBroad 34 = .ok (.aload_n 0, 1) := by decide +kernel
theorem dX12_leastBroad_35 : decode cX12_leastBroad 35 = .ok (.invokevirtual 354, 3) := by decide +kernel
theorem dX12_leastBroad_38 : decode cX12_leastBroad 38 = .ok (.istore_n 2, 1) := by decide +kernel
theorem dX12_leastBroad_39 : decode cX12_leastBroad 39 = .ok (.iinc 3 1, 3) := by decide +kernel
theorem dX12_leastBroad_42 : decode cX12_leastBroad 42 = .ok (.goto (-32), 3) := by decide +kernel
theorem dX12_leastBroad_45 : decode cX12_leastBroad 45 = .ok (.iload_n 2, 1) := by decide +kernel
theorem dX12_leastBroad_46 : decode cX12_leastBroad 46 = .ok (.ireturn, 1) := by decide +kernel
theorem dX12_over_0 : decode cX12_over 0 = .ok (.aload_n 0, 1) := by decide +kernel
theorem dX12_over_1 : decode cX12_over 1 = .ok (.aload_n 0, 1) := by decide +kernel
theorem dX12_over_2 : decode cX12_over 2 = .ok (.getfield 24, 3) := by decide +kernel
theorem dX12_over_5 : decode cX12_over 5 = .ok (.sipush 315, 3) := by decide +kernel
theorem dX12_over_8 : decode cX12_over 8 = .ok (.iaload, 1) := by decide +kernel
theorem dX12_over_9 : decode cX12_over 9 = .ok (.invokevirtual 363, 3) := by decide +kernel
theorem dX12_over_12 : decode cX12_over 12 = .ok (.istore_n 1, 1) := by decide +kernel
theorem dX12_over_13 : decode cX12_over 13 = .ok (.iload_n 1, 1) := by decide +kernel
theorem dX12_over_14 : decode cX12_over 14 = .ok (.ldc 153, 2) := by decide +kernel
theorem dX12_over_16 : decode cX12_over 16 = .ok (.if_icmp .lt 7, 3) := by decide +kernel
theorem dX12_over_19 : decode cX12_over 19 = .ok (.iconst (-1), 1) := by decide +kernel
theorem dX12_over_20 : decode cX12_over 20 = .ok (.goto 17, 3) := by decide +kernel
theorem dX12_over_23 : decode cX12_over 23 = .ok (.iconst 0, 1) := by decide +kernel
theorem dX12_over_24 : decode cX12_over 24 = .ok (.iload_n 1, 1) := by decide +kernel
theorem dX12_over_25 : decode cX12_over 25 = .ok (.aload_n 0, 1) := by decide +kernel
theorem dX12_over_26 : decode cX12_over 26 = .ok (.getfield 24, 3) := by decide +kernel
theorem dX12_over_29 : decode cX12_over 29 = .ok (.sipush 313, 3) := by decide +kernel
theorem dX12_over_32 : decode cX12_over 32 = .ok (.iaload, 1) := by decide +kernel
theorem dX12_over_33 : decode cX12_over 33 = .ok (.isub, 1) := by decide +kernel
theorem dX12_over_34 : decode cX12_over 34 = .ok (.invokestatic 298, 3) := by decide +kernel
theorem dX12_over_37 : decode cX12_over 37 = .ok (.ireturn, 1) := by decide +kernel
theorem dX12_narrow_0 : decode cX12_narrow 0 = .ok (.aload_n 0, 1) := by decide +kernel
theorem dX12_narrow_1 : decode cX12_narrow 1 = .ok (.aload_n 0, 1) := by decide +kernel
theorem dX12_narrow_2 : decode cX12_narrow 2 = .ok (.getfield 24, 3) := by decide +kernel
theorem dX12_narrow_5 : decode cX12_narrow 5 = .ok (.sipush 315, 3) := by decide +kernel
theorem dX12_narrow_8 : decode cX12_narrow 8 = .ok (.iaload, 1) := by decide +kernel
theorem dX12_narrow_9 : decode cX12_narrow 9 = .ok (.invokevirtual 363, 3) := by decide +kernel
theorem dX12_narrow_12 : decode cX12_narrow 12 = .ok (.istore_n 1, 1) := by decide +kernel
theorem dX12_narrow_13 : decode cX12_narrow 13 = .ok (.iload_n 1, 1) := by decide +kernel
theorem dX12_narrow_14 : decode cX12_narrow 14 = .ok (.ldc 153, 2) := by decide +kernel
theorem dX12_narrow_16 : decode cX12_narrow 16 = .ok (.if_icmp .lt 7, 3) := by decide +kernel
theorem dX12_narrow_19 : decode cX12_narrow 19 = .ok (.iconst (-1), 1) := by decide +kernel
theorem dX12_narrow_20 : decode cX12_narrow 20 = .ok (.goto 4, 3) := by decide +kernel
theorem dX12_narrow_23 : decode cX12_narrow 23 = .ok (.iload_n 1, 1) := by decide +kernel
theorem dX12_narrow_24 : decode cX12_narrow 24 = .ok (.ireturn, 1) := by decide +kernel
theorem dX12_largest_0 : decode cX12_largest 0 = .ok (.iconst 2, 1) := by decide +kernel
theorem dX12_largest_1 : decode cX12_largest 1 = .ok (.istore_n 1, 1) := by decide +kernel
theorem dX12_largest_2 : decode cX12_largest 2 = .ok (.iload_n 1, 1) := by decide +kernel
theorem dX12_largest_3 : decode cX12_largest 3 = .ok (.ifCond .lt 27, 3) := by decide +kernel
theorem dX12_largest_6 : decode cX12_largest 6 = .ok (.aload_n 0, 1) := by decide +kernel
theorem dX12_largest_7 : decode cX12_largest 7 = .ok (.iload_n 1, 1) := by decide +kernel
theorem dX12_largest_8 : decode cX12_largest 8 = .ok (.invokevirtual 363, 3) := by decide +kernel
theorem dX12_largest_11 : decode cX12_largest 11 = .ok (.aload_n 0, 1) := by decide +kernel
theorem dX12_largest_12 : decode cX12_largest 12 = .ok (.getfield 24, 3) := by decide +kernel
theorem dX12_largest_15 : decode cX12_largest 15 = .ok (.sipush 313, 3) := by decide +kernel
theorem dX12_largest_18 : decode cX12_largest 18 = .ok (.iaload, 1) := by decide +kernel
theorem dX12_largest_19 : decode cX12_largest 19 = .ok (.if_icmp .gt 5, 3) := by decide +kernel
theorem dX12_largest_22 : decode cX12_largest 22 = .ok (.iload_n 1, 1) := by decide +kernel
theorem dX12_largest_23 : decode cX12_largest 23 = .ok (.ireturn, 1) := by decide +kernel
theorem dX12_largest_24 : decode cX12_largest 24 = .ok (.iinc 1 (-1), 3) := by decide +kernel
theorem dX12_largest_27 : decode cX12_largest 27 = .ok (.goto (-25), 3) := by decide +kernel
theorem dX12_largest_30 : decode cX12_largest 30 = .ok (.iconst (-1), 1) := by decide +kernel
theorem dX12_largest_31 : decode cX12_largest 31 = .ok (.ireturn, 1) := by decide +kernel
theorem dX12_truest_0 : decode cX12_truest 0 = .ok (.iload_n 1, 1) := by decide +kernel
theorem dX12_truest_1 : decode cX12_truest 1 = .ok (.iconst 0, 1) := by decide +kernel
theorem dX12_truest_2 : decode cX12_truest 2 = .ok (.bipush 14, 2) := by decide +kernel
theorem dX12_truest_4 : decode cX12_truest 4 = .ok (.invokestatic 101, 3) := by decide +kernel
theorem dX12_truest_7 : decode cX12_truest 7 = .ok (.ifCond .ne 5, 3) := by decide +kernel
theorem dX12_truest_10 : decode cX12_truest 10 = .ok (.iconst (-1), 1) := by decide +kernel
theorem dX12_truest_11 : decode cX12_truest 11 = .ok (.ireturn, 1) := by decide +kernel
theorem dX12_truest_12 : decode cX12_truest 12 = .ok (.aload_n 0, 1) := by decide +kernel
theorem dX12_truest_13 : decode cX12_truest 13 = .ok (.aload_n 0, 1) := by decide +kernel
theorem dX12_truest_14 : decode cX12_truest 14 = .ok (.getfield 24, 3) := by decide +kernel
theorem dX12_truest_17 : decode cX12_truest 17 = .ok (.sipush 315, 3) := by decide +kernel
theorem dX12_truest_20 : decode cX12_truest 20 = .ok (.iaload, 1) := by decide +kernel
theorem dX12_truest_21 : decode cX12_truest 21 = .ok (.invokevirtual 351, 3) := by decide +kernel
theorem dX12_truest_24 : decode cX12_truest 24 = .ok (.iconst (-1), 1) := by decide +kernel
theorem dX12_truest_25 : decode cX12_truest 25 = .ok (.istore_n 2, 1) := by decide +kernel
theorem dX12_truest_26 : decode cX12_truest 26 = .ok (.ldc2_w 366, 3) := by decide +kernel
theorem dX12_truest_29 : decode cX12_truest 29 = .ok (.lstore_n 3, 1) := by decide +kernel
theorem dX12_truest_30 : decode cX12_truest 30 = .ok (.lconst 1, 1) := by decide +kernel
theorem dX12_truest_31 : decode cX12_truest 31 = .ok (.lstore 5, 2) := by decide +kernel
theorem dX12_truest_33 : decode cX12_truest 33 = .ok (.iconst 0, 1) := by decide +kernel
theorem dX12_truest_34 : decode cX12_truest 34 = .ok (.istore 7, 2) := by decide +kernel
theorem dX12_truest_36 : decode cX12_truest 36 = .ok (.iload 7, 2) := by decide +kernel
theorem dX12_truest_38 : decode cX12_truest 38 = .ok (.aload_n 0, 1) := by decide +kernel
theorem dX12_truest_39 : decode cX12_truest 39 = .ok (.invokevirtual 333, 3) := by decide +kernel
theorem dX12_truest_42 : decode cX12_truest 42 = .ok (.if_icmp .ge 17, 3) := by decide +kernel
theorem dX12_truest_45 : decode cX12_truest 45 = .ok (.lload 5, 2) := by decide +kernel
theorem dX12_truest_47 : decode cX12_truest 47 = .ok (.ldc2_w 368, 3) := by decide +kernel
theorem dX12_truest_50 : decode cX12_truest 50 = .ok (.lmul, 1) := by decide +kernel
theorem dX12_truest_51 : decode cX12_truest 51 = .ok (.lstore 5, 2) := by decide +kernel
theorem dX12_truest_53 : decode cX12_truest 53 = .ok (.iinc 7 1, 3) := by decide +kernel
theorem dX12_truest_56 : decode cX12_truest 56 = .ok (.goto (-20), 3) := by decide +kernel
theorem dX12_truest_59 : decode cX12_truest 59 = .ok (.iconst 0, 1) := by decide +kernel
theorem dX12_truest_60 : decode cX12_truest 60 = .ok (.istore 7, 2) := by decide +kernel
theorem dX12_truest_62 : decode cX12_truest 62 = .ok (.iload 7, 2) := by decide +kernel
theorem dX12_truest_64 : decode cX12_truest 64 = .ok (.aload_n 0, 1) := by decide +kernel
theorem dX12_truest_65 : decode cX12_truest 65 = .ok (.getfield 336, 3) := by decide +kernel
theorem dX12_truest_68 : decode cX12_truest 68 = .ok (.if_icmp .ge 91, 3) := by decide +kernel
theorem dX12_truest_71 : decode cX12_truest 71 = .ok (.aload_n 0, 1) := by decide +kernel
theorem dX12_truest_72 : decode cX12_truest 72 = .ok (.iload 7, 2) := by decide +kernel
theorem dX12_truest_74 : decode cX12_truest 74 = .ok (.invokevirtual 348, 3) := by decide +kernel
theorem dX12_truest_77 : decode cX12_truest 77 = .ok (.ifCond .eq 76, 3) := by decide +kernel
theorem dX12_truest_80 : decode cX12_truest 80 = .ok (.aload_n 0, 1) := by decide +kernel
theorem dX12_truest_81 : decode cX12_truest 81 = .ok (.invokevirtual 354, 3) := by decide +kernel
theorem dX12_truest_84 : decode cX12_truest 84 = .ok (.aload_n 0, 1) := by decide +kernel
theorem dX12_truest_85 : decode cX12_truest 85 = .ok (.getfield 24, 3) := by decide +kernel
theorem dX12_truest_88 : decode cX12_truest 88 = .ok (.sipush 313, 3) := by decide +kernel
theorem dX12_truest_91 : decode cX12_truest 91 = .ok (.iaload, 1) := by decide +kernel
theorem dX12_truest_92 : decode cX12_truest 92 = .ok (.if_icmp .le 6, 3) := by decide +kernel
theorem dX12_truest_95 : decode cX12_truest 95 = .ok (.goto 58, 3) := by decide +kernel
theorem dX12_truest_98 : decode cX12_truest 98 = .ok (.lconst 1, 1) := by decide +kernel
theorem dX12_truest_99 : decode cX12_truest 99 = .ok (.lstore 8, 2) := by decide +kernel
theorem dX12_truest_101 : decode cX12_truest 101 = .ok (.iconst 0, 1) := by decide +kernel
theorem dX12_truest_102 : decode cX12_truest 102 = .ok (.istore 10, 2) := by decide +kernel
theorem dX12_truest_104 : decode cX12_truest 104 = .ok (.iload 10, 2) := by decide +kernel
theorem dX12_truest_106 : decode cX12_truest 106 = .ok (.aload_n 0, 1) := by decide +kernel
theorem dX12_truest_107 : decode cX12_truest 107 = .ok (.invokevirtual 333, 3) := by decide +kernel
theorem dX12_truest_110 : decode cX12_truest 110 = .ok (.if_icmp .ge 27, 3) := by decide +kernel
theorem dX12_truest_113 : decode cX12_truest 113 = .ok (.lload 8, 2) := by decide +kernel
theorem dX12_truest_115 : decode cX12_truest 115 = .ok (.aload_n 0, 1) := by decide +kernel
