theorem dX1_becomeOdds_0 : decode cX1_becomeOdds 0 = .ok (.iload_n 1, 1) := by decide +kernel
theorem dX1_becomeOdds_1 : decode cX1_becomeOdds 1 = .ok (.iload_n 2, 1) := by decide +kernel
theorem dX1_becomeOdds_2 : decode cX1_becomeOdds 2 = .ok (.invokestatic 18, 3) := by decide +kernel
theorem dX1_becomeOdds_5 : decode cX1_becomeOdds 5 = .ok (.lstore 5, 2) := by decide +kernel
theorem dX1_becomeOdds_7 : decode cX1_becomeOdds 7 = .ok (.lconst 0, 1) := by decide +kernel
theorem dX1_becomeOdds_8 : decode cX1_becomeOdds 8 = .ok (.lstore 7, 2) := by decide +kernel
theorem dX1_becomeOdds_10 : decode cX1_becomeOdds 10 = .ok (.lconst 1, 1) := by decide +kernel
theorem dX1_becomeOdds_11 : decode cX1_becomeOdds 11 = .ok (.lstore 9, 2) := by decide +kernel
theorem dX1_becomeOdds_13 : decode cX1_becomeOdds 13 = .ok (.iconst 0, 1) := by decide +kernel
theorem dX1_becomeOdds_14 : decode cX1_becomeOdds 14 = .ok (.istore 11, 2) := by decide +kernel
theorem dX1_becomeOdds_16 : decode cX1_becomeOdds 16 = .ok (.iload 11, 2) := by decide +kernel
theorem dX1_becomeOdds_18 : decode cX1_becomeOdds 18 = .ok (.iload_n 3, 1) := by decide +kernel
theorem dX1_becomeOdds_19 : decode cX1_becomeOdds 19 = .ok (.if_icmp .gt 71, 3) := by decide +kernel
theorem dX1_becomeOdds_22 : decode cX1_becomeOdds 22 = .ok (.lload 9, 2) := by decide +kernel
theorem dX1_becomeOdds_24 : decode cX1_becomeOdds 24 = .ok (.iload 4, 2) := by decide +kernel
theorem dX1_becomeOdds_26 : decode cX1_becomeOdds 26 = .ok (.iload 11, 2) := by decide +kernel
theorem dX1_becomeOdds_28 : decode cX1_becomeOdds 28 = .ok (.invokestatic 22, 3) := by decide +kernel
theorem dX1_becomeOdds_31 : decode cX1_becomeOdds 31 = .ok (.lmul, 1) := by decide +kernel
theorem dX1_becomeOdds_32 : decode cX1_becomeOdds 32 = .ok (.bipush 10, 2) := by decide +kernel
theorem dX1_becomeOdds_34 : decode cX1_becomeOdds 34 = .ok (.iload 4, 2) := by decide +kernel
theorem dX1_becomeOdds_36 : decode cX1_becomeOdds 36 = .ok (.isub, 1) := by decide +kernel
theorem dX1_becomeOdds_37 : decode cX1_becomeOdds 37 = .ok (.iload_n 3, 1) := by decide +kernel
theorem dX1_becomeOdds_38 : decode cX1_becomeOdds 38 = .ok (.iload 11, 2) := by decide +kernel
theorem dX1_becomeOdds_40 : decode cX1_becomeOdds 40 = .ok (.isub, 1) := by decide +kernel
theorem dX1_becomeOdds_41 : decode cX1_becomeOdds 41 = .ok (.invokestatic 22, 3) := by decide +kernel
theorem dX1_becomeOdds_44 : decode cX1_becomeOdds 44 = .ok (.lmul, 1) := by decide +kernel
theorem dX1_becomeOdds_45 : decode cX1_becomeOdds 45 = .ok (.lstore 12, 2) := by decide +kernel
theorem dX1_becomeOdds_47 : decode cX1_becomeOdds 47 = .ok (.lload 7, 2) := by decide +kernel
theorem dX1_becomeOdds_49 : decode cX1_becomeOdds 49 = .ok (.lload 12, 2) := by decide +kernel
theorem dX1_becomeOdds_51 : decode cX1_becomeOdds 51 = .ok (.lload 5, 2) := by decide +kernel
theorem dX1_becomeOdds_53 : decode cX1_becomeOdds 53 = .ok (.iload 11, 2) := by decide +kernel
theorem dX1_becomeOdds_55 : decode cX1_becomeOdds 55 = .ok (.iload_n 1, 1) := by decide +kernel
theorem dX1_becomeOdds_56 : decode cX1_becomeOdds 56 = .ok (.invokestatic 25, 3) := by decide +kernel
theorem dX1_becomeOdds_59 : decode cX1_becomeOdds 59 = .ok (.iload_n 2, 1) := by decide +kernel
theorem dX1_becomeOdds_60 : decode cX1_becomeOdds 60 = .ok (.invokestatic 18, 3) := by decide +kernel
theorem dX1_becomeOdds_63 : decode cX1_becomeOdds 63 = .ok (.lsub, 1) := by decide +kernel
theorem dX1_becomeOdds_64 : decode cX1_becomeOdds 64 = .ok (.lmul, 1) := by decide +kernel
theorem dX1_becomeOdds_65 : decode cX1_becomeOdds 65 = .ok (.ladd, 1) := by decide +kernel
theorem dX1_becomeOdds_66 : decode cX1_becomeOdds 66 = .ok (.lstore 7, 2) := by decide +kernel
theorem dX1_becomeOdds_68 : decode cX1_becomeOdds 68 = .ok (.lload 9, 2) := by decide +kernel
theorem dX1_becomeOdds_70 : decode cX1_becomeOdds 70 = .ok (.iload_n 3, 1) := by decide +kernel
theorem dX1_becomeOdds_71 : decode cX1_becomeOdds 71 = .ok (.iload 11, 2) := by decide +kernel
theorem dX1_becomeOdds_73 : decode cX1_becomeOdds 73 = .ok (.isub, 1) := by decide +kernel
theorem dX1_becomeOdds_74 : decode cX1_becomeOdds 74 = .ok (.i2l, 1) := by decide +kernel
theorem dX1_becomeOdds_75 : decode cX1_becomeOdds 75 = .ok (.lmul, 1) := by decide +kernel
theorem dX1_becomeOdds_76 : decode cX1_becomeOdds 76 = .ok (.iload 11, 2) := by decide +kernel
theorem dX1_becomeOdds_78 : decode cX1_becomeOdds 78 = .ok (.iconst 1, 1) := by decide +kernel
theorem dX1_becomeOdds_79 : decode cX1_becomeOdds 79 = .ok (.iadd, 1) := by decide +kernel
theorem dX1_becomeOdds_80 : decode cX1_becomeOdds 80 = .ok (.i2l, 1) := by decide +kernel
theorem dX1_becomeOdds_81 : decode cX1_becomeOdds 81 = .ok (.ldiv, 1) := by decide +kernel
theorem dX1_becomeOdds_82 : decode cX1_becomeOdds 82 = .ok (.lstore 9, 2) := by decide +kernel
theorem dX1_becomeOdds_84 : decode cX1_becomeOdds 84 = .ok (.iinc 11 1, 3) := by decide +kernel
theorem dX1_becomeOdds_87 : decode cX1_becomeOdds 87 = .ok (.goto (-71), 3) := by decide +kernel
theorem dX1_becomeOdds_90 : decode cX1_becomeOdds 90 = .ok (.aload_n 0, 1) := by decide +kernel
theorem dX1_becomeOdds_91 : decode cX1_becomeOdds 91 = .ok (.lload 7, 2) := by decide +kernel
theorem dX1_becomeOdds_93 : decode cX1_becomeOdds 93 = .ok (.bipush 10, 2) := by decide +kernel
theorem dX1_becomeOdds_95 : decode cX1_becomeOdds 95 = .ok (.iload_n 3, 1) := by decide +kernel
theorem dX1_becomeOdds_96 : decode cX1_becomeOdds 96 = .ok (.invokestatic 22, 3) := by decide +kernel
theorem dX1_becomeOdds_99 : decode cX1_becomeOdds 99 = .ok (.lload 5, 2) := by decide +kernel
theorem dX1_becomeOdds_101 : decode cX1_becomeOdds 101 = .ok (.lmul, 1) := by decide +kernel
theorem dX1_becomeOdds_102 : decode cX1_becomeOdds 102 = .ok (.invokevirtual 31, 3) := by decide +kernel
theorem dX1_becomeOdds_105 : decode cX1_becomeOdds 105 = .ok (.return_, 1) := by decide +kernel
set_option maxRecDepth 20000 in
theorem ggX1_become_X1_commonDivisor : GoodIn wsX1_become wsX1_commonDivisor := goodIn_r _ [6] (by decide +kernel) (by decide +kernel)
set_option maxRecDepth 20000 in
theorem gX1_become_X1_commonDivisor : GoodIn wsX1_become (va_wsS RX1 35 yX1_commonDivisor wsX1_commonDivisor) := goodIn_app (goodIn_of _ (by decide +kernel)) ggX1_become_X1_commonDivisor
theorem dX1_become_0 : decode cX1_become 0 = .ok (.lload_n 1, 1) := by decide +kernel
theorem dX1_become_1 : decode cX1_become 1 = .ok (.lload_n 3, 1) := by decide +kernel
theorem dX1_become_2 : decode cX1_become 2 = .ok (.invokestatic 35, 3) := by decide +kernel
theorem dX1_become_5 : decode cX1_become 5 = .ok (.lstore 5, 2) := by decide +kernel
theorem dX1_become_7 : decode cX1_become 7 = .ok (.lload 5, 2) := by decide +kernel
theorem dX1_become_9 : decode cX1_become 9 = .ok (.lconst 0, 1) := by decide +kernel
theorem dX1_become_10 : decode cX1_become 10 = .ok (.lcmp, 1) := by decide +kernel
theorem dX1_become_11 : decode cX1_become 11 = .ok (.ifCond .le 19, 3) := by decide +kernel
theorem dX1_become_14 : decode cX1_become 14 = .ok (.aload_n 0, 1) := by decide +kernel
theorem dX1_become_15 : decode cX1_become 15 = .ok (.lload_n 1, 1) := by decide +kernel
theorem dX1_become_16 : decode cX1_become 16 = .ok (.lload 5, 2) := by decide +kernel
theorem dX1_become_18 : decode cX1_become 18 = .ok (.ldiv, 1) := by decide +kernel
theorem dX1_become_19 : decode cX1_become 19 = .ok (.putfield 9, 3) := by decide +kernel
theorem dX1_become_22 : decode cX1_become 22 = .ok (.aload_n 0, 1) := by decide +kernel
theorem dX1_become_23 : decode cX1_become 23 = .ok (.lload_n 3, 1) := by decide +kernel
theorem dX1_become_24 : decode cX1_become 24 = .ok (.lload 5, 2) := by decide +kernel
theorem dX1_become_26 : decode cX1_become 26 = .ok (.ldiv, 1) := by decide +kernel
theorem dX1_become_27 : decode cX1_become 27 = .ok (.putfield 15, 3) := by decide +kernel
theorem dX1_become_30 : decode cX1_become 30 = .ok (.return_, 1) := by decide +kernel
theorem dX1_falling_0 : decode cX1_falling 0 = .ok (.lconst 1, 1) := by decide +kernel
theorem dX1_falling_1 : decode cX1_falling 1 = .ok (.lstore_n 2, 1) := by decide +kernel
theorem dX1_falling_2 : decode cX1_falling 2 = .ok (.iconst 0, 1) := by decide +kernel
theorem dX1_falling_3 : decode cX1_falling 3 = .ok (.istore 4, 2) := by decide +kernel
theorem dX1_falling_5 : decode cX1_falling 5 = .ok (.iload 4, 2) := by decide +kernel
theorem dX1_falling_7 : decode cX1_falling 7 = .ok (.iload_n 1, 1) := by decide +kernel
theorem dX1_falling_8 : decode cX1_falling 8 = .ok (.if_icmp .ge 17, 3) := by decide +kernel
theorem dX1_falling_11 : decode cX1_falling 11 = .ok (.lload_n 2, 1) := by decide +kernel
theorem dX1_falling_12 : decode cX1_falling 12 = .ok (.iload_n 0, 1) := by decide +kernel
theorem dX1_falling_13 : decode cX1_falling 13 = .ok (.iload 4, 2) := by decide +kernel
theorem dX1_falling_15 : decode cX1_falling 15 = .ok (.isub, 1) := by decide +kernel
theorem dX1_falling_16 : decode cX1_falling 16 = .ok (.i2l, 1) := by decide +kernel
theorem dX1_falling_17 : decode cX1_falling 17 = .ok (.lmul, 1) := by decide +kernel
theorem dX1_falling_18 : decode cX1_falling 18 = .ok (.lstore_n 2, 1) := by decide +kernel
theorem dX1_falling_19 : decode cX1_falling 19 = .ok (.iinc 4 1, 3) := by decide +kernel
theorem dX1_falling_22 : decode cX1_falling 22 = .ok (.goto (-17), 3) := by decide +kernel
theorem dX1_falling_25 : decode cX1_falling 25 = .ok (.lload_n 2, 1) := by decide +kernel
theorem dX1_falling_26 : decode cX1_falling 26 = .ok (.lreturn, 1) := by decide +kernel
theorem dX1_power_0 : decode cX1_power 0 = .ok (.lconst 1, 1) := by decide +kernel
theorem dX1_power_1 : decode cX1_power 1 = .ok (.lstore_n 2, 1) := by decide +kernel
theorem dX1_power_2 : decode cX1_power 2 = .ok (.iconst 0, 1) := by decide +kernel
theorem dX1_power_3 : decode cX1_power 3 = .ok (.istore 4, 2) := by decide +kernel
theorem dX1_power_5 : decode cX1_power 5 = .ok (.iload 4, 2) := by decide +kernel
theorem dX1_power_7 : decode cX1_power 7 = .ok (.iload_n 1, 1) := by decide +kernel
theorem dX1_power_8 : decode cX1_power 8 = .ok (.if_icmp .ge 14, 3) := by decide +kernel
theorem dX1_power_11 : decode cX1_power 11 = .ok (.lload_n 2, 1) := by decide +kernel
theorem dX1_power_12 : decode cX1_power 12 = .ok (.iload_n 0, 1) := by decide +kernel
theorem dX1_power_13 : decode cX1_power 13 = .ok (.i2l, 1) := by decide +kernel
theorem dX1_power_14 : decode cX1_power 14 = .ok (.lmul, 1) := by decide +kernel
theorem dX1_power_15 : decode cX1_power 15 = .ok (.lstore_n 2, 1) := by decide +kernel
theorem dX1_power_16 : decode cX1_power 16 = .ok (.iinc 4 1, 3) := by decide +kernel
theorem dX1_power_19 : decode cX1_power 19 = .ok (.goto (-14), 3) := by decide +kernel
theorem dX1_power_22 : decode cX1_power 22 = .ok (.lload_n 2, 1) := by decide +kernel
theorem dX1_power_23 : decode cX1_power 23 = .ok (.lreturn, 1) := by decide +kernel
theorem dX1_commonDivisor_0 : decode cX1_commonDivisor 0 = .ok (.lload_n 0, 1) := by decide +kernel
theorem dX1_commonDivisor_1 : decode cX1_commonDivisor 1 = .ok (.lstore 4, 2) := by decide +kernel
theorem dX1_commonDivisor_3 : decode cX1_commonDivisor 3 = .ok (.lload_n 2, 1) := by decide +kernel
theorem dX1_commonDivisor_4 : decode cX1_commonDivisor 4 = .ok (.lstore 6, 2) := by decide +kernel
theorem dX1_commonDivisor_6 : decode cX1_commonDivisor 6 = .ok (.iconst 0, 1) := by decide +kernel
theorem dX1_commonDivisor_7 : decode cX1_commonDivisor 7 = .ok (.istore 8, 2) := by decide +kernel
theorem dX1_commonDivisor_9 : decode cX1_commonDivisor 9 = .ok (.iload 8, 2) := by decide +kernel
theorem dX1_commonDivisor_11 : decode cX1_commonDivisor 11 = .ok (.bipush 100, 2) := by decide +kernel
theorem dX1_commonDivisor_13 : decode cX1_commonDivisor 13 = .ok (.if_icmp .ge 31, 3) := by decide +kernel
theorem dX1_commonDivisor_16 : decode cX1_commonDivisor 16 = .ok (.lload 6, 2) := by decide +kernel
theorem dX1_commonDivisor_18 : decode cX1_commonDivisor 18 = .ok (.lconst 0, 1) := by decide +kernel
theorem dX1_commonDivisor_19 : decode cX1_commonDivisor 19 = .ok (.lcmp, 1) := by decide +kernel
theorem dX1_commonDivisor_20 : decode cX1_commonDivisor 20 = .ok (.ifCond .eq 24, 3) := by decide +kernel
theorem dX1_commonDivisor_23 : decode cX1_commonDivisor 23 = .ok (.lload 4, 2) := by decide +kernel
theorem dX1_commonDivisor_25 : decode cX1_commonDivisor 25 = .ok (.lload 6, 2) := by decide +kernel
theorem dX1_commonDivisor_27 : decode cX1_commonDivisor 27 = .ok (.lrem, 1) := by decide +kernel
theorem dX1_commonDivisor_28 : decode cX1_commonDivisor 28 = .ok (.lstore 9, 2) := by decide +kernel
theorem dX1_commonDivisor_30 : decode cX1_commonDivisor 30 = .ok (.lload 6, 2) := by decide +kernel
theorem dX1_commonDivisor_32 : decode cX1_commonDivisor 32 = .ok (.lstore 4, 2) := by decide +kernel
theorem dX1_commonDivisor_34 : decode cX1_commonDivisor 34 = .ok (.lload 9, 2) := by decide +kernel
theorem dX1_commonDivisor_36 : decode cX1_commonDivisor 36 = .ok (.lstore 6, 2) := by decide +kernel
theorem dX1_commonDivisor_38 : decode cX1_commonDivisor 38 = .ok (.iinc 8 1, 3) := by decide +kernel
theorem dX1_commonDivisor_41 : decode cX1_commonDivisor 41 = .ok (.goto (-32), 3) := by decide +kernel
theorem dX1_commonDivisor_44 : decode cX1_commonDivisor 44 = .ok (.lload 4, 2) := by decide +kernel
theorem dX1_commonDivisor_46 : decode cX1_commonDivisor 46 = .ok (.lreturn, 1) := by decide +kernel
theorem dX2_init_0 : decode cX2_init 0 = .ok (.aload_n 0, 1) := by decide +kernel
theorem dX2_init_1 : decode cX2_init 1 = .ok (.invokespecial 3, 3) := by decide +kernel
theorem dX2_init_4 : decode cX2_init 4 = .ok (.aload_n 0, 1) := by decide +kernel
theorem dX2_init_5 : decode cX2_init 5 = .ok (.iconst 5, 1) := by decide +kernel
theorem dX2_init_6 : decode cX2_init 6 = .ok (.newarray .long, 2) := by decide +kernel
theorem dX2_init_8 : decode cX2_init 8 = .ok (.putfield 9, 3) := by decide +kernel
theorem dX2_init_11 : decode cX2_init 11 = .ok (.return_, 1) := by decide +kernel
set_option maxRecDepth 20000 in
theorem ggX2_rowOf_X8_isUpTo : GoodIn wsX2_rowOf wsX8_isUpTo := goodIn_r _ [4] (by decide +kernel) (by decide +kernel)
set_option maxRecDepth 20000 in
theorem gX2_rowOf_X8_isUpTo_n15 : GoodIn wsX2_rowOf (wsX8_isUpTo) := ggX2_rowOf_X8_isUpTo
set_option maxRecDepth 20000 in
theorem ggX2_rowOf_X2_firstFunniest : GoodIn wsX2_rowOf wsX2_firstFunniest := goodIn_r _ [8, 9, 10, 7, 11, 12, 13, 14, 15, 16, 17, 18, 19, 20, 21, 22, 23, 24, 25, 26, 27, 28, 29, 30] (by decide +kernel) (by decide +kernel)
set_option maxRecDepth 20000 in
theorem gX2_rowOf_X2_firstFunniest : GoodIn wsX2_rowOf (va_wsS RX2 21 yX2_firstFunniest wsX2_firstFunniest) := goodIn_app (goodIn_of _ (by decide +kernel)) ggX2_rowOf_X2_firstFunniest
theorem dX2_rowOf_0 : decode cX2_rowOf 0 = .ok (.iload_n 1, 1) := by decide +kernel
theorem dX2_rowOf_1 : decode cX2_rowOf 1 = .ok (.iconst 4, 1) := by decide +kernel
theorem dX2_rowOf_2 : decode cX2_rowOf 2 = .ok (.invokestatic 15, 3) := by decide +kernel
theorem dX2_rowOf_5 : decode cX2_rowOf 5 = .ok (.ifCond .ne 5, 3) := by decide +kernel
theorem dX2_rowOf_8 : decode cX2_rowOf 8 = .ok (.lconst 0, 1) := by decide +kernel
theorem dX2_rowOf_9 : decode cX2_rowOf 9 = .ok (.lreturn, 1) := by decide +kernel
theorem dX2_rowOf_10 : decode cX2_rowOf 10 = .ok (.aload_n 0, 1) := by decide +kernel
theorem dX2_rowOf_11 : decode cX2_rowOf 11 = .ok (.getfield 9, 3) := by decide +kernel
theorem dX2_rowOf_14 : decode cX2_rowOf 14 = .ok (.iload_n 1, 1) := by decide +kernel
theorem dX2_rowOf_15 : decode cX2_rowOf 15 = .ok (.laload, 1) := by decide +kernel
theorem dX2_rowOf_16 : decode cX2_rowOf 16 = .ok (.lconst 0, 1) := by decide +kernel
theorem dX2_rowOf_17 : decode cX2_rowOf 17 = .ok (.lcmp, 1) := by decide +kernel
theorem dX2_rowOf_18 : decode cX2_rowOf 18 = .ok (.ifCond .ne 13, 3) := by decide +kernel
theorem dX2_rowOf_21 : decode cX2_rowOf 21 = .ok (.aload_n 0, 1) := by decide +kernel
theorem dX2_rowOf_22 : decode cX2_rowOf 22 = .ok (.getfield 9, 3) := by decide +kernel
theorem dX2_rowOf_25 : decode cX2_rowOf 25 = .ok (.iload_n 1, 1) := by decide +kernel
theorem dX2_rowOf_26 : decode cX2_rowOf 26 = .ok (.iload_n 1, 1) := by decide +kernel
theorem dX2_rowOf_27 : decode cX2_rowOf 27 = .ok (.invokestatic 21, 3) := by decide +kernel
theorem dX2_rowOf_30 : decode cX2_rowOf 30 = .ok (.lastore, 1) := by decide +kernel
theorem dX2_rowOf_31 : decode cX2_rowOf 31 = .ok (.aload_n 0, 1) := by decide +kernel
theorem dX2_rowOf_32 : decode cX2_rowOf 32 = .ok (.getfield 9, 3) := by decide +kernel
theorem dX2_rowOf_35 : decode cX2_rowOf 35 = .ok (.iload_n 1, 1) := by decide +kernel
theorem dX2_rowOf_36 : decode cX2_rowOf 36 = .ok (.laload, 1) := by decide +kernel
theorem dX2_rowOf_37 : decode cX2_rowOf 37 = .ok (.lreturn, 1) := by decide +kernel
set_option maxRecDepth 20000 in
theorem ggX2_firstFunniest_X2_rowOfFigures : GoodIn wsX2_firstFunniest wsX2_rowOfFigures := goodIn_r _ [4, 5, 6, 7, 8, 9, 10, 11, 12] (by decide +kernel) (by decide +kernel)
set_option maxRecDepth 20000 in
theorem gX2_firstFunniest_X2_rowOfFigures : GoodIn wsX2_firstFunniest (va_wsS RX2 25 yX2_rowOfFigures wsX2_rowOfFigures) := goodIn_app (goodIn_of _ (by decide +kernel)) ggX2_firstFunniest_X2_rowOfFigures
set_option maxRecDepth 20000 in
theorem ggX2_firstFunniest_X4_funOf : GoodIn wsX2_firstFunniest wsX4_funOf := goodIn_r _ [16, 17, 10, 7, 11, 12, 18, 19, 20, 21, 22, 15, 23] (by decide +kernel) (by decide +kernel)
set_option maxRecDepth 20000 in
theorem gX2_firstFunniest_X4_funOf : GoodIn wsX2_firstFunniest (va_wsS RX2 29 yX4_funOf wsX4_funOf) := goodIn_app (goodIn_of _ (by decide +kernel)) ggX2_firstFunniest_X4_funOf
theorem dX2_firstFunniest_0 : decode cX2_firstFunniest 0 = .ok (.iconst 1, 1) := by decide +kernel
theorem dX2_firstFunniest_1 : decode cX2_firstFunniest 1 = .ok (.istore_n 1, 1) := by decide +kernel
theorem dX2_firstFunniest_2 : decode cX2_firstFunniest 2 = .ok (.iconst 0, 1) := by decide +kernel
theorem dX2_firstFunniest_3 : decode cX2_firstFunniest 3 = .ok (.istore_n 2, 1) := by decide +kernel
theorem dX2_firstFunniest_4 : decode cX2_firstFunniest 4 = .ok (.iload_n 2, 1) := by decide +kernel
theorem dX2_firstFunniest_5 : decode cX2_firstFunniest 5 = .ok (.iload_n 0, 1) := by decide +kernel
theorem dX2_firstFunniest_6 : decode cX2_firstFunniest 6 = .ok (.if_icmp .ge 14, 3) := by decide +kernel
theorem dX2_firstFunniest_9 : decode cX2_firstFunniest 9 = .ok (.iload_n 1, 1) := by decide +kernel
theorem dX2_firstFunniest_10 : decode cX2_firstFunniest 10 = .ok (.bipush 10, 2) := by decide +kernel
theorem dX2_firstFunniest_12 : decode cX2_firstFunniest 12 = .ok (.imul, 1) := by decide +kernel
theorem dX2_firstFunniest_13 : decode cX2_firstFunniest 13 = .ok (.istore_n 1, 1) := by decide +kernel
theorem dX2_firstFunniest_14 : decode cX2_firstFunniest 14 = .ok (.iinc 2 1, 3) := by decide +kernel
theorem dX2_firstFunniest_17 : decode cX2_firstFunniest 17 = .ok (.goto (-13), 3) := by decide +kernel
theorem dX2_firstFunniest_20 : decode cX2_firstFunniest 20 = .ok (.lconst 0, 1) := by decide +kernel
theorem dX2_firstFunniest_21 : decode cX2_firstFunniest 21 = .ok (.lstore_n 2, 1) := by decide +kernel
theorem dX2_firstFunniest_22 : decode cX2_firstFunniest 22 = .ok (.iconst 0, 1) := by decide +kernel
theorem dX2_firstFunniest_23 : decode cX2_firstFunniest 23 = .ok (.istore 4, 2) := by decide +kernel
theorem dX2_firstFunniest_25 : decode cX2_firstFunniest 25 = .ok (.iconst 0, 1) := by decide +kernel
theorem dX2_firstFunniest_26 : decode cX2_firstFunniest 26 = .ok (.istore 5, 2) := by decide +kernel
theorem dX2_firstFunniest_28 : decode cX2_firstFunniest 28 = .ok (.iload 5, 2) := by decide +kernel
theorem dX2_firstFunniest_30 : decode cX2_firstFunniest 30 = .ok (.iload_n 1, 1) := by decide +kernel
theorem dX2_firstFunniest_31 : decode cX2_firstFunniest 31 = .ok (.if_icmp .ge 43, 3) := by decide +kernel
theorem dX2_firstFunniest_34 : decode cX2_firstFunniest 34 = .ok (.iload 5, 2) := by decide +kernel
theorem dX2_firstFunniest_36 : decode cX2_firstFunniest 36 = .ok (.iload_n 0, 1) := by decide +kernel
theorem dX2_firstFunniest_37 : decode cX2_firstFunniest 37 = .ok (.invokestatic 25, 3) := by decide +kernel
theorem dX2_firstFunniest_40 : decode cX2_firstFunniest 40 = .ok (.lstore 6, 2) := by decide +kernel
theorem dX2_firstFunniest_42 : decode cX2_firstFunniest 42 = .ok (.lload 6, 2) := by decide +kernel
theorem dX2_firstFunniest_44 : decode cX2_firstFunniest 44 = .ok (.invokestatic 29, 3) := by decide +kernel
theorem dX2_firstFunniest_47 : decode cX2_firstFunniest 47 = .ok (.istore 8, 2) := by decide +kernel
theorem dX2_firstFunniest_49 : decode cX2_firstFunniest 49 = .ok (.iload 5, 2) := by decide +kernel
theorem dX2_firstFunniest_51 : decode cX2_firstFunniest 51 = .ok (.ifCond .eq 10, 3) := by decide +kernel
theorem dX2_firstFunniest_54 : decode cX2_firstFunniest 54 = .ok (.iload 8, 2) := by decide +kernel
theorem dX2_firstFunniest_56 : decode cX2_firstFunniest 56 = .ok (.iload 4, 2) := by decide +kernel
theorem dX2_firstFunniest_58 : decode cX2_firstFunniest 58 = .ok (.if_icmp .le 10, 3) := by decide +kernel
theorem dX2_firstFunniest_61 : decode cX2_firstFunniest 61 = .ok (.lload 6, 2) := by decide +kernel
theorem dX2_firstFunniest_63 : decode cX2_firstFunniest 63 = .ok (.lstore_n 2, 1) := by decide +kernel
theorem dX2_firstFunniest_64 : decode cX2_firstFunniest 64 = .ok (.iload 8, 2) := by decide +kernel
theorem dX2_firstFunniest_66 : decode cX2_firstFunniest 66 = .ok (.istore 4, 2) := by decide +kernel
theorem dX2_firstFunniest_68 : decode cX2_firstFunniest 68 = .ok (.iinc 5 1, 3) := by decide +kernel
theorem dX2_firstFunniest_71 : decode cX2_firstFunniest 71 = .ok (.goto (-43), 3) := by decide +kernel
theorem dX2_firstFunniest_74 : decode cX2_firstFunniest 74 = .ok (.lload_n 2, 1) := by decide +kernel
theorem dX2_firstFunniest_75 : decode cX2_firstFunniest 75 = .ok (.lreturn, 1) := by decide +kernel
set_option maxRecDepth 20000 in
theorem ggX2_rowOfFigures_X7_addedAhead : GoodIn wsX2_rowOfFigures wsX7_addedAhead := goodIn_r _ [4, 5, 6, 3, 7, 8] (by decide +kernel) (by decide +kernel)
set_option maxRecDepth 20000 in
theorem gX2_rowOfFigures_X7_addedAhead : GoodIn wsX2_rowOfFigures (va_wsS RX2 35 yX7_addedAhead wsX7_addedAhead) := goodIn_app (goodIn_of _ (by decide +kernel)) ggX2_rowOfFigures_X7_addedAhead
theorem dX2_rowOfFigures_0 : decode cX2_rowOfFigures 0 = .ok (.lconst 0, 1) := by decide +kernel
theorem dX2_rowOfFigures_1 : decode cX2_rowOfFigures 1 = .ok (.lstore_n 2, 1) := by decide +kernel
theorem dX2_rowOfFigures_2 : decode cX2_rowOfFigures 2 = .ok (.iload_n 0, 1) := by decide +kernel
theorem dX2_rowOfFigures_3 : decode cX2_rowOfFigures 3 = .ok (.istore 4, 2) := by decide +kernel
theorem dX2_rowOfFigures_5 : decode cX2_rowOfFigures 5 = .ok (.iconst 0, 1) := by decide +kernel
theorem dX2_rowOfFigures_6 : decode cX2_rowOfFigures 6 = .ok (.istore 5, 2) := by decide +kernel
theorem dX2_rowOfFigures_8 : decode cX2_rowOfFigures 8 = .ok (.iload 5, 2) := by decide +kernel
theorem dX2_rowOfFigures_10 : decode cX2_rowOfFigures 10 = .ok (.iload_n 1, 1) := by decide +kernel
theorem dX2_rowOfFigures_11 : decode cX2_rowOfFigures 11 = .ok (.if_icmp .ge 26, 3) := by decide +kernel
theorem dX2_rowOfFigures_14 : decode cX2_rowOfFigures 14 = .ok (.lload_n 2, 1) := by decide +kernel
theorem dX2_rowOfFigures_15 : decode cX2_rowOfFigures 15 = .ok (.iload 4, 2) := by decide +kernel
theorem dX2_rowOfFigures_17 : decode cX2_rowOfFigures 17 = .ok (.bipush 10, 2) := by decide +kernel
theorem dX2_rowOfFigures_19 : decode cX2_rowOfFigures 19 = .ok (.irem, 1) := by decide +kernel
theorem dX2_rowOfFigures_20 : decode cX2_rowOfFigures 20 = .ok (.invokestatic 35, 3) := by decide +kernel
theorem dX2_rowOfFigures_23 : decode cX2_rowOfFigures 23 = .ok (.lstore_n 2, 1) := by decide +kernel
theorem dX2_rowOfFigures_24 : decode cX2_rowOfFigures 24 = .ok (.iload 4, 2) := by decide +kernel
theorem dX2_rowOfFigures_26 : decode cX2_rowOfFigures 26 = .ok (.bipush 10, 2) := by decide +kernel
theorem dX2_rowOfFigures_28 : decode cX2_rowOfFigures 28 = .ok (.idiv, 1) := by decide +kernel
theorem dX2_rowOfFigures_29 : decode cX2_rowOfFigures 29 = .ok (.istore 4, 2) := by decide +kernel
theorem dX2_rowOfFigures_31 : decode cX2_rowOfFigures 31 = .ok (.iinc 5 1, 3) := by decide +kernel
theorem dX2_rowOfFigures_34 : decode cX2_rowOfFigures 34 = .ok (.goto (-26), 3) := by decide +kernel
theorem dX2_rowOfFigures_37 : decode cX2_rowOfFigures 37 = .ok (.lload_n 2, 1) := by decide +kernel
theorem dX2_rowOfFigures_38 : decode cX2_rowOfFigures 38 = .ok (.lreturn, 1) := by decide +kernel
set_option maxRecDepth 20000 in
theorem ggX3_init_J7_fill_53178 : GoodIn wsX3_init wsJ7_fill_53178 := goodIn_r _ [16] (by decide +kernel) (by decide +kernel)
set_option maxRecDepth 20000 in
theorem gX3_init_J7_fill_53178 : GoodIn wsX3_init (va_wsS RX3 34 yJ7_fill_53178 wsJ7_fill_53178) := goodIn_app (goodIn_of _ (by decide +kernel)) ggX3_init_J7_fill_53178
theorem dX3_init_0 : decode cX3_init 0 = .ok (.aload_n 0, 1) := by decide +kernel
theorem dX3_init_1 : decode cX3_init 1 = .ok (.invokespecial 3, 3) := by decide +kernel
theorem dX3_init_4 : decode cX3_init 4 = .ok (.aload_n 0, 1) := by decide +kernel
theorem dX3_init_5 : decode cX3_init 5 = .ok (.bipush 8, 2) := by decide +kernel
theorem dX3_init_7 : decode cX3_init 7 = .ok (.newarray .long, 2) := by decide +kernel
theorem dX3_init_9 : decode cX3_init 9 = .ok (.putfield 9, 3) := by decide +kernel
theorem dX3_init_12 : decode cX3_init 12 = .ok (.aload_n 0, 1) := by decide +kernel
theorem dX3_init_13 : decode cX3_init 13 = .ok (.bipush 8, 2) := by decide +kernel
theorem dX3_init_15 : decode cX3_init 15 = .ok (.newarray .int, 2) := by decide +kernel
theorem dX3_init_17 : decode cX3_init 17 = .ok (.putfield 15, 3) := by decide +kernel
theorem dX3_init_20 : decode cX3_init 20 = .ok (.aload_n 0, 1) := by decide +kernel
theorem dX3_init_21 : decode cX3_init 21 = .ok (.bipush 6, 2) := by decide +kernel
theorem dX3_init_23 : decode cX3_init 23 = .ok (.newarray .int, 2) := by decide +kernel
theorem dX3_init_25 : decode cX3_init 25 = .ok (.putfield 19, 3) := by decide +kernel
theorem dX3_init_28 : decode cX3_init 28 = .ok (.aload_n 0, 1) := by decide +kernel
theorem dX3_init_29 : decode cX3_init 29 = .ok (.bipush 6, 2) := by decide +kernel
theorem dX3_init_31 : decode cX3_init 31 = .ok (.newarray .int, 2) := by decide +kernel
theorem dX3_init_33 : decode cX3_init 33 = .ok (.putfield 22, 3) := by decide +kernel
theorem dX3_init_36 : decode cX3_init 36 = .ok (.aload_n 0, 1) := by decide +kernel
theorem dX3_init_37 : decode cX3_init 37 = .ok (.bipush 8, 2) := by decide +kernel
theorem dX3_init_39 : decode cX3_init 39 = .ok (.newarray .int, 2) := by decide +kernel
theorem dX3_init_41 : decode cX3_init 41 = .ok (.putfield 25, 3) := by decide +kernel
theorem dX3_init_44 : decode cX3_init 44 = .ok (.aload_n 0, 1) := by decide +kernel
theorem dX3_init_45 : decode cX3_init 45 = .ok (.bipush 8, 2) := by decide +kernel
theorem dX3_init_47 : decode cX3_init 47 = .ok (.newarray .long, 2) := by decide +kernel
theorem dX3_init_49 : decode cX3_init 49 = .ok (.putfield 28, 3) := by decide +kernel
theorem dX3_init_52 : decode cX3_init 52 = .ok (.aload_n 0, 1) := by decide +kernel
theorem dX3_init_53 : decode cX3_init 53 = .ok (.bipush 8, 2) := by decide +kernel
theorem dX3_init_55 : decode cX3_init 55 = .ok (.newarray .int, 2) := by decide +kernel
theorem dX3_init_57 : decode cX3_init 57 = .ok (.putfield 31, 3) := by decide +kernel
theorem dX3_init_60 : decode cX3_init 60 = .ok (.aload_n 0, 1) := by decide +kernel
theorem dX3_init_61 : decode cX3_init 61 = .ok (.getfield 15, 3) := by decide +kernel
theorem dX3_init_64 : decode cX3_init 64 = .ok (.iconst (-1), 1) := by decide +kernel
theorem dX3_init_65 : decode cX3_init 65 = .ok (.invokestatic 34, 3) := by decide +kernel
theorem dX3_init_68 : decode cX3_init 68 = .ok (.return_, 1) := by decide +kernel
set_option maxRecDepth 20000 in
theorem ggX3_becomeNew_J7_fill_d0a16 : GoodIn wsX3_becomeNew wsJ7_fill_d0a16 := goodIn_r _ [9] (by decide +kernel) (by decide +kernel)
set_option maxRecDepth 20000 in
theorem gX3_becomeNew_J7_fill_d0a16 : GoodIn wsX3_becomeNew (va_wsS RX3 42 yJ7_fill_d0a16 wsJ7_fill_d0a16) := goodIn_app (goodIn_of _ (by decide +kernel)) ggX3_becomeNew_J7_fill_d0a16
set_option maxRecDepth 20000 in
theorem ggX3_becomeNew_J7_fill_53178 : GoodIn wsX3_becomeNew wsJ7_fill_53178 := goodIn_r _ [12] (by decide +kernel) (by decide +kernel)
set_option maxRecDepth 20000 in
theorem gX3_becomeNew_J7_fill_53178 : GoodIn wsX3_becomeNew (va_wsS RX3 34 yJ7_fill_53178 wsJ7_fill_53178) := goodIn_app (goodIn_of _ (by decide +kernel)) ggX3_becomeNew_J7_fill_53178
theorem dX3_becomeNew_0 : decode cX3_becomeNew 0 = .ok (.aload_n 0, 1) := by decide +kernel
theorem dX3_becomeNew_1 : decode cX3_becomeNew 1 = .ok (.getfield 9, 3) := by decide +kernel
theorem dX3_becomeNew_4 : decode cX3_becomeNew 4 = .ok (.lconst 0, 1) := by decide +kernel
theorem dX3_becomeNew_5 : decode cX3_becomeNew 5 = .ok (.invokestatic 42, 3) := by decide +kernel
theorem dX3_becomeNew_8 : decode cX3_becomeNew 8 = .ok (.aload_n 0, 1) := by decide +kernel
theorem dX3_becomeNew_9 : decode cX3_becomeNew 9 = .ok (.getfield 15, 3) := by decide +kernel
theorem dX3_becomeNew_12 : decode cX3_becomeNew 12 = .ok (.iconst (-1), 1) := by decide +kernel
theorem dX3_becomeNew_13 : decode cX3_becomeNew 13 = .ok (.invokestatic 34, 3) := by decide +kernel
theorem dX3_becomeNew_16 : decode cX3_becomeNew 16 = .ok (.aload_n 0, 1) := by decide +kernel
theorem dX3_becomeNew_17 : decode cX3_becomeNew 17 = .ok (.lconst 0, 1) := by decide +kernel
theorem dX3_becomeNew_18 : decode cX3_becomeNew 18 = .ok (.putfield 45, 3) := by decide +kernel
theorem dX3_becomeNew_21 : decode cX3_becomeNew 21 = .ok (.aload_n 0, 1) := by decide +kernel
theorem dX3_becomeNew_22 : decode cX3_becomeNew 22 = .ok (.iconst 0, 1) := by decide +kernel
theorem dX3_becomeNew_23 : decode cX3_becomeNew 23 = .ok (.putfield 49, 3) := by decide +kernel
theorem dX3_becomeNew_26 : decode cX3_becomeNew 26 = .ok (.aload_n 0, 1) := by decide +kernel
theorem dX3_becomeNew_27 : decode cX3_becomeNew 27 = .ok (.iconst 0, 1) := by decide +kernel
theorem dX3_becomeNew_28 : decode cX3_becomeNew 28 = .ok (.putfield 53, 3) := by decide +kernel
theorem dX3_becomeNew_31 : decode cX3_becomeNew 31 = .ok (.return_, 1) := by decide +kernel
theorem dX3_becomeLike_0 : decode cX3_becomeLike 0 = .ok (.aload_n 1, 1) := by decide +kernel
theorem dX3_becomeLike_1 : decode cX3_becomeLike 1 = .ok (.getfield 9, 3) := by decide +kernel
theorem dX3_becomeLike_4 : decode cX3_becomeLike 4 = .ok (.iconst 0, 1) := by decide +kernel
theorem dX3_becomeLike_5 : decode cX3_becomeLike 5 = .ok (.aload_n 0, 1) := by decide +kernel
theorem dX3_becomeLike_6 : decode cX3_becomeLike 6 = .ok (.getfield 9, 3) := by decide +kernel
theorem dX3_becomeLike_9 : decode cX3_becomeLike 9 = .ok (.iconst 0, 1) := by decide +kernel
theorem dX3_becomeLike_10 : decode cX3_becomeLike 10 = .ok (.bipush 8, 2) := by decide +kernel
theorem dX3_becomeLike_12 : decode cX3_becomeLike 12 = .ok (.invokestatic 56, 3) := by decide +kernel
theorem dX3_becomeLike_15 : decode cX3_becomeLike 15 = .ok (.aload_n 1, 1) := by decide +kernel
theorem dX3_becomeLike_16 : decode cX3_becomeLike 16 = .ok (.getfield 15, 3) := by decide +kernel
theorem dX3_becomeLike_19 : decode cX3_becomeLike 19 = .ok (.iconst 0, 1) := by decide +kernel
theorem dX3_becomeLike_20 : decode cX3_becomeLike 20 = .ok (.aload_n 0, 1) := by decide +kernel
theorem dX3_becomeLike_21 : decode cX3_becomeLike 21 = .ok (.getfield 15, 3) := by decide +kernel
theorem dX3_becomeLike_24 : decode cX3_becomeLike 24 = .ok (.iconst 0, 1) := by decide +kernel
theorem dX3_becomeLike_25 : decode cX3_becomeLike 25 = .ok (.bipush 8, 2) := by decide +kernel
theorem dX3_becomeLike_27 : decode cX3_becomeLike 27 = .ok (.invokestatic 56, 3) := by decide +kernel
theorem dX3_becomeLike_30 : decode cX3_becomeLike 30 = .ok (.aload_n 1, 1) := by decide +kernel
theorem dX3_becomeLike_31 : decode cX3_becomeLike 31 = .ok (.getfield 19, 3) := by decide +kernel
theorem dX3_becomeLike_34 : decode cX3_becomeLike 34 = .ok (.iconst 0, 1) := by decide +kernel
theorem dX3_becomeLike_35 : decode cX3_becomeLike 35 = .ok (.aload_n 0, 1) := by decide +kernel
theorem dX3_becomeLike_36 : decode cX3_becomeLike 36 = .ok (.getfield 19, 3) := by decide +kernel
theorem dX3_becomeLike_39 : decode cX3_becomeLike 39 = .ok (.iconst 0, 1) := by decide +kernel
theorem dX3_becomeLike_40 : decode cX3_becomeLike 40 = .ok (.bipush 6, 2) := by decide +kernel
theorem dX3_becomeLike_42 : decode cX3_becomeLike 42 = .ok (.invokestatic 56, 3) := by decide +kernel
theorem dX3_becomeLike_45 : decode cX3_becomeLike 45 = .ok (.aload_n 1, 1) := by decide +kernel
theorem dX3_becomeLike_46 : decode cX3_becomeLike 46 = .ok (.getfield 22, 3) := by decide +kernel
theorem dX3_becomeLike_49 : decode cX3_becomeLike 49 = .ok (.iconst 0, 1) := by decide +kernel
theorem dX3_becomeLike_50 : decode cX3_becomeLike 50 = .ok (.aload_n 0, 1) := by decide +kernel
theorem dX3_becomeLike_51 : decode cX3_becomeLike 51 = .ok (.getfield 22, 3) := by decide +kernel
theorem dX3_becomeLike_54 : decode cX3_becomeLike 54 = .ok (.iconst 0, 1) := by decide +kernel
theorem dX3_becomeLike_55 : decode cX3_becomeLike 55 = .ok (.bipush 6, 2) := by decide +kernel
theorem dX3_becomeLike_57 : decode cX3_becomeLike 57 = .ok (.invokestatic 56, 3) := by decide +kernel
theorem dX3_becomeLike_60 : decode cX3_becomeLike 60 = .ok (.aload_n 1, 1) := by decide +kernel
theorem dX3_becomeLike_61 : decode cX3_becomeLike 61 = .ok (.getfield 25, 3) := by decide +kernel
theorem dX3_becomeLike_64 : decode cX3_becomeLike 64 = .ok (.iconst 0, 1) := by decide +kernel
theorem dX3_becomeLike_65 : decode cX3_becomeLike 65 = .ok (.aload_n 0, 1) := by decide +kernel
theorem dX3_becomeLike_66 : decode cX3_becomeLike 66 = .ok (.getfield 25, 3) := by decide +kernel
theorem dX3_becomeLike_69 : decode cX3_becomeLike 69 = .ok (.iconst 0, 1) := by decide +kernel
theorem dX3_becomeLike_70 : decode cX3_becomeLike 70 = .ok (.bipush 8, 2) := by decide +kernel
theorem dX3_becomeLike_72 : decode cX3_becomeLike 72 = .ok (.invokestatic 56, 3) := by decide +kernel
theorem dX3_becomeLike_75 : decode cX3_becomeLike 75 = .ok (.aload_n 1, 1) := by decide +kernel
theorem dX3_becomeLike_76 : decode cX3_becomeLike 76 = .ok (.getfield 28, 3) := by decide +kernel
theorem dX3_becomeLike_79 : decode cX3_becomeLike 79 = .ok (.iconst 0, 1) := by decide +kernel
theorem dX3_becomeLike_80 : decode cX3_becomeLike 80 = .ok (.aload_n 0, 1) := by decide +kernel
theorem dX3_becomeLike_81 : decode cX3_becomeLike 81 = .ok (.getfield 28, 3) := by decide +kernel
theorem dX3_becomeLike_84 : decode cX3_becomeLike 84 = .ok (.iconst 0, 1) := by decide +kernel
theorem dX3_becomeLike_85 : decode cX3_becomeLike 85 = .ok (.bipush 8, 2) := by decide +kernel
theorem dX3_becomeLike_87 : decode cX3_becomeLike 87 = .ok (.invokestatic 56, 3) := by decide +kernel
theorem dX3_becomeLike_90 : decode cX3_becomeLike 90 = .ok (.aload_n 1, 1) := by decide +kernel
theorem dX3_becomeLike_91 : decode cX3_becomeLike 91 = .ok (.getfield 31, 3) := by decide +kernel
theorem dX3_becomeLike_94 : decode cX3_becomeLike 94 = .ok (.iconst 0, 1) := by decide +kernel
theorem dX3_becomeLike_95 : decode cX3_becomeLike 95 = .ok (.aload_n 0, 1) := by decide +kernel
theorem dX3_becomeLike_96 : decode cX3_becomeLike 96 = .ok (.getfield 31, 3) := by decide +kernel
theorem dX3_becomeLike_99 : decode cX3_becomeLike 99 = .ok (.iconst 0, 1) := by decide +kernel
theorem dX3_becomeLike_100 : decode cX3_becomeLike 100 = .ok (.bipush 8, 2) := by decide +kernel
theorem dX3_becomeLike_102 : decode cX3_becomeLike 102 = .ok (.invokestatic 56, 3) := by decide +kernel
theorem dX3_becomeLike_105 : decode cX3_becomeLike 105 = .ok (.aload_n 0, 1) := by decide +kernel
theorem dX3_becomeLike_106 : decode cX3_becomeLike 106 = .ok (.aload_n 1, 1) := by decide +kernel
theorem dX3_becomeLike_107 : decode cX3_becomeLike 107 = .ok (.getfield 45, 3) := by decide +kernel
theorem dX3_becomeLike_110 : decode cX3_becomeLike 110 = .ok (.putfield 45, 3) := by decide +kernel
theorem dX3_becomeLike_113 : decode cX3_becomeLike 113 = .ok (.aload_n 0, 1) := by decide +kernel
theorem dX3_becomeLike_114 : decode cX3_becomeLike 114 = .ok (.aload_n 1, 1) := by decide +kernel
theorem dX3_becomeLike_115 : decode cX3_becomeLike 115 = .ok (.getfield 49, 3) := by decide +kernel
theorem dX3_becomeLike_118 : decode cX3_becomeLike 118 = .ok (.putfield 49, 3) := by decide +kernel
theorem dX3_becomeLike_121 : decode cX3_becomeLike 121 = .ok (.aload_n 0, 1) := by decide +kernel
theorem dX3_becomeLike_122 : decode cX3_becomeLike 122 = .ok (.aload_n 1, 1) := by decide +kernel
theorem dX3_becomeLike_123 : decode cX3_becomeLike 123 = .ok (.getfield 53, 3) := by decide +kernel
theorem dX3_becomeLike_126 : decode cX3_becomeLike 126 = .ok (.putfield 53, 3) := by decide +kernel
theorem dX3_becomeLike_129 : decode cX3_becomeLike 129 = .ok (.return_, 1) := by decide +kernel
set_option maxRecDepth 20000 in
theorem ggX3_taleOf_X8_isBranch : GoodIn wsX3_taleOf wsX8_isBranch := goodIn_r _ [4, 5, 6, 3, 7] (by decide +kernel) (by decide +kernel)
set_option maxRecDepth 20000 in
theorem gX3_taleOf_X8_isBranch_n62 : GoodIn wsX3_taleOf (wsX8_isBranch) := ggX3_taleOf_X8_isBranch
theorem dX3_taleOf_0 : decode cX3_taleOf 0 = .ok (.iload_n 1, 1) := by decide +kernel
theorem dX3_taleOf_1 : decode cX3_taleOf 1 = .ok (.invokestatic 62, 3) := by decide +kernel
theorem dX3_taleOf_4 : decode cX3_taleOf 4 = .ok (.ifCond .eq 12, 3) := by decide +kernel
theorem dX3_taleOf_7 : decode cX3_taleOf 7 = .ok (.aload_n 0, 1) := by decide +kernel
theorem dX3_taleOf_8 : decode cX3_taleOf 8 = .ok (.getfield 9, 3) := by decide +kernel
theorem dX3_taleOf_11 : decode cX3_taleOf 11 = .ok (.iload_n 1, 1) := by decide +kernel
theorem dX3_taleOf_12 : decode cX3_taleOf 12 = .ok (.laload, 1) := by decide +kernel
theorem dX3_taleOf_13 : decode cX3_taleOf 13 = .ok (.goto 4, 3) := by decide +kernel
theorem dX3_taleOf_16 : decode cX3_taleOf 16 = .ok (.lconst 0, 1) := by decide +kernel
theorem dX3_taleOf_17 : decode cX3_taleOf 17 = .ok (.lreturn, 1) := by decide +kernel
set_option maxRecDepth 20000 in
theorem ggX3_parentOf_X8_isBranch : GoodIn wsX3_parentOf wsX8_isBranch := goodIn_r _ [4, 5, 6, 3, 7] (by decide +kernel) (by decide +kernel)
set_option maxRecDepth 20000 in
theorem gX3_parentOf_X8_isBranch_n62 : GoodIn wsX3_parentOf (wsX8_isBranch) := ggX3_parentOf_X8_isBranch
theorem dX3_parentOf_0 : decode cX3_parentOf 0 = .ok (.iload_n 1, 1) := by decide +kernel
theorem dX3_parentOf_1 : decode cX3_parentOf 1 = .ok (.invokestatic 62, 3) := by decide +kernel
theorem dX3_parentOf_4 : decode cX3_parentOf 4 = .ok (.ifCond .eq 12, 3) := by decide +kernel
theorem dX3_parentOf_7 : decode cX3_parentOf 7 = .ok (.aload_n 0, 1) := by decide +kernel
theorem dX3_parentOf_8 : decode cX3_parentOf 8 = .ok (.getfield 15, 3) := by decide +kernel
theorem dX3_parentOf_11 : decode cX3_parentOf 11 = .ok (.iload_n 1, 1) := by decide +kernel
theorem dX3_parentOf_12 : decode cX3_parentOf 12 = .ok (.iaload, 1) := by decide +kernel
theorem dX3_parentOf_13 : decode cX3_parentOf 13 = .ok (.goto 4, 3) := by decide +kernel
theorem dX3_parentOf_16 : decode cX3_parentOf 16 = .ok (.iconst (-1), 1) := by decide +kernel
theorem dX3_parentOf_17 : decode cX3_parentOf 17 = .ok (.ireturn, 1) := by decide +kernel
set_option maxRecDepth 20000 in
theorem ggX3_put_X8_isBranch : GoodIn wsX3_put wsX8_isBranch := goodIn_r _ [5, 6, 7, 4, 8] (by decide +kernel) (by decide +kernel)
set_option maxRecDepth 20000 in
theorem gX3_put_X8_isBranch_n62 : GoodIn wsX3_put (wsX8_isBranch) := ggX3_put_X8_isBranch
theorem dX3_put_0 : decode cX3_put 0 = .ok (.iload_n 1, 1) := by decide +kernel
theorem dX3_put_1 : decode cX3_put 1 = .ok (.invokestatic 62, 3) := by decide +kernel
theorem dX3_put_4 : decode cX3_put 4 = .ok (.ifCond .eq 18, 3) := by decide +kernel
theorem dX3_put_7 : decode cX3_put 7 = .ok (.aload_n 0, 1) := by decide +kernel
theorem dX3_put_8 : decode cX3_put 8 = .ok (.getfield 9, 3) := by decide +kernel
theorem dX3_put_11 : decode cX3_put 11 = .ok (.iload_n 1, 1) := by decide +kernel
theorem dX3_put_12 : decode cX3_put 12 = .ok (.lload_n 2, 1) := by decide +kernel
theorem dX3_put_13 : decode cX3_put 13 = .ok (.lastore, 1) := by decide +kernel
theorem dX3_put_14 : decode cX3_put 14 = .ok (.aload_n 0, 1) := by decide +kernel
theorem dX3_put_15 : decode cX3_put 15 = .ok (.getfield 15, 3) := by decide +kernel
theorem dX3_put_18 : decode cX3_put 18 = .ok (.iload_n 1, 1) := by decide +kernel
theorem dX3_put_19 : decode cX3_put 19 = .ok (.iload 4, 2) := by decide +kernel
theorem dX3_put_21 : decode cX3_put 21 = .ok (.iastore, 1) := by decide +kernel
theorem dX3_put_22 : decode cX3_put 22 = .ok (.return_, 1) := by decide +kernel
set_option maxRecDepth 20000 in
theorem ggX3_replace_X3_forgetOldest : GoodIn wsX3_replace wsX3_forgetOldest := goodIn_r _ [9, 1, 2, 10, 11, 12, 13, 3, 4, 34, 35, 36, 37, 38, 39, 40, 41, 42, 43] (by decide +kernel) (by decide +kernel)
set_option maxRecDepth 20000 in
theorem gX3_replace_X3_forgetOldest : GoodIn wsX3_replace (wsV RX3 66 RX3 yX3_forgetOldest wsX3_forgetOldest) := goodIn_app (goodIn_of _ (by decide +kernel)) ggX3_replace_X3_forgetOldest
set_option maxRecDepth 20000 in
theorem ggX3_replace_X8_isUpTo : GoodIn wsX3_replace wsX8_isUpTo := goodIn_r _ [16] (by decide +kernel) (by decide +kernel)
set_option maxRecDepth 20000 in
theorem gX3_replace_X8_isUpTo_n69 : GoodIn wsX3_replace (wsX8_isUpTo) := ggX3_replace_X8_isUpTo
set_option maxRecDepth 20000 in
theorem ggX3_replace_X3_taleOf : GoodIn wsX3_replace wsX3_taleOf := goodIn_r _ [20, 21, 22, 15, 23, 24, 14, 16, 34, 35, 36, 37, 38, 39, 40, 41, 42, 43] (by decide +kernel) (by decide +kernel)
set_option maxRecDepth 20000 in
theorem gX3_replace_X3_taleOf : GoodIn wsX3_replace (wsV RX3 73 RX3 yX3_taleOf wsX3_taleOf) := goodIn_app (goodIn_of _ (by decide +kernel)) ggX3_replace_X3_taleOf
set_option maxRecDepth 20000 in
theorem ggX3_replace_X3_parentOf : GoodIn wsX3_replace wsX3_parentOf := goodIn_r _ [28, 29, 22, 15, 23, 24, 14, 16, 34, 35, 36, 37, 38, 39, 40, 41, 42, 43] (by decide +kernel) (by decide +kernel)
set_option maxRecDepth 20000 in
theorem gX3_replace_X3_parentOf : GoodIn wsX3_replace (wsV RX3 77 RX3 yX3_parentOf wsX3_parentOf) := goodIn_app (goodIn_of _ (by decide +kernel)) ggX3_replace_X3_parentOf
set_option maxRecDepth 20000 in
theorem ggX3_replace_X3_put : GoodIn wsX3_replace wsX3_put := goodIn_r _ [33, 21, 29, 22, 15, 23, 24, 14, 16, 34, 35, 36, 37, 38, 39, 40, 41, 42, 43] (by decide +kernel) (by decide +kernel)
set_option maxRecDepth 20000 in
theorem gX3_replace_X3_put : GoodIn wsX3_replace (wsV RX3 81 RX3 yX3_put wsX3_put) := goodIn_app (goodIn_of _ (by decide +kernel)) ggX3_replace_X3_put
theorem dX3_replace_0 : decode cX3_replace 0 = .ok (.aload_n 0, 1) := by decide +kernel
theorem dX3_replace_1 : decode cX3_replace 1 = .ok (.getfield 53, 3) := by decide +kernel
theorem dX3_replace_4 : decode cX3_replace 4 = .ok (.bipush 8, 2) := by decide +kernel
theorem dX3_replace_6 : decode cX3_replace 6 = .ok (.if_icmp .lt 7, 3) := by decide +kernel
theorem dX3_replace_9 : decode cX3_replace 9 = .ok (.aload_n 0, 1) := by decide +kernel
theorem dX3_replace_10 : decode cX3_replace 10 = .ok (.invokevirtual 66, 3) := by decide +kernel
theorem dX3_replace_13 : decode cX3_replace 13 = .ok (.aload_n 0, 1) := by decide +kernel
theorem dX3_replace_14 : decode cX3_replace 14 = .ok (.getfield 53, 3) := by decide +kernel
theorem dX3_replace_17 : decode cX3_replace 17 = .ok (.bipush 7, 2) := by decide +kernel
theorem dX3_replace_19 : decode cX3_replace 19 = .ok (.invokestatic 69, 3) := by decide +kernel
theorem dX3_replace_22 : decode cX3_replace 22 = .ok (.ifCond .eq 51, 3) := by decide +kernel
theorem dX3_replace_25 : decode cX3_replace 25 = .ok (.aload_n 0, 1) := by decide +kernel
theorem dX3_replace_26 : decode cX3_replace 26 = .ok (.getfield 25, 3) := by decide +kernel
theorem dX3_replace_29 : decode cX3_replace 29 = .ok (.aload_n 0, 1) := by decide +kernel
theorem dX3_replace_30 : decode cX3_replace 30 = .ok (.getfield 53, 3) := by decide +kernel
theorem dX3_replace_33 : decode cX3_replace 33 = .ok (.iload_n 1, 1) := by decide +kernel
theorem dX3_replace_34 : decode cX3_replace 34 = .ok (.iastore, 1) := by decide +kernel
theorem dX3_replace_35 : decode cX3_replace 35 = .ok (.aload_n 0, 1) := by decide +kernel
theorem dX3_replace_36 : decode cX3_replace 36 = .ok (.getfield 28, 3) := by decide +kernel
theorem dX3_replace_39 : decode cX3_replace 39 = .ok (.aload_n 0, 1) := by decide +kernel
theorem dX3_replace_40 : decode cX3_replace 40 = .ok (.getfield 53, 3) := by decide +kernel
theorem dX3_replace_43 : decode cX3_replace 43 = .ok (.aload_n 0, 1) := by decide +kernel
theorem dX3_replace_44 : decode cX3_replace 44 = .ok (.iload_n 1, 1) := by decide +kernel
theorem dX3_replace_45 : decode cX3_replace 45 = .ok (.invokevirtual 73, 3) := by decide +kernel
theorem dX3_replace_48 : decode cX3_replace 48 = .ok (.lastore, 1) := by decide +kernel
theorem dX3_replace_49 : decode cX3_replace 49 = .ok (.aload_n 0, 1) := by decide +kernel
theorem dX3_replace_50 : decode cX3_replace 50 = .ok (.getfield 31, 3) := by decide +kernel
theorem dX3_replace_53 : decode cX3_replace 53 = .ok (.aload_n 0, 1) := by decide +kernel
theorem dX3_replace_54 : decode cX3_replace 54 = .ok (.getfield 53, 3) := by decide +kernel
theorem dX3_replace_57 : decode cX3_replace 57 = .ok (.aload_n 0, 1) := by decide +kernel
theorem dX3_replace_58 : decode cX3_replace 58 = .ok (.iload_n 1, 1) := by decide +kernel
theorem dX3_replace_59 : decode cX3_replace 59 = .ok (.invokevirtual 77, 3) := by decide +kernel
theorem dX3_replace_62 : decode cX3_replace 62 = .ok (.iastore, 1) := by decide +kernel
theorem dX3_replace_63 : decode cX3_replace 63 = .ok (.aload_n 0, 1) := by decide +kernel
theorem dX3_replace_64 : decode cX3_replace 64 = .ok (.dup, 1) := by decide +kernel
theorem dX3_replace_65 : decode cX3_replace 65 = .ok (.getfield 53, 3) := by decide +kernel
theorem dX3_replace_68 : decode cX3_replace 68 = .ok (.iconst 1, 1) := by decide +kernel
theorem dX3_replace_69 : decode cX3_replace 69 = .ok (.iadd, 1) := by decide +kernel
theorem dX3_replace_70 : decode cX3_replace 70 = .ok (.putfield 53, 3) := by decide +kernel
theorem dX3_replace_73 : decode cX3_replace 73 = .ok (.aload_n 0, 1) := by decide +kernel
theorem dX3_replace_74 : decode cX3_replace 74 = .ok (.iload_n 1, 1) := by decide +kernel
theorem dX3_replace_75 : decode cX3_replace 75 = .ok (.lload_n 2, 1) := by decide +kernel
theorem dX3_replace_76 : decode cX3_replace 76 = .ok (.iload 4, 2) := by decide +kernel
theorem dX3_replace_78 : decode cX3_replace 78 = .ok (.invokevirtual 81, 3) := by decide +kernel
theorem dX3_replace_81 : decode cX3_replace 81 = .ok (.return_, 1) := by decide +kernel
theorem dX3_forgetOldest_0 : decode cX3_forgetOldest 0 = .ok (.aload_n 0, 1) := by decide +kernel
theorem dX3_forgetOldest_1 : decode cX3_forgetOldest 1 = .ok (.bipush 7, 2) := by decide +kernel
theorem dX3_forgetOldest_3 : decode cX3_forgetOldest 3 = .ok (.putfield 53, 3) := by decide +kernel
theorem dX3_forgetOldest_6 : decode cX3_forgetOldest 6 = .ok (.aload_n 0, 1) := by decide +kernel
theorem dX3_forgetOldest_7 : decode cX3_forgetOldest 7 = .ok (.getfield 25, 3) := by decide +kernel
theorem dX3_forgetOldest_10 : decode cX3_forgetOldest 10 = .ok (.iconst 1, 1) := by decide +kernel
theorem dX3_forgetOldest_11 : decode cX3_forgetOldest 11 = .ok (.aload_n 0, 1) := by decide +kernel
theorem dX3_forgetOldest_12 : decode cX3_forgetOldest 12 = .ok (.getfield 25, 3) := by decide +kernel
theorem dX3_forgetOldest_15 : decode cX3_forgetOldest 15 = .ok (.iconst 0, 1) := by decide +kernel
theorem dX3_forgetOldest_16 : decode cX3_forgetOldest 16 = .ok (.aload_n 0, 1) := by decide +kernel
theorem dX3_forgetOldest_17 : decode cX3_forgetOldest 17 = .ok (.getfield 53, 3) := by decide +kernel
theorem dX3_forgetOldest_20 : decode cX3_forgetOldest 20 = .ok (.invokestatic 56, 3) := by decide +kernel
theorem dX3_forgetOldest_23 : decode cX3_forgetOldest 23 = .ok (.aload_n 0, 1) := by decide +kernel
theorem dX3_forgetOldest_24 : decode cX3_forgetOldest 24 = .ok (.getfield 28, 3) := by decide +kernel
theorem dX3_forgetOldest_27 : decode cX3_forgetOldest 27 = .ok (.iconst 1, 1) := by decide +kernel
theorem dX3_forgetOldest_28 : decode cX3_forgetOldest 28 = .ok (.aload_n 0, 1) := by decide +kernel
theorem dX3_forgetOldest_29 : decode cX3_forgetOldest 29 = .ok (.getfield 28, 3) := by decide +kernel
theorem dX3_forgetOldest_32 : decode cX3_forgetOldest 32 = .ok (.iconst 0, 1) := by decide +kernel
theorem dX3_forgetOldest_33 : decode cX3_forgetOldest 33 = .ok (.aload_n 0, 1) := by decide +kernel
theorem dX3_forgetOldest_34 : decode cX3_forgetOldest 34 = .ok (.getfield 53, 3) := by decide +kernel
theorem dX3_forgetOldest_37 : decode cX3_forgetOldest 37 = .ok (.invokestatic 56, 3) := by decide +kernel
theorem dX3_forgetOldest_40 : decode cX3_forgetOldest 40 = .ok (.aload_n 0, 1) := by decide +kernel
theorem dX3_forgetOldest_41 : decode cX3_forgetOldest 41 = .ok (.getfield 31, 3) := by decide +kernel
theorem dX3_forgetOldest_44 : decode cX3_forgetOldest 44 = .ok (.iconst 1, 1) := by decide +kernel
theorem dX3_forgetOldest_45 : decode cX3_forgetOldest 45 = .ok (.aload_n 0, 1) := by decide +kernel
theorem dX3_forgetOldest_46 : decode cX3_forgetOldest 46 = .ok (.getfield 31, 3) := by decide +kernel
theorem dX3_forgetOldest_49 : decode cX3_forgetOldest 49 = .ok (.iconst 0, 1) := by decide +kernel
theorem dX3_forgetOldest_50 : decode cX3_forgetOldest 50 = .ok (.aload_n 0, 1) := by decide +kernel
theorem dX3_forgetOldest_51 : decode cX3_forgetOldest 51 = .ok (.getfield 53, 3) := by decide +kernel
theorem dX3_forgetOldest_54 : decode cX3_forgetOldest 54 = .ok (.invokestatic 56, 3) := by decide +kernel
theorem dX3_forgetOldest_57 : decode cX3_forgetOldest 57 = .ok (.return_, 1) := by decide +kernel
set_option maxRecDepth 20000 in
theorem ggX3_takeBack_X8_isUpTo : GoodIn wsX3_takeBack wsX8_isUpTo := goodIn_r _ [7] (by decide +kernel) (by decide +kernel)
set_option maxRecDepth 20000 in
theorem gX3_takeBack_X8_isUpTo_n69 : GoodIn wsX3_takeBack (wsX8_isUpTo) := ggX3_takeBack_X8_isUpTo
set_option maxRecDepth 20000 in
theorem ggX3_takeBack_X3_put : GoodIn wsX3_takeBack wsX3_put := goodIn_r _ [12, 13, 14, 15, 6, 16, 17, 5, 7, 18, 19, 20, 21, 22, 23, 24, 25, 26, 27] (by decide +kernel) (by decide +kernel)
set_option maxRecDepth 20000 in
theorem gX3_takeBack_X3_put : GoodIn wsX3_takeBack (wsV RX3 81 RX3 yX3_put wsX3_put) := goodIn_app (goodIn_of _ (by decide +kernel)) ggX3_takeBack_X3_put
theorem dX3_takeBack_0 : decode cX3_takeBack 0 = .ok (.aload_n 0, 1) := by decide +kernel
theorem dX3_takeBack_1 : decode cX3_takeBack 1 = .ok (.getfield 53, 3) := by decide +kernel
theorem dX3_takeBack_4 : decode cX3_takeBack 4 = .ok (.iconst 1, 1) := by decide +kernel
theorem dX3_takeBack_5 : decode cX3_takeBack 5 = .ok (.isub, 1) := by decide +kernel
theorem dX3_takeBack_6 : decode cX3_takeBack 6 = .ok (.istore_n 1, 1) := by decide +kernel
theorem dX3_takeBack_7 : decode cX3_takeBack 7 = .ok (.iload_n 1, 1) := by decide +kernel
theorem dX3_takeBack_8 : decode cX3_takeBack 8 = .ok (.bipush 7, 2) := by decide +kernel
theorem dX3_takeBack_10 : decode cX3_takeBack 10 = .ok (.invokestatic 69, 3) := by decide +kernel
theorem dX3_takeBack_13 : decode cX3_takeBack 13 = .ok (.ifCond .eq 30, 3) := by decide +kernel
theorem dX3_takeBack_16 : decode cX3_takeBack 16 = .ok (.aload_n 0, 1) := by decide +kernel
theorem dX3_takeBack_17 : decode cX3_takeBack 17 = .ok (.aload_n 0, 1) := by decide +kernel
theorem dX3_takeBack_18 : decode cX3_takeBack 18 = .ok (.getfield 25, 3) := by decide +kernel
theorem dX3_takeBack_21 : decode cX3_takeBack 21 = .ok (.iload_n 1, 1) := by decide +kernel
theorem dX3_takeBack_22 : decode cX3_takeBack 22 = .ok (.iaload, 1) := by decide +kernel
theorem dX3_takeBack_23 : decode cX3_takeBack 23 = .ok (.aload_n 0, 1) := by decide +kernel
theorem dX3_takeBack_24 : decode cX3_takeBack 24 = .ok (.getfield 28, 3) := by decide +kernel
theorem dX3_takeBack_27 : decode cX3_takeBack 27 = .ok (.iload_n 1, 1) := by decide +kernel
theorem dX3_takeBack_28 : decode cX3_takeBack 28 = .ok (.laload, 1) := by decide +kernel
theorem dX3_takeBack_29 : decode cX3_takeBack 29 = .ok (.aload_n 0, 1) := by decide +kernel
theorem dX3_takeBack_30 : decode cX3_takeBack 30 = .ok (.getfield 31, 3) := by decide +kernel
theorem dX3_takeBack_33 : decode cX3_takeBack 33 = .ok (.iload_n 1, 1) := by decide +kernel
theorem dX3_takeBack_34 : decode cX3_takeBack 34 = .ok (.iaload, 1) := by decide +kernel
theorem dX3_takeBack_35 : decode cX3_takeBack 35 = .ok (.invokevirtual 81, 3) := by decide +kernel
theorem dX3_takeBack_38 : decode cX3_takeBack 38 = .ok (.aload_n 0, 1) := by decide +kernel
theorem dX3_takeBack_39 : decode cX3_takeBack 39 = .ok (.iload_n 1, 1) := by decide +kernel
theorem dX3_takeBack_40 : decode cX3_takeBack 40 = .ok (.putfield 53, 3) := by decide +kernel
theorem dX3_takeBack_43 : decode cX3_takeBack 43 = .ok (.return_, 1) := by decide +kernel
set_option maxRecDepth 20000 in
theorem ggX3_hear_X8_isUpTo : GoodIn wsX3_hear wsX8_isUpTo := goodIn_r _ [6] (by decide +kernel) (by decide +kernel)
set_option maxRecDepth 20000 in
theorem gX3_hear_X8_isUpTo_n69 : GoodIn wsX3_hear (wsX8_isUpTo) := ggX3_hear_X8_isUpTo
theorem dX3_hear_0 : decode cX3_hear 0 = .ok (.aload_n 0, 1) := by decide +kernel
theorem dX3_hear_1 : decode cX3_hear 1 = .ok (.getfield 49, 3) := by decide +kernel
theorem dX3_hear_4 : decode cX3_hear 4 = .ok (.iconst 5, 1) := by decide +kernel
theorem dX3_hear_5 : decode cX3_hear 5 = .ok (.invokestatic 69, 3) := by decide +kernel
theorem dX3_hear_8 : decode cX3_hear 8 = .ok (.ifCond .eq 33, 3) := by decide +kernel
theorem dX3_hear_11 : decode cX3_hear 11 = .ok (.aload_n 0, 1) := by decide +kernel
theorem dX3_hear_12 : decode cX3_hear 12 = .ok (.getfield 19, 3) := by decide +kernel
theorem dX3_hear_15 : decode cX3_hear 15 = .ok (.aload_n 0, 1) := by decide +kernel
theorem dX3_hear_16 : decode cX3_hear 16 = .ok (.getfield 49, 3) := by decide +kernel
theorem dX3_hear_19 : decode cX3_hear 19 = .ok (.iload_n 1, 1) := by decide +kernel
theorem dX3_hear_20 : decode cX3_hear 20 = .ok (.iastore, 1) := by decide +kernel
theorem dX3_hear_21 : decode cX3_hear 21 = .ok (.aload_n 0, 1) := by decide +kernel
theorem dX3_hear_22 : decode cX3_hear 22 = .ok (.getfield 22, 3) := by decide +kernel
theorem dX3_hear_25 : decode cX3_hear 25 = .ok (.aload_n 0, 1) := by decide +kernel
theorem dX3_hear_26 : decode cX3_hear 26 = .ok (.getfield 49, 3) := by decide +kernel
theorem dX3_hear_29 : decode cX3_hear 29 = .ok (.iload_n 2, 1) := by decide +kernel
theorem dX3_hear_30 : decode cX3_hear 30 = .ok (.iastore, 1) := by decide +kernel
theorem dX3_hear_31 : decode cX3_hear 31 = .ok (.aload_n 0, 1) := by decide +kernel
theorem dX3_hear_32 : decode cX3_hear 32 = .ok (.dup, 1) := by decide +kernel
theorem dX3_hear_33 : decode cX3_hear 33 = .ok (.getfield 49, 3) := by decide +kernel
theorem dX3_hear_36 : decode cX3_hear 36 = .ok (.iconst 1, 1) := by decide +kernel
theorem dX3_hear_37 : decode cX3_hear 37 = .ok (.iadd, 1) := by decide +kernel
theorem dX3_hear_38 : decode cX3_hear 38 = .ok (.putfield 49, 3) := by decide +kernel
theorem dX3_hear_41 : decode cX3_hear 41 = .ok (.return_, 1) := by decide +kernel
set_option maxRecDepth 20000 in
theorem ggX3_talesTold_X3_branchesWithout : GoodIn wsX3_talesTold wsX3_branchesWithout := goodIn_r _ [5, 6, 7, 8, 9, 10, 11, 12, 13, 14, 15, 16, 17, 25, 26, 27, 28, 29, 30, 31, 32, 33, 34] (by decide +kernel) (by decide +kernel)
set_option maxRecDepth 20000 in
theorem gX3_talesTold_X3_branchesWithout : GoodIn wsX3_talesTold (wsV RX3 85 RX3 yX3_branchesWithout wsX3_branchesWithout) := goodIn_app (goodIn_of _ (by decide +kernel)) ggX3_talesTold_X3_branchesWithout
set_option maxRecDepth 20000 in
theorem ggX3_talesTold_J6_bitCount_0f7a4 : GoodIn wsX3_talesTold wsJ6_bitCount_0f7a4 := goodIn_r _ [21, 22, 23, 24] (by decide +kernel) (by decide +kernel)
set_option maxRecDepth 20000 in
theorem gX3_talesTold_J6_bitCount_0f7a4 : GoodIn wsX3_talesTold (va_wsS RX3 88 yJ6_bitCount_0f7a4 wsJ6_bitCount_0f7a4) := goodIn_app (goodIn_of _ (by decide +kernel)) ggX3_talesTold_J6_bitCount_0f7a4
theorem dX3_talesTold_0 : decode cX3_talesTold 0 = .ok (.aload_n 0, 1) := by decide +kernel
theorem dX3_talesTold_1 : decode cX3_talesTold 1 = .ok (.iconst 0, 1) := by decide +kernel
theorem dX3_talesTold_2 : decode cX3_talesTold 2 = .ok (.invokevirtual 85, 3) := by decide +kernel
theorem dX3_talesTold_5 : decode cX3_talesTold 5 = .ok (.invokestatic 88, 3) := by decide +kernel
theorem dX3_talesTold_8 : decode cX3_talesTold 8 = .ok (.ireturn, 1) := by decide +kernel
set_option maxRecDepth 20000 in
theorem ggX3_partsOfAll_X7_sizeOf : GoodIn wsX3_partsOfAll wsX7_sizeOf := goodIn_r _ [5, 6] (by decide +kernel) (by decide +kernel)
set_option maxRecDepth 20000 in
theorem gX3_partsOfAll_X7_sizeOf : GoodIn wsX3_partsOfAll (va_wsS RX3 93 yX7_sizeOf wsX7_sizeOf) := goodIn_app (goodIn_of _ (by decide +kernel)) ggX3_partsOfAll_X7_sizeOf
theorem dX3_partsOfAll_0 : decode cX3_partsOfAll 0 = .ok (.iconst 0, 1) := by decide +kernel
theorem dX3_partsOfAll_1 : decode cX3_partsOfAll 1 = .ok (.istore_n 1, 1) := by decide +kernel
theorem dX3_partsOfAll_2 : decode cX3_partsOfAll 2 = .ok (.aload_n 0, 1) := by decide +kernel
theorem dX3_partsOfAll_3 : decode cX3_partsOfAll 3 = .ok (.getfield 9, 3) := by decide +kernel
theorem dX3_partsOfAll_6 : decode cX3_partsOfAll 6 = .ok (.astore_n 2, 1) := by decide +kernel
theorem dX3_partsOfAll_7 : decode cX3_partsOfAll 7 = .ok (.aload_n 2, 1) := by decide +kernel
theorem dX3_partsOfAll_8 : decode cX3_partsOfAll 8 = .ok (.arraylength, 1) := by decide +kernel
theorem dX3_partsOfAll_9 : decode cX3_partsOfAll 9 = .ok (.istore_n 3, 1) := by decide +kernel
theorem dX3_partsOfAll_10 : decode cX3_partsOfAll 10 = .ok (.iconst 0, 1) := by decide +kernel
theorem dX3_partsOfAll_11 : decode cX3_partsOfAll 11 = .ok (.istore 4, 2) := by decide +kernel
theorem dX3_partsOfAll_13 : decode cX3_partsOfAll 13 = .ok (.iload 4, 2) := by decide +kernel
theorem dX3_partsOfAll_15 : decode cX3_partsOfAll 15 = .ok (.iload_n 3, 1) := by decide +kernel
theorem dX3_partsOfAll_16 : decode cX3_partsOfAll 16 = .ok (.if_icmp .ge 23, 3) := by decide +kernel
theorem dX3_partsOfAll_19 : decode cX3_partsOfAll 19 = .ok (.aload_n 2, 1) := by decide +kernel
theorem dX3_partsOfAll_20 : decode cX3_partsOfAll 20 = .ok (.iload 4, 2) := by decide +kernel
theorem dX3_partsOfAll_22 : decode cX3_partsOfAll 22 = .ok (.laload, 1) := by decide +kernel
theorem dX3_partsOfAll_23 : decode cX3_partsOfAll 23 = .ok (.lstore 5, 2) := by decide +kernel
theorem dX3_partsOfAll_25 : decode cX3_partsOfAll 25 = .ok (.iload_n 1, 1) := by decide +kernel
theorem dX3_partsOfAll_26 : decode cX3_partsOfAll 26 = .ok (.lload 5, 2) := by decide +kernel
theorem dX3_partsOfAll_28 : decode cX3_partsOfAll 28 = .ok (.invokestatic 93, 3) := by decide +kernel
theorem dX3_partsOfAll_31 : decode cX3_partsOfAll 31 = .ok (.iadd, 1) := by decide +kernel
theorem dX3_partsOfAll_32 : decode cX3_partsOfAll 32 = .ok (.istore_n 1, 1) := by decide +kernel
theorem dX3_partsOfAll_33 : decode cX3_partsOfAll 33 = .ok (.iinc 4 1, 3) := by decide +kernel
theorem dX3_partsOfAll_36 : decode cX3_partsOfAll 36 = .ok (.goto (-23), 3) := by decide +kernel
theorem dX3_partsOfAll_39 : decode cX3_partsOfAll 39 = .ok (.iload_n 1, 1) := by decide +kernel
theorem dX3_partsOfAll_40 : decode cX3_partsOfAll 40 = .ok (.ireturn, 1) := by decide +kernel
set_option maxRecDepth 20000 in
theorem ggX3_branchesWith_X7_has : GoodIn wsX3_branchesWith wsX7_has := goodIn_r _ [5, 6, 7, 4, 8, 9, 10, 11, 12, 13, 14, 15] (by decide +kernel) (by decide +kernel)
set_option maxRecDepth 20000 in
theorem gX3_branchesWith_X7_has : GoodIn wsX3_branchesWith (va_wsS RX3 97 yX7_has wsX7_has) := goodIn_app (goodIn_of _ (by decide +kernel)) ggX3_branchesWith_X7_has
theorem dX3_branchesWith_0 : decode cX3_branchesWith 0 = .ok (.iconst 0, 1) := by decide +kernel
theorem dX3_branchesWith_1 : decode cX3_branchesWith 1 = .ok (.istore_n 2, 1) := by decide +kernel
theorem dX3_branchesWith_2 : decode cX3_branchesWith 2 = .ok (.iconst 0, 1) := by decide +kernel
theorem dX3_branchesWith_3 : decode cX3_branchesWith 3 = .ok (.istore_n 3, 1) := by decide +kernel
theorem dX3_branchesWith_4 : decode cX3_branchesWith 4 = .ok (.iload_n 3, 1) := by decide +kernel
theorem dX3_branchesWith_5 : decode cX3_branchesWith 5 = .ok (.bipush 8, 2) := by decide +kernel
theorem dX3_branchesWith_7 : decode cX3_branchesWith 7 = .ok (.if_icmp .ge 28, 3) := by decide +kernel
theorem dX3_branchesWith_10 : decode cX3_branchesWith 10 = .ok (.aload_n 0, 1) := by decide +kernel
theorem dX3_branchesWith_11 : decode cX3_branchesWith 11 = .ok (.getfield 9, 3) := by decide +kernel
theorem dX3_branchesWith_14 : decode cX3_branchesWith 14 = .ok (.iload_n 3, 1) := by decide +kernel
theorem dX3_branchesWith_15 : decode cX3_branchesWith 15 = .ok (.laload, 1) := by decide +kernel
theorem dX3_branchesWith_16 : decode cX3_branchesWith 16 = .ok (.iload_n 1, 1) := by decide +kernel
theorem dX3_branchesWith_17 : decode cX3_branchesWith 17 = .ok (.invokestatic 97, 3) := by decide +kernel
theorem dX3_branchesWith_20 : decode cX3_branchesWith 20 = .ok (.ifCond .eq 9, 3) := by decide +kernel
theorem dX3_branchesWith_23 : decode cX3_branchesWith 23 = .ok (.iload_n 2, 1) := by decide +kernel
theorem dX3_branchesWith_24 : decode cX3_branchesWith 24 = .ok (.iconst 1, 1) := by decide +kernel
theorem dX3_branchesWith_25 : decode cX3_branchesWith 25 = .ok (.iload_n 3, 1) := by decide +kernel
theorem dX3_branchesWith_26 : decode cX3_branchesWith 26 = .ok (.ishl, 1) := by decide +kernel
theorem dX3_branchesWith_27 : decode cX3_branchesWith 27 = .ok (.ior, 1) := by decide +kernel
theorem dX3_branchesWith_28 : decode cX3_branchesWith 28 = .ok (.istore_n 2, 1) := by decide +kernel
theorem dX3_branchesWith_29 : decode cX3_branchesWith 29 = .ok (.iinc 3 1, 3) := by decide +kernel
theorem dX3_branchesWith_32 : decode cX3_branchesWith 32 = .ok (.goto (-28), 3) := by decide +kernel
theorem dX3_branchesWith_35 : decode cX3_branchesWith 35 = .ok (.iload_n 2, 1) := by decide +kernel
theorem dX3_branchesWith_36 : decode cX3_branchesWith 36 = .ok (.ireturn, 1) := by decide +kernel
set_option maxRecDepth 20000 in
theorem ggX3_branchesWithout_X7_kindsIn : GoodIn wsX3_branchesWithout wsX7_kindsIn := goodIn_r _ [5, 6, 7, 4, 8, 9, 10, 11, 12] (by decide +kernel) (by decide +kernel)
set_option maxRecDepth 20000 in
theorem gX3_branchesWithout_X7_kindsIn : GoodIn wsX3_branchesWithout (va_wsS RX3 101 yX7_kindsIn wsX7_kindsIn) := goodIn_app (goodIn_of _ (by decide +kernel)) ggX3_branchesWithout_X7_kindsIn
theorem dX3_branchesWithout_0 : decode cX3_branchesWithout 0 = .ok (.iconst 0, 1) := by decide +kernel
theorem dX3_branchesWithout_1 : decode cX3_branchesWithout 1 = .ok (.istore_n 2, 1) := by decide +kernel
theorem dX3_branchesWithout_2 : decode cX3_branchesWithout 2 = .ok (.iconst 0, 1) := by decide +kernel
theorem dX3_branchesWithout_3 : decode cX3_branchesWithout 3 = .ok (.istore_n 3, 1) := by decide +kernel
theorem dX3_branchesWithout_4 : decode cX3_branchesWithout 4 = .ok (.iload_n 3, 1) := by decide +kernel
theorem dX3_branchesWithout_5 : decode cX3_branchesWithout 5 = .ok (.bipush 8, 2) := by decide +kernel
theorem dX3_branchesWithout_7 : decode cX3_branchesWithout 7 = .ok (.if_icmp .ge 40, 3) := by decide +kernel
theorem dX3_branchesWithout_10 : decode cX3_branchesWithout 10 = .ok (.aload_n 0, 1) := by decide +kernel
theorem dX3_branchesWithout_11 : decode cX3_branchesWithout 11 = .ok (.getfield 9, 3) := by decide +kernel
theorem dX3_branchesWithout_14 : decode cX3_branchesWithout 14 = .ok (.iload_n 3, 1) := by decide +kernel
theorem dX3_branchesWithout_15 : decode cX3_branchesWithout 15 = .ok (.laload, 1) := by decide +kernel
theorem dX3_branchesWithout_16 : decode cX3_branchesWithout 16 = .ok (.lconst 0, 1) := by decide +kernel
theorem dX3_branchesWithout_17 : decode cX3_branchesWithout 17 = .ok (.lcmp, 1) := by decide +kernel
theorem dX3_branchesWithout_18 : decode cX3_branchesWithout 18 = .ok (.ifCond .eq 23, 3) := by decide +kernel
theorem dX3_branchesWithout_21 : decode cX3_branchesWithout 21 = .ok (.aload_n 0, 1) := by decide +kernel
theorem dX3_branchesWithout_22 : decode cX3_branchesWithout 22 = .ok (.getfield 9, 3) := by decide +kernel
theorem dX3_branchesWithout_25 : decode cX3_branchesWithout 25 = .ok (.iload_n 3, 1) := by decide +kernel
theorem dX3_branchesWithout_26 : decode cX3_branchesWithout 26 = .ok (.laload, 1) := by decide +kernel
theorem dX3_branchesWithout_27 : decode cX3_branchesWithout 27 = .ok (.invokestatic 101, 3) := by decide +kernel
theorem dX3_branchesWithout_30 : decode cX3_branchesWithout 30 = .ok (.iload_n 1, 1) := by decide +kernel
theorem dX3_branchesWithout_31 : decode cX3_branchesWithout 31 = .ok (.iand, 1) := by decide +kernel
theorem dX3_branchesWithout_32 : decode cX3_branchesWithout 32 = .ok (.ifCond .ne 9, 3) := by decide +kernel
theorem dX3_branchesWithout_35 : decode cX3_branchesWithout 35 = .ok (.iload_n 2, 1) := by decide +kernel
theorem dX3_branchesWithout_36 : decode cX3_branchesWithout 36 = .ok (.iconst 1, 1) := by decide +kernel
theorem dX3_branchesWithout_37 : decode cX3_branchesWithout 37 = .ok (.iload_n 3, 1) := by decide +kernel
theorem dX3_branchesWithout_38 : decode cX3_branchesWithout 38 = .ok (.ishl, 1) := by decide +kernel
theorem dX3_branchesWithout_39 : decode cX3_branchesWithout 39 = .ok (.ior, 1) := by decide +kernel
theorem dX3_branchesWithout_40 : decode cX3_branchesWithout 40 = .ok (.istore_n 2, 1) := by decide +kernel
theorem dX3_branchesWithout_41 : decode cX3_branchesWithout 41 = .ok (.iinc 3 1, 3) := by decide +kernel
theorem dX3_branchesWithout_44 : decode cX3_branchesWithout 44 = .ok (.goto (-40), 3) := by decide +kernel
theorem dX3_branchesWithout_47 : decode cX3_branchesWithout 47 = .ok (.iload_n 2, 1) := by decide +kernel
theorem dX3_branchesWithout_48 : decode cX3_branchesWithout 48 = .ok (.ireturn, 1) := by decide +kernel
set_option maxRecDepth 20000 in
theorem ggX3_letThrough_X3_branchesWithout : GoodIn wsX3_letThrough wsX3_branchesWithout := goodIn_r _ [8, 9, 10, 11, 12, 13, 14, 15, 16, 17, 18, 19, 20, 29, 30, 31, 32, 33, 34, 35, 36, 37, 38] (by decide +kernel) (by decide +kernel)
set_option maxRecDepth 20000 in
theorem gX3_letThrough_X3_branchesWithout : GoodIn wsX3_letThrough (wsV RX3 85 RX3 yX3_branchesWithout wsX3_branchesWithout) := goodIn_app (goodIn_of _ (by decide +kernel)) ggX3_letThrough_X3_branchesWithout
set_option maxRecDepth 20000 in
theorem ggX3_letThrough_X3_branchesWith : GoodIn wsX3_letThrough wsX3_branchesWith := goodIn_r _ [24, 9, 25, 26, 12, 27, 28, 11, 13, 14, 15, 16, 17, 18, 19, 20, 29, 30, 31, 32, 33, 34, 35, 36, 37, 38] (by decide +kernel) (by decide +kernel)
set_option maxRecDepth 20000 in
theorem gX3_letThrough_X3_branchesWith : GoodIn wsX3_letThrough (wsV RX3 104 RX3 yX3_branchesWith wsX3_branchesWith) := goodIn_app (goodIn_of _ (by decide +kernel)) ggX3_letThrough_X3_branchesWith
theorem dX3_letThrough_0 : decode cX3_letThrough 0 = .ok (.aload_n 0, 1) := by decide +kernel
theorem dX3_letThrough_1 : decode cX3_letThrough 1 = .ok (.iconst 0, 1) := by decide +kernel
theorem dX3_letThrough_2 : decode cX3_letThrough 2 = .ok (.invokevirtual 85, 3) := by decide +kernel
theorem dX3_letThrough_5 : decode cX3_letThrough 5 = .ok (.istore_n 1, 1) := by decide +kernel
theorem dX3_letThrough_6 : decode cX3_letThrough 6 = .ok (.iconst 0, 1) := by decide +kernel
theorem dX3_letThrough_7 : decode cX3_letThrough 7 = .ok (.istore_n 2, 1) := by decide +kernel
theorem dX3_letThrough_8 : decode cX3_letThrough 8 = .ok (.iload_n 2, 1) := by decide +kernel
theorem dX3_letThrough_9 : decode cX3_letThrough 9 = .ok (.aload_n 0, 1) := by decide +kernel
theorem dX3_letThrough_10 : decode cX3_letThrough 10 = .ok (.getfield 49, 3) := by decide +kernel
theorem dX3_letThrough_13 : decode cX3_letThrough 13 = .ok (.if_icmp .ge 46, 3) := by decide +kernel
theorem dX3_letThrough_16 : decode cX3_letThrough 16 = .ok (.iload_n 2, 1) := by decide +kernel
theorem dX3_letThrough_17 : decode cX3_letThrough 17 = .ok (.bipush 6, 2) := by decide +kernel
theorem dX3_letThrough_19 : decode cX3_letThrough 19 = .ok (.if_icmp .ge 40, 3) := by decide +kernel
theorem dX3_letThrough_22 : decode cX3_letThrough 22 = .ok (.aload_n 0, 1) := by decide +kernel
theorem dX3_letThrough_23 : decode cX3_letThrough 23 = .ok (.aload_n 0, 1) := by decide +kernel
theorem dX3_letThrough_24 : decode cX3_letThrough 24 = .ok (.getfield 19, 3) := by decide +kernel
theorem dX3_letThrough_27 : decode cX3_letThrough 27 = .ok (.iload_n 2, 1) := by decide +kernel
theorem dX3_letThrough_28 : decode cX3_letThrough 28 = .ok (.iaload, 1) := by decide +kernel
theorem dX3_letThrough_29 : decode cX3_letThrough 29 = .ok (.invokevirtual 104, 3) := by decide +kernel
theorem dX3_letThrough_32 : decode cX3_letThrough 32 = .ok (.istore_n 3, 1) := by decide +kernel
theorem dX3_letThrough_33 : decode cX3_letThrough 33 = .ok (.iload_n 1, 1) := by decide +kernel
theorem dX3_letThrough_34 : decode cX3_letThrough 34 = .ok (.aload_n 0, 1) := by decide +kernel
theorem dX3_letThrough_35 : decode cX3_letThrough 35 = .ok (.getfield 22, 3) := by decide +kernel
theorem dX3_letThrough_38 : decode cX3_letThrough 38 = .ok (.iload_n 2, 1) := by decide +kernel
theorem dX3_letThrough_39 : decode cX3_letThrough 39 = .ok (.iaload, 1) := by decide +kernel
theorem dX3_letThrough_40 : decode cX3_letThrough 40 = .ok (.iconst 1, 1) := by decide +kernel
theorem dX3_letThrough_41 : decode cX3_letThrough 41 = .ok (.if_icmp .ne 7, 3) := by decide +kernel
theorem dX3_letThrough_44 : decode cX3_letThrough 44 = .ok (.iload_n 3, 1) := by decide +kernel
theorem dX3_letThrough_45 : decode cX3_letThrough 45 = .ok (.goto 6, 3) := by decide +kernel
theorem dX3_letThrough_48 : decode cX3_letThrough 48 = .ok (.iload_n 3, 1) := by decide +kernel
theorem dX3_letThrough_49 : decode cX3_letThrough 49 = .ok (.iconst (-1), 1) := by decide +kernel
theorem dX3_letThrough_50 : decode cX3_letThrough 50 = .ok (.ixor, 1) := by decide +kernel
theorem dX3_letThrough_51 : decode cX3_letThrough 51 = .ok (.iand, 1) := by decide +kernel
theorem dX3_letThrough_52 : decode cX3_letThrough 52 = .ok (.istore_n 1, 1) := by decide +kernel
theorem dX3_letThrough_53 : decode cX3_letThrough 53 = .ok (.iinc 2 1, 3) := by decide +kernel
theorem dX3_letThrough_56 : decode cX3_letThrough 56 = .ok (.goto (-48), 3) := by decide +kernel
theorem dX3_letThrough_59 : decode cX3_letThrough 59 = .ok (.iload_n 1, 1) := by decide +kernel
theorem dX3_letThrough_60 : decode cX3_letThrough 60 = .ok (.ireturn, 1) := by decide +kernel
set_option maxRecDepth 20000 in
theorem ggX3_fewestWith_J6_bitCount_0f7a4 : GoodIn wsX3_fewestWith wsJ6_bitCount_0f7a4 := goodIn_r _ [4, 5, 6, 7] (by decide +kernel) (by decide +kernel)
set_option maxRecDepth 20000 in
theorem gX3_fewestWith_J6_bitCount_0f7a4 : GoodIn wsX3_fewestWith (va_wsS RX3 88 yJ6_bitCount_0f7a4 wsJ6_bitCount_0f7a4) := goodIn_app (goodIn_of _ (by decide +kernel)) ggX3_fewestWith_J6_bitCount_0f7a4
set_option maxRecDepth 20000 in
theorem ggX3_fewestWith_X3_kindsTogether : GoodIn wsX3_fewestWith wsX3_kindsTogether := goodIn_r _ [12, 13, 14, 15, 16, 17, 18, 19, 20, 21, 22, 23, 24, 25, 26, 27, 28, 29, 30, 31, 32, 33, 34] (by decide +kernel) (by decide +kernel)
set_option maxRecDepth 20000 in
theorem gX3_fewestWith_X3_kindsTogether : GoodIn wsX3_fewestWith (wsV RX3 107 RX3 yX3_kindsTogether wsX3_kindsTogether) := goodIn_app (goodIn_of _ (by decide +kernel)) ggX3_fewestWith_X3_kindsTogether
theorem dX3_fewestWith_0 : decode cX3_fewestWith 0 = .ok (.iconst (-1), 1) := by decide +kernel
theorem dX3_fewestWith_1 : decode cX3_fewestWith 1 = .ok (.istore_n 2, 1) := by decide +kernel
theorem dX3_fewestWith_2 : decode cX3_fewestWith 2 = .ok (.iconst 0, 1) := by decide +kernel
theorem dX3_fewestWith_3 : decode cX3_fewestWith 3 = .ok (.istore_n 3, 1) := by decide +kernel
theorem dX3_fewestWith_4 : decode cX3_fewestWith 4 = .ok (.iload_n 3, 1) := by decide +kernel
theorem dX3_fewestWith_5 : decode cX3_fewestWith 5 = .ok (.sipush 256, 3) := by decide +kernel
theorem dX3_fewestWith_8 : decode cX3_fewestWith 8 = .ok (.if_icmp .ge 51, 3) := by decide +kernel
theorem dX3_fewestWith_11 : decode cX3_fewestWith 11 = .ok (.iload_n 2, 1) := by decide +kernel
theorem dX3_fewestWith_12 : decode cX3_fewestWith 12 = .ok (.iconst (-1), 1) := by decide +kernel
theorem dX3_fewestWith_13 : decode cX3_fewestWith 13 = .ok (.if_icmp .eq 14, 3) := by decide +kernel
theorem dX3_fewestWith_16 : decode cX3_fewestWith 16 = .ok (.iload_n 3, 1) := by decide +kernel
theorem dX3_fewestWith_17 : decode cX3_fewestWith 17 = .ok (.invokestatic 88, 3) := by decide +kernel
theorem dX3_fewestWith_20 : decode cX3_fewestWith 20 = .ok (.iload_n 2, 1) := by decide +kernel
theorem dX3_fewestWith_21 : decode cX3_fewestWith 21 = .ok (.invokestatic 88, 3) := by decide +kernel
theorem dX3_fewestWith_24 : decode cX3_fewestWith 24 = .ok (.if_icmp .ge 7, 3) := by decide +kernel
theorem dX3_fewestWith_27 : decode cX3_fewestWith 27 = .ok (.iconst 1, 1) := by decide +kernel
theorem dX3_fewestWith_28 : decode cX3_fewestWith 28 = .ok (.goto 4, 3) := by decide +kernel
theorem dX3_fewestWith_31 : decode cX3_fewestWith 31 = .ok (.iconst 0, 1) := by decide +kernel
theorem dX3_fewestWith_32 : decode cX3_fewestWith 32 = .ok (.istore 4, 2) := by decide +kernel
theorem dX3_fewestWith_34 : decode cX3_fewestWith 34 = .ok (.iload 4, 2) := by decide +kernel
theorem dX3_fewestWith_36 : decode cX3_fewestWith 36 = .ok (.ifCond .eq 17, 3) := by decide +kernel
theorem dX3_fewestWith_39 : decode cX3_fewestWith 39 = .ok (.iload_n 1, 1) := by decide +kernel
theorem dX3_fewestWith_40 : decode cX3_fewestWith 40 = .ok (.aload_n 0, 1) := by decide +kernel
theorem dX3_fewestWith_41 : decode cX3_fewestWith 41 = .ok (.iload_n 3, 1) := by decide +kernel
theorem dX3_fewestWith_42 : decode cX3_fewestWith 42 = .ok (.invokevirtual 107, 3) := by decide +kernel
theorem dX3_fewestWith_45 : decode cX3_fewestWith 45 = .ok (.iconst (-1), 1) := by decide +kernel
theorem dX3_fewestWith_46 : decode cX3_fewestWith 46 = .ok (.ixor, 1) := by decide +kernel
theorem dX3_fewestWith_47 : decode cX3_fewestWith 47 = .ok (.iand, 1) := by decide +kernel
theorem dX3_fewestWith_48 : decode cX3_fewestWith 48 = .ok (.ifCond .ne 5, 3) := by decide +kernel
theorem dX3_fewestWith_51 : decode cX3_fewestWith 51 = .ok (.iload_n 3, 1) := by decide +kernel
theorem dX3_fewestWith_52 : decode cX3_fewestWith 52 = .ok (.istore_n 2, 1) := by decide +kernel
theorem dX3_fewestWith_53 : decode cX3_fewestWith 53 = .ok (.iinc 3 1, 3) := by decide +kernel
theorem dX3_fewestWith_56 : decode cX3_fewestWith 56 = .ok (.goto (-52), 3) := by decide +kernel
theorem dX3_fewestWith_59 : decode cX3_fewestWith 59 = .ok (.iload_n 2, 1) := by decide +kernel
theorem dX3_fewestWith_60 : decode cX3_fewestWith 60 = .ok (.ireturn, 1) := by decide +kernel
set_option maxRecDepth 20000 in
theorem ggX3_kindsTogether_X7_kindsIn : GoodIn wsX3_kindsTogether wsX7_kindsIn := goodIn_r _ [5, 6, 7, 4, 8, 9, 10, 11, 12] (by decide +kernel) (by decide +kernel)
set_option maxRecDepth 20000 in
theorem gX3_kindsTogether_X7_kindsIn : GoodIn wsX3_kindsTogether (va_wsS RX3 101 yX7_kindsIn wsX7_kindsIn) := goodIn_app (goodIn_of _ (by decide +kernel)) ggX3_kindsTogether_X7_kindsIn
theorem dX3_kindsTogether_0 : decode cX3_kindsTogether 0 = .ok (.iconst 0, 1) := by decide +kernel
theorem dX3_kindsTogether_1 : decode cX3_kindsTogether 1 = .ok (.istore_n 2, 1) := by decide +kernel
theorem dX3_kindsTogether_2 : decode cX3_kindsTogether 2 = .ok (.iconst 0, 1) := by decide +kernel
theorem dX3_kindsTogether_3 : decode cX3_kindsTogether 3 = .ok (.istore_n 3, 1) := by decide +kernel
theorem dX3_kindsTogether_4 : decode cX3_kindsTogether 4 = .ok (.iload_n 3, 1) := by decide +kernel
theorem dX3_kindsTogether_5 : decode cX3_kindsTogether 5 = .ok (.bipush 8, 2) := by decide +kernel
theorem dX3_kindsTogether_7 : decode cX3_kindsTogether 7 = .ok (.if_icmp .ge 30, 3) := by decide +kernel
theorem dX3_kindsTogether_10 : decode cX3_kindsTogether 10 = .ok (.iload_n 1, 1) := by decide +kernel
theorem dX3_kindsTogether_11 : decode cX3_kindsTogether 11 = .ok (.iload_n 3, 1) := by decide +kernel
theorem dX3_kindsTogether_12 : decode cX3_kindsTogether 12 = .ok (.ishr, 1) := by decide +kernel
theorem dX3_kindsTogether_13 : decode cX3_kindsTogether 13 = .ok (.iconst 1, 1) := by decide +kernel
theorem dX3_kindsTogether_14 : decode cX3_kindsTogether 14 = .ok (.iand, 1) := by decide +kernel
theorem dX3_kindsTogether_15 : decode cX3_kindsTogether 15 = .ok (.iconst 1, 1) := by decide +kernel
theorem dX3_kindsTogether_16 : decode cX3_kindsTogether 16 = .ok (.if_icmp .ne 15, 3) := by decide +kernel
theorem dX3_kindsTogether_19 : decode cX3_kindsTogether 19 = .ok (.iload_n 2, 1) := by decide +kernel
theorem dX3_kindsTogether_20 : decode cX3_kindsTogether 20 = .ok (.aload_n 0, 1) := by decide +kernel
theorem dX3_kindsTogether_21 : decode cX3_kindsTogether 21 = .ok (.getfield 9, 3) := by decide +kernel
theorem dX3_kindsTogether_24 : decode cX3_kindsTogether 24 = .ok (.iload_n 3, 1) := by decide +kernel
theorem dX3_kindsTogether_25 : decode cX3_kindsTogether 25 = .ok (.laload, 1) := by decide +kernel
theorem dX3_kindsTogether_26 : decode cX3_kindsTogether 26 = .ok (.invokestatic 101, 3) := by decide +kernel
theorem dX3_kindsTogether_29 : decode cX3_kindsTogether 29 = .ok (.ior, 1) := by decide +kernel
theorem dX3_kindsTogether_30 : decode cX3_kindsTogether 30 = .ok (.istore_n 2, 1) := by decide +kernel
theorem dX3_kindsTogether_31 : decode cX3_kindsTogether 31 = .ok (.iinc 3 1, 3) := by decide +kernel
theorem dX3_kindsTogether_34 : decode cX3_kindsTogether 34 = .ok (.goto (-30), 3) := by decide +kernel
theorem dX3_kindsTogether_37 : decode cX3_kindsTogether 37 = .ok (.iload_n 2, 1) := by decide +kernel
theorem dX3_kindsTogether_38 : decode cX3_kindsTogether 38 = .ok (.ireturn, 1) := by decide +kernel
set_option maxRecDepth 20000 in
theorem ggX3_digestedOnto_X7_sizeOf : GoodIn wsX3_digestedOnto wsX7_sizeOf := goodIn_r _ [11, 12] (by decide +kernel) (by decide +kernel)
set_option maxRecDepth 20000 in
theorem gX3_digestedOnto_X7_sizeOf : GoodIn wsX3_digestedOnto (va_wsS RX3 93 yX7_sizeOf wsX7_sizeOf) := goodIn_app (goodIn_of _ (by decide +kernel)) ggX3_digestedOnto_X7_sizeOf
set_option maxRecDepth 20000 in
theorem ggX3_digestedOnto_X3_partsOnto : GoodIn wsX3_digestedOnto wsX3_partsOnto := goodIn_r _ [16, 1, 8, 9, 10, 11, 12, 17, 18, 19] (by decide +kernel) (by decide +kernel)
set_option maxRecDepth 20000 in
theorem gX3_digestedOnto_X3_partsOnto : GoodIn wsX3_digestedOnto (va_wsS RX3 112 yX3_partsOnto wsX3_partsOnto) := goodIn_app (goodIn_of _ (by decide +kernel)) ggX3_digestedOnto_X3_partsOnto
theorem dX3_digestedOnto_0 : decode cX3_digestedOnto 0 = .ok (.lload_n 1, 1) := by decide +kernel
theorem dX3_digestedOnto_1 : decode cX3_digestedOnto 1 = .ok (.lstore_n 3, 1) := by decide +kernel
theorem dX3_digestedOnto_2 : decode cX3_digestedOnto 2 = .ok (.iconst 0, 1) := by decide +kernel
theorem dX3_digestedOnto_3 : decode cX3_digestedOnto 3 = .ok (.istore 5, 2) := by decide +kernel
theorem dX3_digestedOnto_5 : decode cX3_digestedOnto 5 = .ok (.iload 5, 2) := by decide +kernel
theorem dX3_digestedOnto_7 : decode cX3_digestedOnto 7 = .ok (.bipush 8, 2) := by decide +kernel
theorem dX3_digestedOnto_9 : decode cX3_digestedOnto 9 = .ok (.if_icmp .ge 52, 3) := by decide +kernel
theorem dX3_digestedOnto_12 : decode cX3_digestedOnto 12 = .ok (.ldc2_w 110, 3) := by decide +kernel
theorem dX3_digestedOnto_15 : decode cX3_digestedOnto 15 = .ok (.lload_n 3, 1) := by decide +kernel
theorem dX3_digestedOnto_16 : decode cX3_digestedOnto 16 = .ok (.lmul, 1) := by decide +kernel
theorem dX3_digestedOnto_17 : decode cX3_digestedOnto 17 = .ok (.aload_n 0, 1) := by decide +kernel
theorem dX3_digestedOnto_18 : decode cX3_digestedOnto 18 = .ok (.getfield 9, 3) := by decide +kernel
theorem dX3_digestedOnto_21 : decode cX3_digestedOnto 21 = .ok (.iload 5, 2) := by decide +kernel
theorem dX3_digestedOnto_23 : decode cX3_digestedOnto 23 = .ok (.laload, 1) := by decide +kernel
theorem dX3_digestedOnto_24 : decode cX3_digestedOnto 24 = .ok (.invokestatic 93, 3) := by decide +kernel
theorem dX3_digestedOnto_27 : decode cX3_digestedOnto 27 = .ok (.i2l, 1) := by decide +kernel
theorem dX3_digestedOnto_28 : decode cX3_digestedOnto 28 = .ok (.ladd, 1) := by decide +kernel
theorem dX3_digestedOnto_29 : decode cX3_digestedOnto 29 = .ok (.lstore_n 3, 1) := by decide +kernel
theorem dX3_digestedOnto_30 : decode cX3_digestedOnto 30 = .ok (.ldc2_w 110, 3) := by decide +kernel
theorem dX3_digestedOnto_33 : decode cX3_digestedOnto 33 = .ok (.lload_n 3, 1) := by decide +kernel
theorem dX3_digestedOnto_34 : decode cX3_digestedOnto 34 = .ok (.aload_n 0, 1) := by decide +kernel
theorem dX3_digestedOnto_35 : decode cX3_digestedOnto 35 = .ok (.getfield 9, 3) := by decide +kernel
theorem dX3_digestedOnto_38 : decode cX3_digestedOnto 38 = .ok (.iload 5, 2) := by decide +kernel
theorem dX3_digestedOnto_40 : decode cX3_digestedOnto 40 = .ok (.laload, 1) := by decide +kernel
theorem dX3_digestedOnto_41 : decode cX3_digestedOnto 41 = .ok (.invokestatic 112, 3) := by decide +kernel
theorem dX3_digestedOnto_44 : decode cX3_digestedOnto 44 = .ok (.lmul, 1) := by decide +kernel
theorem dX3_digestedOnto_45 : decode cX3_digestedOnto 45 = .ok (.aload_n 0, 1) := by decide +kernel
theorem dX3_digestedOnto_46 : decode cX3_digestedOnto 46 = .ok (.getfield 15, 3) := by decide +kernel
theorem dX3_digestedOnto_49 : decode cX3_digestedOnto 49 = .ok (.iload 5, 2) := by decide +kernel
theorem dX3_digestedOnto_51 : decode cX3_digestedOnto 51 = .ok (.iaload, 1) := by decide +kernel
theorem dX3_digestedOnto_52 : decode cX3_digestedOnto 52 = .ok (.i2l, 1) := by decide +kernel
theorem dX3_digestedOnto_53 : decode cX3_digestedOnto 53 = .ok (.ladd, 1) := by decide +kernel
theorem dX3_digestedOnto_54 : decode cX3_digestedOnto 54 = .ok (.lstore_n 3, 1) := by decide +kernel
theorem dX3_digestedOnto_55 : decode cX3_digestedOnto 55 = .ok (.iinc 5 1, 3) := by decide +kernel
theorem dX3_digestedOnto_58 : decode cX3_digestedOnto 58 = .ok (.goto (-53), 3) := by decide +kernel
theorem dX3_digestedOnto_61 : decode cX3_digestedOnto 61 = .ok (.lload_n 3, 1) := by decide +kernel
theorem dX3_digestedOnto_62 : decode cX3_digestedOnto 62 = .ok (.aload_n 0, 1) := by decide +kernel
theorem dX3_digestedOnto_63 : decode cX3_digestedOnto 63 = .ok (.getfield 45, 3) := by decide +kernel
theorem dX3_digestedOnto_66 : decode cX3_digestedOnto 66 = .ok (.invokestatic 112, 3) := by decide +kernel
theorem dX3_digestedOnto_69 : decode cX3_digestedOnto 69 = .ok (.lstore_n 3, 1) := by decide +kernel
theorem dX3_digestedOnto_70 : decode cX3_digestedOnto 70 = .ok (.iconst 0, 1) := by decide +kernel
theorem dX3_digestedOnto_71 : decode cX3_digestedOnto 71 = .ok (.istore 5, 2) := by decide +kernel
theorem dX3_digestedOnto_73 : decode cX3_digestedOnto 73 = .ok (.iload 5, 2) := by decide +kernel
theorem dX3_digestedOnto_75 : decode cX3_digestedOnto 75 = .ok (.aload_n 0, 1) := by decide +kernel
theorem dX3_digestedOnto_76 : decode cX3_digestedOnto 76 = .ok (.getfield 49, 3) := by decide +kernel
theorem dX3_digestedOnto_79 : decode cX3_digestedOnto 79 = .ok (.if_icmp .ge 44, 3) := by decide +kernel
theorem dX3_digestedOnto_82 : decode cX3_digestedOnto 82 = .ok (.iload 5, 2) := by decide +kernel
theorem dX3_digestedOnto_84 : decode cX3_digestedOnto 84 = .ok (.bipush 6, 2) := by decide +kernel
theorem dX3_digestedOnto_86 : decode cX3_digestedOnto 86 = .ok (.if_icmp .ge 37, 3) := by decide +kernel
theorem dX3_digestedOnto_89 : decode cX3_digestedOnto 89 = .ok (.ldc2_w 110, 3) := by decide +kernel
theorem dX3_digestedOnto_92 : decode cX3_digestedOnto 92 = .ok (.ldc2_w 110, 3) := by decide +kernel
theorem dX3_digestedOnto_95 : decode cX3_digestedOnto 95 = .ok (.lload_n 3, 1) := by decide +kernel
theorem dX3_digestedOnto_96 : decode cX3_digestedOnto 96 = .ok (.lmul, 1) := by decide +kernel
theorem dX3_digestedOnto_97 : decode cX3_digestedOnto 97 = .ok (.aload_n 0, 1) := by decide +kernel
theorem dX3_digestedOnto_98 : decode cX3_digestedOnto 98 = .ok (.getfield 19, 3) := by decide +kernel
theorem dX3_digestedOnto_101 : decode cX3_digestedOnto 101 = .ok (.iload 5, 2) := by decide +kernel
theorem dX3_digestedOnto_103 : decode cX3_digestedOnto 103 = .ok (.iaload, 1) := by decide +kernel
theorem dX3_digestedOnto_104 : decode cX3_digestedOnto 104 = .ok (.i2l, 1) := by decide +kernel
theorem dX3_digestedOnto_105 : decode cX3_digestedOnto 105 = .ok (.ladd, 1) := by decide +kernel
theorem dX3_digestedOnto_106 : decode cX3_digestedOnto 106 = .ok (.lmul, 1) := by decide +kernel
theorem dX3_digestedOnto_107 : decode cX3_digestedOnto 107 = .ok (.aload_n 0, 1) := by decide +kernel
theorem dX3_digestedOnto_108 : decode cX3_digestedOnto 108 = .ok (.getfield 22, 3) := by decide +kernel
theorem dX3_digestedOnto_111 : decode cX3_digestedOnto 111 = .ok (.iload 5, 2) := by decide +kernel
theorem dX3_digestedOnto_113 : decode cX3_digestedOnto 113 = .ok (.iaload, 1) := by decide +kernel
theorem dX3_digestedOnto_114 : decode cX3_digestedOnto 114 = .ok (.i2l, 1) := by decide +kernel
theorem dX3_digestedOnto_115 : decode cX3_digestedOnto 115 = .ok (.ladd, 1) := by decide +kernel
theorem dX3_digestedOnto_116 : decode cX3_digestedOnto 116 = .ok (.lstore_n 3, 1) := by decide +kernel
theorem dX3_digestedOnto_117 : decode cX3_digestedOnto 117 = .ok (.iinc 5 1, 3) := by decide +kernel
theorem dX3_digestedOnto_120 : decode cX3_digestedOnto 120 = .ok (.goto (-47), 3) := by decide +kernel
theorem dX3_digestedOnto_123 : decode cX3_digestedOnto 123 = .ok (.lload_n 3, 1) := by decide +kernel
theorem dX3_digestedOnto_124 : decode cX3_digestedOnto 124 = .ok (.lreturn, 1) := by decide +kernel
set_option maxRecDepth 20000 in
theorem ggX3_partsOnto_X7_sizeOf : GoodIn wsX3_partsOnto wsX7_sizeOf := goodIn_r _ [5, 6] (by decide +kernel) (by decide +kernel)
set_option maxRecDepth 20000 in
theorem gX3_partsOnto_X7_sizeOf : GoodIn wsX3_partsOnto (va_wsS RX3 93 yX7_sizeOf wsX7_sizeOf) := goodIn_app (goodIn_of _ (by decide +kernel)) ggX3_partsOnto_X7_sizeOf
set_option maxRecDepth 20000 in
theorem ggX3_partsOnto_X7_partIn : GoodIn wsX3_partsOnto wsX7_partIn := goodIn_r _ [9] (by decide +kernel) (by decide +kernel)
set_option maxRecDepth 20000 in
theorem gX3_partsOnto_X7_partIn : GoodIn wsX3_partsOnto (va_wsS RX3 116 yX7_partIn wsX7_partIn) := goodIn_app (goodIn_of _ (by decide +kernel)) ggX3_partsOnto_X7_partIn
theorem dX3_partsOnto_0 : decode cX3_partsOnto 0 = .ok (.lload_n 0, 1) := by decide +kernel
theorem dX3_partsOnto_1 : decode cX3_partsOnto 1 = .ok (.lstore 4, 2) := by decide +kernel
theorem dX3_partsOnto_3 : decode cX3_partsOnto 3 = .ok (.iconst 0, 1) := by decide +kernel
theorem dX3_partsOnto_4 : decode cX3_partsOnto 4 = .ok (.istore 6, 2) := by decide +kernel
theorem dX3_partsOnto_6 : decode cX3_partsOnto 6 = .ok (.iload 6, 2) := by decide +kernel
theorem dX3_partsOnto_8 : decode cX3_partsOnto 8 = .ok (.lload_n 2, 1) := by decide +kernel
theorem dX3_partsOnto_9 : decode cX3_partsOnto 9 = .ok (.invokestatic 93, 3) := by decide +kernel
theorem dX3_partsOnto_12 : decode cX3_partsOnto 12 = .ok (.if_icmp .ge 25, 3) := by decide +kernel
theorem dX3_partsOnto_15 : decode cX3_partsOnto 15 = .ok (.ldc2_w 110, 3) := by decide +kernel
theorem dX3_partsOnto_18 : decode cX3_partsOnto 18 = .ok (.lload 4, 2) := by decide +kernel
theorem dX3_partsOnto_20 : decode cX3_partsOnto 20 = .ok (.lmul, 1) := by decide +kernel
theorem dX3_partsOnto_21 : decode cX3_partsOnto 21 = .ok (.lload_n 2, 1) := by decide +kernel
theorem dX3_partsOnto_22 : decode cX3_partsOnto 22 = .ok (.iload 6, 2) := by decide +kernel
theorem dX3_partsOnto_24 : decode cX3_partsOnto 24 = .ok (.invokestatic 116, 3) := by decide +kernel
theorem dX3_partsOnto_27 : decode cX3_partsOnto 27 = .ok (.i2l, 1) := by decide +kernel
theorem dX3_partsOnto_28 : decode cX3_partsOnto 28 = .ok (.ladd, 1) := by decide +kernel
theorem dX3_partsOnto_29 : decode cX3_partsOnto 29 = .ok (.lstore 4, 2) := by decide +kernel
theorem dX3_partsOnto_31 : decode cX3_partsOnto 31 = .ok (.iinc 6 1, 3) := by decide +kernel
theorem dX3_partsOnto_34 : decode cX3_partsOnto 34 = .ok (.goto (-28), 3) := by decide +kernel
theorem dX3_partsOnto_37 : decode cX3_partsOnto 37 = .ok (.lload 4, 2) := by decide +kernel
theorem dX3_partsOnto_39 : decode cX3_partsOnto 39 = .ok (.lreturn, 1) := by decide +kernel
set_option maxRecDepth 20000 in
theorem ggX4_funOf_X7_sizeOf : GoodIn wsX4_funOf wsX7_sizeOf := goodIn_r _ [4, 5] (by decide +kernel) (by decide +kernel)
set_option maxRecDepth 20000 in
theorem gX4_funOf_X7_sizeOf : GoodIn wsX4_funOf (va_wsS RX4 9 yX7_sizeOf wsX7_sizeOf) := goodIn_app (goodIn_of _ (by decide +kernel)) ggX4_funOf_X7_sizeOf
set_option maxRecDepth 20000 in
theorem ggX4_funOf_X7_partIn : GoodIn wsX4_funOf wsX7_partIn := goodIn_r _ [8] (by decide +kernel) (by decide +kernel)
set_option maxRecDepth 20000 in
theorem gX4_funOf_X7_partIn : GoodIn wsX4_funOf (va_wsS RX4 15 yX7_partIn wsX7_partIn) := goodIn_app (goodIn_of _ (by decide +kernel)) ggX4_funOf_X7_partIn
set_option maxRecDepth 20000 in
theorem ggX4_funOf_X4_funOfNext : GoodIn wsX4_funOf wsX4_funOfNext := goodIn_r _ [12] (by decide +kernel) (by decide +kernel)
set_option maxRecDepth 20000 in
theorem gX4_funOf_X4_funOfNext : GoodIn wsX4_funOf (va_wsS RX4 19 yX4_funOfNext wsX4_funOfNext) := goodIn_app (goodIn_of _ (by decide +kernel)) ggX4_funOf_X4_funOfNext
theorem dX4_funOf_0 : decode cX4_funOf 0 = .ok (.iconst 0, 1) := by decide +kernel
theorem dX4_funOf_1 : decode cX4_funOf 1 = .ok (.istore_n 2, 1) := by decide +kernel
theorem dX4_funOf_2 : decode cX4_funOf 2 = .ok (.iconst (-1), 1) := by decide +kernel
theorem dX4_funOf_3 : decode cX4_funOf 3 = .ok (.istore_n 3, 1) := by decide +kernel
theorem dX4_funOf_4 : decode cX4_funOf 4 = .ok (.lconst 0, 1) := by decide +kernel
theorem dX4_funOf_5 : decode cX4_funOf 5 = .ok (.lstore 4, 2) := by decide +kernel
theorem dX4_funOf_7 : decode cX4_funOf 7 = .ok (.iconst 0, 1) := by decide +kernel
theorem dX4_funOf_8 : decode cX4_funOf 8 = .ok (.istore 6, 2) := by decide +kernel
theorem dX4_funOf_10 : decode cX4_funOf 10 = .ok (.iload 6, 2) := by decide +kernel
theorem dX4_funOf_12 : decode cX4_funOf 12 = .ok (.lload_n 0, 1) := by decide +kernel
theorem dX4_funOf_13 : decode cX4_funOf 13 = .ok (.invokestatic 9, 3) := by decide +kernel
theorem dX4_funOf_16 : decode cX4_funOf 16 = .ok (.if_icmp .ge 51, 3) := by decide +kernel
theorem dX4_funOf_19 : decode cX4_funOf 19 = .ok (.lload_n 0, 1) := by decide +kernel
theorem dX4_funOf_20 : decode cX4_funOf 20 = .ok (.iload 6, 2) := by decide +kernel
theorem dX4_funOf_22 : decode cX4_funOf 22 = .ok (.invokestatic 15, 3) := by decide +kernel
theorem dX4_funOf_25 : decode cX4_funOf 25 = .ok (.istore 7, 2) := by decide +kernel
theorem dX4_funOf_27 : decode cX4_funOf 27 = .ok (.iload_n 2, 1) := by decide +kernel
theorem dX4_funOf_28 : decode cX4_funOf 28 = .ok (.iload_n 3, 1) := by decide +kernel
theorem dX4_funOf_29 : decode cX4_funOf 29 = .ok (.iload 7, 2) := by decide +kernel
theorem dX4_funOf_31 : decode cX4_funOf 31 = .ok (.lload 4, 2) := by decide +kernel
theorem dX4_funOf_33 : decode cX4_funOf 33 = .ok (.iconst 4, 1) := by decide +kernel
theorem dX4_funOf_34 : decode cX4_funOf 34 = .ok (.iload 7, 2) := by decide +kernel
theorem dX4_funOf_36 : decode cX4_funOf 36 = .ok (.imul, 1) := by decide +kernel
theorem dX4_funOf_37 : decode cX4_funOf 37 = .ok (.lushr, 1) := by decide +kernel
theorem dX4_funOf_38 : decode cX4_funOf 38 = .ok (.l2i, 1) := by decide +kernel
theorem dX4_funOf_39 : decode cX4_funOf 39 = .ok (.bipush 15, 2) := by decide +kernel
theorem dX4_funOf_41 : decode cX4_funOf 41 = .ok (.iand, 1) := by decide +kernel
theorem dX4_funOf_42 : decode cX4_funOf 42 = .ok (.invokestatic 19, 3) := by decide +kernel
theorem dX4_funOf_45 : decode cX4_funOf 45 = .ok (.iadd, 1) := by decide +kernel
theorem dX4_funOf_46 : decode cX4_funOf 46 = .ok (.istore_n 2, 1) := by decide +kernel
theorem dX4_funOf_47 : decode cX4_funOf 47 = .ok (.lload 4, 2) := by decide +kernel
theorem dX4_funOf_49 : decode cX4_funOf 49 = .ok (.lconst 1, 1) := by decide +kernel
theorem dX4_funOf_50 : decode cX4_funOf 50 = .ok (.iconst 4, 1) := by decide +kernel
theorem dX4_funOf_51 : decode cX4_funOf 51 = .ok (.iload 7, 2) := by decide +kernel
theorem dX4_funOf_53 : decode cX4_funOf 53 = .ok (.imul, 1) := by decide +kernel
theorem dX4_funOf_54 : decode cX4_funOf 54 = .ok (.lshl, 1) := by decide +kernel
theorem dX4_funOf_55 : decode cX4_funOf 55 = .ok (.ladd, 1) := by decide +kernel
theorem dX4_funOf_56 : decode cX4_funOf 56 = .ok (.lstore 4, 2) := by decide +kernel
theorem dX4_funOf_58 : decode cX4_funOf 58 = .ok (.iload 7, 2) := by decide +kernel
theorem dX4_funOf_60 : decode cX4_funOf 60 = .ok (.istore_n 3, 1) := by decide +kernel
theorem dX4_funOf_61 : decode cX4_funOf 61 = .ok (.iinc 6 1, 3) := by decide +kernel
theorem dX4_funOf_64 : decode cX4_funOf 64 = .ok (.goto (-54), 3) := by decide +kernel
theorem dX4_funOf_67 : decode cX4_funOf 67 = .ok (.iload_n 3, 1) := by decide +kernel
theorem dX4_funOf_68 : decode cX4_funOf 68 = .ok (.bipush 9, 2) := by decide +kernel
theorem dX4_funOf_70 : decode cX4_funOf 70 = .ok (.if_icmp .ne 9, 3) := by decide +kernel
theorem dX4_funOf_73 : decode cX4_funOf 73 = .ok (.iload_n 2, 1) := by decide +kernel
theorem dX4_funOf_74 : decode cX4_funOf 74 = .ok (.iconst 3, 1) := by decide +kernel
theorem dX4_funOf_75 : decode cX4_funOf 75 = .ok (.iadd, 1) := by decide +kernel
theorem dX4_funOf_76 : decode cX4_funOf 76 = .ok (.goto 4, 3) := by decide +kernel
theorem dX4_funOf_79 : decode cX4_funOf 79 = .ok (.iload_n 2, 1) := by decide +kernel
theorem dX4_funOf_80 : decode cX4_funOf 80 = .ok (.ireturn, 1) := by decide +kernel
theorem dX4_funOfNext_0 : decode cX4_funOfNext 0 = .ok (.iload_n 1, 1) := by decide +kernel
theorem dX4_funOfNext_1 : decode cX4_funOfNext 1 = .ok (.iload_n 0, 1) := by decide +kernel
theorem dX4_funOfNext_2 : decode cX4_funOfNext 2 = .ok (.if_icmp .ne 7, 3) := by decide +kernel
theorem dX4_funOfNext_5 : decode cX4_funOfNext 5 = .ok (.iconst 0, 1) := by decide +kernel
theorem dX4_funOfNext_6 : decode cX4_funOfNext 6 = .ok (.goto 4, 3) := by decide +kernel
theorem dX4_funOfNext_9 : decode cX4_funOfNext 9 = .ok (.iconst 2, 1) := by decide +kernel
theorem dX4_funOfNext_10 : decode cX4_funOfNext 10 = .ok (.istore_n 3, 1) := by decide +kernel
theorem dX4_funOfNext_11 : decode cX4_funOfNext 11 = .ok (.iload_n 0, 1) := by decide +kernel
theorem dX4_funOfNext_12 : decode cX4_funOfNext 12 = .ok (.bipush 7, 2) := by decide +kernel
theorem dX4_funOfNext_14 : decode cX4_funOfNext 14 = .ok (.if_icmp .ne 12, 3) := by decide +kernel
theorem dX4_funOfNext_17 : decode cX4_funOfNext 17 = .ok (.iload_n 1, 1) := by decide +kernel
theorem dX4_funOfNext_18 : decode cX4_funOfNext 18 = .ok (.bipush 9, 2) := by decide +kernel
theorem dX4_funOfNext_20 : decode cX4_funOfNext 20 = .ok (.if_icmp .ne 6, 3) := by decide +kernel
theorem dX4_funOfNext_23 : decode cX4_funOfNext 23 = .ok (.iinc 3 5, 3) := by decide +kernel
theorem dX4_funOfNext_26 : decode cX4_funOfNext 26 = .ok (.iload_n 2, 1) := by decide +kernel
theorem dX4_funOfNext_27 : decode cX4_funOfNext 27 = .ok (.iconst 2, 1) := by decide +kernel
theorem dX4_funOfNext_28 : decode cX4_funOfNext 28 = .ok (.if_icmp .lt 9, 3) := by decide +kernel
theorem dX4_funOfNext_31 : decode cX4_funOfNext 31 = .ok (.iload_n 3, 1) := by decide +kernel
theorem dX4_funOfNext_32 : decode cX4_funOfNext 32 = .ok (.iconst 4, 1) := by decide +kernel
theorem dX4_funOfNext_33 : decode cX4_funOfNext 33 = .ok (.isub, 1) := by decide +kernel
theorem dX4_funOfNext_34 : decode cX4_funOfNext 34 = .ok (.goto 4, 3) := by decide +kernel
theorem dX4_funOfNext_37 : decode cX4_funOfNext 37 = .ok (.iload_n 3, 1) := by decide +kernel
theorem dX4_funOfNext_38 : decode cX4_funOfNext 38 = .ok (.ireturn, 1) := by decide +kernel
set_option maxRecDepth 20000 in
theorem ggX4_funniestSlip_X4_funOf : GoodIn wsX4_funniestSlip wsX4_funOf := goodIn_r _ [4, 5, 6, 7, 8, 9, 10, 11, 12, 13, 14, 3, 15] (by decide +kernel) (by decide +kernel)
set_option maxRecDepth 20000 in
theorem gX4_funniestSlip_X4_funOf : GoodIn wsX4_funniestSlip (va_wsS RX4 25 yX4_funOf wsX4_funOf) := goodIn_app (goodIn_of _ (by decide +kernel)) ggX4_funniestSlip_X4_funOf
set_option maxRecDepth 20000 in
theorem ggX4_funniestSlip_X7_slipped : GoodIn wsX4_funniestSlip wsX7_slipped := goodIn_r _ [18, 19, 20, 7, 21, 22, 6, 8, 9, 23, 11, 12, 24, 25, 26, 27, 28, 29, 30, 31, 32, 33, 34, 35, 36, 37, 38, 39, 40, 41, 42, 43, 44] (by decide +kernel) (by decide +kernel)
set_option maxRecDepth 20000 in
theorem gX4_funniestSlip_X7_slipped : GoodIn wsX4_funniestSlip (va_wsS RX4 28 yX7_slipped wsX7_slipped) := goodIn_app (goodIn_of _ (by decide +kernel)) ggX4_funniestSlip_X7_slipped
theorem dX4_funniestSlip_0 : decode cX4_funniestSlip 0 = .ok (.iconst 0, 1) := by decide +kernel
theorem dX4_funniestSlip_1 : decode cX4_funniestSlip 1 = .ok (.istore_n 2, 1) := by decide +kernel
theorem dX4_funniestSlip_2 : decode cX4_funniestSlip 2 = .ok (.lload_n 0, 1) := by decide +kernel
theorem dX4_funniestSlip_3 : decode cX4_funniestSlip 3 = .ok (.invokestatic 25, 3) := by decide +kernel
theorem dX4_funniestSlip_6 : decode cX4_funniestSlip 6 = .ok (.istore_n 3, 1) := by decide +kernel
theorem dX4_funniestSlip_7 : decode cX4_funniestSlip 7 = .ok (.iconst 1, 1) := by decide +kernel
theorem dX4_funniestSlip_8 : decode cX4_funniestSlip 8 = .ok (.istore 4, 2) := by decide +kernel
theorem dX4_funniestSlip_10 : decode cX4_funniestSlip 10 = .ok (.iload 4, 2) := by decide +kernel
theorem dX4_funniestSlip_12 : decode cX4_funniestSlip 12 = .ok (.bipush 6, 2) := by decide +kernel
theorem dX4_funniestSlip_14 : decode cX4_funniestSlip 14 = .ok (.if_icmp .ge 100, 3) := by decide +kernel
theorem dX4_funniestSlip_17 : decode cX4_funniestSlip 17 = .ok (.iload 4, 2) := by decide +kernel
theorem dX4_funniestSlip_19 : decode cX4_funniestSlip 19 = .ok (.iconst 2, 1) := by decide +kernel
theorem dX4_funniestSlip_20 : decode cX4_funniestSlip 20 = .ok (.if_icmp .eq 9, 3) := by decide +kernel
theorem dX4_funniestSlip_23 : decode cX4_funniestSlip 23 = .ok (.iload 4, 2) := by decide +kernel
theorem dX4_funniestSlip_25 : decode cX4_funniestSlip 25 = .ok (.iconst 5, 1) := by decide +kernel
theorem dX4_funniestSlip_26 : decode cX4_funniestSlip 26 = .ok (.if_icmp .ne 8, 3) := by decide +kernel
theorem dX4_funniestSlip_29 : decode cX4_funniestSlip 29 = .ok (.bipush 10, 2) := by decide +kernel
theorem dX4_funniestSlip_31 : decode cX4_funniestSlip 31 = .ok (.goto 4, 3) := by decide +kernel
theorem dX4_funniestSlip_34 : decode cX4_funniestSlip 34 = .ok (.iconst 1, 1) := by decide +kernel
theorem dX4_funniestSlip_35 : decode cX4_funniestSlip 35 = .ok (.istore 5, 2) := by decide +kernel
theorem dX4_funniestSlip_37 : decode cX4_funniestSlip 37 = .ok (.iconst 0, 1) := by decide +kernel
theorem dX4_funniestSlip_38 : decode cX4_funniestSlip 38 = .ok (.istore 6, 2) := by decide +kernel
theorem dX4_funniestSlip_40 : decode cX4_funniestSlip 40 = .ok (.iload 6, 2) := by decide +kernel
theorem dX4_funniestSlip_42 : decode cX4_funniestSlip 42 = .ok (.bipush 10, 2) := by decide +kernel
theorem dX4_funniestSlip_44 : decode cX4_funniestSlip 44 = .ok (.if_icmp .ge 64, 3) := by decide +kernel
theorem dX4_funniestSlip_47 : decode cX4_funniestSlip 47 = .ok (.iconst 0, 1) := by decide +kernel
theorem dX4_funniestSlip_48 : decode cX4_funniestSlip 48 = .ok (.istore 7, 2) := by decide +kernel
theorem dX4_funniestSlip_50 : decode cX4_funniestSlip 50 = .ok (.iload 7, 2) := by decide +kernel
theorem dX4_funniestSlip_52 : decode cX4_funniestSlip 52 = .ok (.iload 5, 2) := by decide +kernel
theorem dX4_funniestSlip_54 : decode cX4_funniestSlip 54 = .ok (.if_icmp .ge 48, 3) := by decide +kernel
theorem dX4_funniestSlip_57 : decode cX4_funniestSlip 57 = .ok (.lload_n 0, 1) := by decide +kernel
theorem dX4_funniestSlip_58 : decode cX4_funniestSlip 58 = .ok (.iload 4, 2) := by decide +kernel
theorem dX4_funniestSlip_60 : decode cX4_funniestSlip 60 = .ok (.iload 6, 2) := by decide +kernel
theorem dX4_funniestSlip_62 : decode cX4_funniestSlip 62 = .ok (.iload 7, 2) := by decide +kernel
theorem dX4_funniestSlip_64 : decode cX4_funniestSlip 64 = .ok (.invokestatic 28, 3) := by decide +kernel
theorem dX4_funniestSlip_67 : decode cX4_funniestSlip 67 = .ok (.invokestatic 25, 3) := by decide +kernel
theorem dX4_funniestSlip_70 : decode cX4_funniestSlip 70 = .ok (.istore 8, 2) := by decide +kernel
theorem dX4_funniestSlip_72 : decode cX4_funniestSlip 72 = .ok (.iload 8, 2) := by decide +kernel
theorem dX4_funniestSlip_74 : decode cX4_funniestSlip 74 = .ok (.iload_n 3, 1) := by decide +kernel
theorem dX4_funniestSlip_75 : decode cX4_funniestSlip 75 = .ok (.if_icmp .le 21, 3) := by decide +kernel
theorem dX4_funniestSlip_78 : decode cX4_funniestSlip 78 = .ok (.bipush 100, 2) := by decide +kernel
theorem dX4_funniestSlip_80 : decode cX4_funniestSlip 80 = .ok (.iload 4, 2) := by decide +kernel
theorem dX4_funniestSlip_82 : decode cX4_funniestSlip 82 = .ok (.imul, 1) := by decide +kernel
theorem dX4_funniestSlip_83 : decode cX4_funniestSlip 83 = .ok (.bipush 10, 2) := by decide +kernel
theorem dX4_funniestSlip_85 : decode cX4_funniestSlip 85 = .ok (.iload 6, 2) := by decide +kernel
theorem dX4_funniestSlip_87 : decode cX4_funniestSlip 87 = .ok (.imul, 1) := by decide +kernel
theorem dX4_funniestSlip_88 : decode cX4_funniestSlip 88 = .ok (.iadd, 1) := by decide +kernel
theorem dX4_funniestSlip_89 : decode cX4_funniestSlip 89 = .ok (.iload 7, 2) := by decide +kernel
theorem dX4_funniestSlip_91 : decode cX4_funniestSlip 91 = .ok (.iadd, 1) := by decide +kernel
theorem dX4_funniestSlip_92 : decode cX4_funniestSlip 92 = .ok (.istore_n 2, 1) := by decide +kernel
theorem dX4_funniestSlip_93 : decode cX4_funniestSlip 93 = .ok (.iload 8, 2) := by decide +kernel
theorem dX4_funniestSlip_95 : decode cX4_funniestSlip 95 = .ok (.istore_n 3, 1) := by decide +kernel
theorem dX4_funniestSlip_96 : decode cX4_funniestSlip 96 = .ok (.iinc 7 1, 3) := by decide +kernel
theorem dX4_funniestSlip_99 : decode cX4_funniestSlip 99 = .ok (.goto (-49), 3) := by decide +kernel
theorem dX4_funniestSlip_102 : decode cX4_funniestSlip 102 = .ok (.iinc 6 1, 3) := by decide +kernel
theorem dX4_funniestSlip_105 : decode cX4_funniestSlip 105 = .ok (.goto (-65), 3) := by decide +kernel
theorem dX4_funniestSlip_108 : decode cX4_funniestSlip 108 = .ok (.iinc 4 1, 3) := by decide +kernel
theorem dX4_funniestSlip_111 : decode cX4_funniestSlip 111 = .ok (.goto (-101), 3) := by decide +kernel
theorem dX4_funniestSlip_114 : decode cX4_funniestSlip 114 = .ok (.iload_n 2, 1) := by decide +kernel
theorem dX4_funniestSlip_115 : decode cX4_funniestSlip 115 = .ok (.ireturn, 1) := by decide +kernel
theorem dX5_init_0 : decode cX5_init 0 = .ok (.aload_n 0, 1) := by decide +kernel
theorem dX5_init_1 : decode cX5_init 1 = .ok (.invokespecial 3, 3) := by decide +kernel
theorem dX5_init_4 : decode cX5_init 4 = .ok (.aload_n 0, 1) := by decide +kernel
theorem dX5_init_5 : decode cX5_init 5 = .ok (.bipush 11, 2) := by decide +kernel
theorem dX5_init_7 : decode cX5_init 7 = .ok (.bipush 11, 2) := by decide +kernel
theorem dX5_init_9 : decode cX5_init 9 = .ok (.multianewarray 9 2, 4) := by decide +kernel
theorem dX5_init_13 : decode cX5_init 13 = .ok (.putfield 11, 3) := by decide +kernel
theorem dX5_init_16 : decode cX5_init 16 = .ok (.return_, 1) := by decide +kernel
set_option maxRecDepth 20000 in
theorem ggX5_between_X7_sizeOf : GoodIn wsX5_between wsX7_sizeOf := goodIn_r _ [5, 6] (by decide +kernel) (by decide +kernel)
set_option maxRecDepth 20000 in
theorem gX5_between_X7_sizeOf : GoodIn wsX5_between (va_wsS RX5 16 yX7_sizeOf wsX7_sizeOf) := goodIn_app (goodIn_of _ (by decide +kernel)) ggX5_between_X7_sizeOf
set_option maxRecDepth 20000 in
theorem ggX5_between_X5_leastOf : GoodIn wsX5_between wsX5_leastOf := goodIn_r _ [11, 1, 12, 13, 14, 15, 16, 17, 4, 18, 19] (by decide +kernel) (by decide +kernel)
set_option maxRecDepth 20000 in
theorem gX5_between_X5_leastOf : GoodIn wsX5_between (wsV RX5 22 RX5 yX5_leastOf wsX5_leastOf) := goodIn_app (goodIn_of _ (by decide +kernel)) ggX5_between_X5_leastOf
theorem dX5_between_0 : decode cX5_between 0 = .ok (.lload_n 1, 1) := by decide +kernel
theorem dX5_between_1 : decode cX5_between 1 = .ok (.invokestatic 16, 3) := by decide +kernel
theorem dX5_between_4 : decode cX5_between 4 = .ok (.istore 5, 2) := by decide +kernel
theorem dX5_between_6 : decode cX5_between 6 = .ok (.lload_n 3, 1) := by decide +kernel
theorem dX5_between_7 : decode cX5_between 7 = .ok (.invokestatic 16, 3) := by decide +kernel
theorem dX5_between_10 : decode cX5_between 10 = .ok (.istore 6, 2) := by decide +kernel
theorem dX5_between_12 : decode cX5_between 12 = .ok (.iconst 0, 1) := by decide +kernel
theorem dX5_between_13 : decode cX5_between 13 = .ok (.istore 7, 2) := by decide +kernel
theorem dX5_between_15 : decode cX5_between 15 = .ok (.iload 7, 2) := by decide +kernel
theorem dX5_between_17 : decode cX5_between 17 = .ok (.iload 5, 2) := by decide +kernel
theorem dX5_between_19 : decode cX5_between 19 = .ok (.if_icmp .gt 63, 3) := by decide +kernel
theorem dX5_between_22 : decode cX5_between 22 = .ok (.iconst 0, 1) := by decide +kernel
theorem dX5_between_23 : decode cX5_between 23 = .ok (.istore 8, 2) := by decide +kernel
theorem dX5_between_25 : decode cX5_between 25 = .ok (.iload 8, 2) := by decide +kernel
theorem dX5_between_27 : decode cX5_between 27 = .ok (.iload 6, 2) := by decide +kernel
theorem dX5_between_29 : decode cX5_between 29 = .ok (.if_icmp .gt 47, 3) := by decide +kernel
theorem dX5_between_32 : decode cX5_between 32 = .ok (.aload_n 0, 1) := by decide +kernel
theorem dX5_between_33 : decode cX5_between 33 = .ok (.getfield 11, 3) := by decide +kernel
theorem dX5_between_36 : decode cX5_between 36 = .ok (.iload 7, 2) := by decide +kernel
theorem dX5_between_38 : decode cX5_between 38 = .ok (.aaload, 1) := by decide +kernel
theorem dX5_between_39 : decode cX5_between 39 = .ok (.iload 8, 2) := by decide +kernel
theorem dX5_between_41 : decode cX5_between 41 = .ok (.iload 7, 2) := by decide +kernel
theorem dX5_between_43 : decode cX5_between 43 = .ok (.ifCond .eq 8, 3) := by decide +kernel
theorem dX5_between_46 : decode cX5_between 46 = .ok (.iload 8, 2) := by decide +kernel
theorem dX5_between_48 : decode cX5_between 48 = .ok (.ifCond .ne 11, 3) := by decide +kernel
theorem dX5_between_51 : decode cX5_between 51 = .ok (.iload 7, 2) := by decide +kernel
theorem dX5_between_53 : decode cX5_between 53 = .ok (.iload 8, 2) := by decide +kernel
theorem dX5_between_55 : decode cX5_between 55 = .ok (.iadd, 1) := by decide +kernel
theorem dX5_between_56 : decode cX5_between 56 = .ok (.goto 13, 3) := by decide +kernel
theorem dX5_between_59 : decode cX5_between 59 = .ok (.aload_n 0, 1) := by decide +kernel
theorem dX5_between_60 : decode cX5_between 60 = .ok (.lload_n 1, 1) := by decide +kernel
theorem dX5_between_61 : decode cX5_between 61 = .ok (.iload 7, 2) := by decide +kernel
theorem dX5_between_63 : decode cX5_between 63 = .ok (.lload_n 3, 1) := by decide +kernel
theorem dX5_between_64 : decode cX5_between 64 = .ok (.iload 8, 2) := by decide +kernel
theorem dX5_between_66 : decode cX5_between 66 = .ok (.invokevirtual 22, 3) := by decide +kernel
theorem dX5_between_69 : decode cX5_between 69 = .ok (.iastore, 1) := by decide +kernel
theorem dX5_between_70 : decode cX5_between 70 = .ok (.iinc 8 1, 3) := by decide +kernel
theorem dX5_between_73 : decode cX5_between 73 = .ok (.goto (-48), 3) := by decide +kernel
theorem dX5_between_76 : decode cX5_between 76 = .ok (.iinc 7 1, 3) := by decide +kernel
theorem dX5_between_79 : decode cX5_between 79 = .ok (.goto (-64), 3) := by decide +kernel
theorem dX5_between_82 : decode cX5_between 82 = .ok (.aload_n 0, 1) := by decide +kernel
theorem dX5_between_83 : decode cX5_between 83 = .ok (.getfield 11, 3) := by decide +kernel
theorem dX5_between_86 : decode cX5_between 86 = .ok (.iload 5, 2) := by decide +kernel
theorem dX5_between_88 : decode cX5_between 88 = .ok (.aaload, 1) := by decide +kernel
theorem dX5_between_89 : decode cX5_between 89 = .ok (.iload 6, 2) := by decide +kernel
theorem dX5_between_91 : decode cX5_between 91 = .ok (.iaload, 1) := by decide +kernel
theorem dX5_between_92 : decode cX5_between 92 = .ok (.ireturn, 1) := by decide +kernel
set_option maxRecDepth 20000 in
theorem ggX5_leastOf_X7_partIn : GoodIn wsX5_leastOf wsX7_partIn := goodIn_r _ [9] (by decide +kernel) (by decide +kernel)
set_option maxRecDepth 20000 in
theorem gX5_leastOf_X7_partIn : GoodIn wsX5_leastOf (va_wsS RX5 26 yX7_partIn wsX7_partIn) := goodIn_app (goodIn_of _ (by decide +kernel)) ggX5_leastOf_X7_partIn
theorem dX5_leastOf_0 : decode cX5_leastOf 0 = .ok (.lload_n 1, 1) := by decide +kernel
theorem dX5_leastOf_1 : decode cX5_leastOf 1 = .ok (.iload_n 3, 1) := by decide +kernel
theorem dX5_leastOf_2 : decode cX5_leastOf 2 = .ok (.iconst 1, 1) := by decide +kernel
theorem dX5_leastOf_3 : decode cX5_leastOf 3 = .ok (.isub, 1) := by decide +kernel
theorem dX5_leastOf_4 : decode cX5_leastOf 4 = .ok (.invokestatic 26, 3) := by decide +kernel
theorem dX5_leastOf_7 : decode cX5_leastOf 7 = .ok (.istore 7, 2) := by decide +kernel
theorem dX5_leastOf_9 : decode cX5_leastOf 9 = .ok (.lload 4, 2) := by decide +kernel
theorem dX5_leastOf_11 : decode cX5_leastOf 11 = .ok (.iload 6, 2) := by decide +kernel
theorem dX5_leastOf_13 : decode cX5_leastOf 13 = .ok (.iconst 1, 1) := by decide +kernel
theorem dX5_leastOf_14 : decode cX5_leastOf 14 = .ok (.isub, 1) := by decide +kernel
theorem dX5_leastOf_15 : decode cX5_leastOf 15 = .ok (.invokestatic 26, 3) := by decide +kernel
theorem dX5_leastOf_18 : decode cX5_leastOf 18 = .ok (.istore 8, 2) := by decide +kernel
theorem dX5_leastOf_20 : decode cX5_leastOf 20 = .ok (.aload_n 0, 1) := by decide +kernel
theorem dX5_leastOf_21 : decode cX5_leastOf 21 = .ok (.getfield 11, 3) := by decide +kernel
theorem dX5_leastOf_24 : decode cX5_leastOf 24 = .ok (.iload_n 3, 1) := by decide +kernel
theorem dX5_leastOf_25 : decode cX5_leastOf 25 = .ok (.iconst 1, 1) := by decide +kernel
theorem dX5_leastOf_26 : decode cX5_leastOf 26 = .ok (.isub, 1) := by decide +kernel
theorem dX5_leastOf_27 : decode cX5_leastOf 27 = .ok (.aaload, 1) := by decide +kernel
theorem dX5_leastOf_28 : decode cX5_leastOf 28 = .ok (.iload 6, 2) := by decide +kernel
theorem dX5_leastOf_30 : decode cX5_leastOf 30 = .ok (.iaload, 1) := by decide +kernel
theorem dX5_leastOf_31 : decode cX5_leastOf 31 = .ok (.aload_n 0, 1) := by decide +kernel
theorem dX5_leastOf_32 : decode cX5_leastOf 32 = .ok (.getfield 11, 3) := by decide +kernel
theorem dX5_leastOf_35 : decode cX5_leastOf 35 = .ok (.iload_n 3, 1) := by decide +kernel
theorem dX5_leastOf_36 : decode cX5_leastOf 36 = .ok (.aaload, 1) := by decide +kernel
theorem dX5_leastOf_37 : decode cX5_leastOf 37 = .ok (.iload 6, 2) := by decide +kernel
theorem dX5_leastOf_39 : decode cX5_leastOf 39 = .ok (.iconst 1, 1) := by decide +kernel
theorem dX5_leastOf_40 : decode cX5_leastOf 40 = .ok (.isub, 1) := by decide +kernel
theorem dX5_leastOf_41 : decode cX5_leastOf 41 = .ok (.iaload, 1) := by decide +kernel
theorem dX5_leastOf_42 : decode cX5_leastOf 42 = .ok (.invokestatic 30, 3) := by decide +kernel
theorem dX5_leastOf_45 : decode cX5_leastOf 45 = .ok (.iconst 1, 1) := by decide +kernel
theorem dX5_leastOf_46 : decode cX5_leastOf 46 = .ok (.iadd, 1) := by decide +kernel
theorem dX5_leastOf_47 : decode cX5_leastOf 47 = .ok (.istore 9, 2) := by decide +kernel
theorem dX5_leastOf_49 : decode cX5_leastOf 49 = .ok (.iload 9, 2) := by decide +kernel
theorem dX5_leastOf_51 : decode cX5_leastOf 51 = .ok (.aload_n 0, 1) := by decide +kernel
theorem dX5_leastOf_52 : decode cX5_leastOf 52 = .ok (.getfield 11, 3) := by decide +kernel
theorem dX5_leastOf_55 : decode cX5_leastOf 55 = .ok (.iload_n 3, 1) := by decide +kernel
theorem dX5_leastOf_56 : decode cX5_leastOf 56 = .ok (.iconst 1, 1) := by decide +kernel
theorem dX5_leastOf_57 : decode cX5_leastOf 57 = .ok (.isub, 1) := by decide +kernel
theorem dX5_leastOf_58 : decode cX5_leastOf 58 = .ok (.aaload, 1) := by decide +kernel
theorem dX5_leastOf_59 : decode cX5_leastOf 59 = .ok (.iload 6, 2) := by decide +kernel
theorem dX5_leastOf_61 : decode cX5_leastOf 61 = .ok (.iconst 1, 1) := by decide +kernel
theorem dX5_leastOf_62 : decode cX5_leastOf 62 = .ok (.isub, 1) := by decide +kernel
theorem dX5_leastOf_63 : decode cX5_leastOf 63 = .ok (.iaload, 1) := by decide +kernel
theorem dX5_leastOf_64 : decode cX5_leastOf 64 = .ok (.iload 7, 2) := by decide +kernel
theorem dX5_leastOf_66 : decode cX5_leastOf 66 = .ok (.iload 8, 2) := by decide +kernel
theorem dX5_leastOf_68 : decode cX5_leastOf 68 = .ok (.if_icmp .ne 7, 3) := by decide +kernel
theorem dX5_leastOf_71 : decode cX5_leastOf 71 = .ok (.iconst 0, 1) := by decide +kernel
theorem dX5_leastOf_72 : decode cX5_leastOf 72 = .ok (.goto 4, 3) := by decide +kernel
theorem dX5_leastOf_75 : decode cX5_leastOf 75 = .ok (.iconst 1, 1) := by decide +kernel
theorem dX5_leastOf_76 : decode cX5_leastOf 76 = .ok (.iadd, 1) := by decide +kernel
theorem dX5_leastOf_77 : decode cX5_leastOf 77 = .ok (.invokestatic 30, 3) := by decide +kernel
theorem dX5_leastOf_80 : decode cX5_leastOf 80 = .ok (.istore 9, 2) := by decide +kernel
theorem dX5_leastOf_82 : decode cX5_leastOf 82 = .ok (.iload_n 3, 1) := by decide +kernel
theorem dX5_leastOf_83 : decode cX5_leastOf 83 = .ok (.iconst 2, 1) := by decide +kernel
theorem dX5_leastOf_84 : decode cX5_leastOf 84 = .ok (.if_icmp .lt 9, 3) := by decide +kernel
theorem dX5_leastOf_87 : decode cX5_leastOf 87 = .ok (.iload 6, 2) := by decide +kernel
theorem dX5_leastOf_89 : decode cX5_leastOf 89 = .ok (.iconst 2, 1) := by decide +kernel
theorem dX5_leastOf_90 : decode cX5_leastOf 90 = .ok (.if_icmp .ge 6, 3) := by decide +kernel
theorem dX5_leastOf_93 : decode cX5_leastOf 93 = .ok (.iload 9, 2) := by decide +kernel
theorem dX5_leastOf_95 : decode cX5_leastOf 95 = .ok (.ireturn, 1) := by decide +kernel
theorem dX5_leastOf_96 : decode cX5_leastOf 96 = .ok (.iload 7, 2) := by decide +kernel
theorem dX5_leastOf_98 : decode cX5_leastOf 98 = .ok (.lload 4, 2) := by decide +kernel
theorem dX5_leastOf_100 : decode cX5_leastOf 100 = .ok (.iload 6, 2) := by decide +kernel
theorem dX5_leastOf_102 : decode cX5_leastOf 102 = .ok (.iconst 2, 1) := by decide +kernel
theorem dX5_leastOf_103 : decode cX5_leastOf 103 = .ok (.isub, 1) := by decide +kernel
theorem dX5_leastOf_104 : decode cX5_leastOf 104 = .ok (.invokestatic 26, 3) := by decide +kernel
theorem dX5_leastOf_107 : decode cX5_leastOf 107 = .ok (.if_icmp .ne 19, 3) := by decide +kernel
theorem dX5_leastOf_110 : decode cX5_leastOf 110 = .ok (.iload 8, 2) := by decide +kernel
theorem dX5_leastOf_112 : decode cX5_leastOf 112 = .ok (.lload_n 1, 1) := by decide +kernel
theorem dX5_leastOf_113 : decode cX5_leastOf 113 = .ok (.iload_n 3, 1) := by decide +kernel
theorem dX5_leastOf_114 : decode cX5_leastOf 114 = .ok (.iconst 2, 1) := by decide +kernel
theorem dX5_leastOf_115 : decode cX5_leastOf 115 = .ok (.isub, 1) := by decide +kernel
theorem dX5_leastOf_116 : decode cX5_leastOf 116 = .ok (.invokestatic 26, 3) := by decide +kernel
theorem dX5_leastOf_119 : decode cX5_leastOf 119 = .ok (.if_icmp .ne 7, 3) := by decide +kernel
theorem dX5_leastOf_122 : decode cX5_leastOf 122 = .ok (.iconst 1, 1) := by decide +kernel
theorem dX5_leastOf_123 : decode cX5_leastOf 123 = .ok (.goto 4, 3) := by decide +kernel
theorem dX5_leastOf_126 : decode cX5_leastOf 126 = .ok (.iconst 0, 1) := by decide +kernel
theorem dX5_leastOf_127 : decode cX5_leastOf 127 = .ok (.istore 10, 2) := by decide +kernel
theorem dX5_leastOf_129 : decode cX5_leastOf 129 = .ok (.iload 10, 2) := by decide +kernel
theorem dX5_leastOf_131 : decode cX5_leastOf 131 = .ok (.ifCond .eq 26, 3) := by decide +kernel
theorem dX5_leastOf_134 : decode cX5_leastOf 134 = .ok (.iload 9, 2) := by decide +kernel
theorem dX5_leastOf_136 : decode cX5_leastOf 136 = .ok (.aload_n 0, 1) := by decide +kernel
theorem dX5_leastOf_137 : decode cX5_leastOf 137 = .ok (.getfield 11, 3) := by decide +kernel
theorem dX5_leastOf_140 : decode cX5_leastOf 140 = .ok (.iload_n 3, 1) := by decide +kernel
theorem dX5_leastOf_141 : decode cX5_leastOf 141 = .ok (.iconst 2, 1) := by decide +kernel
theorem dX5_leastOf_142 : decode cX5_leastOf 142 = .ok (.isub, 1) := by decide +kernel
theorem dX5_leastOf_143 : decode cX5_leastOf 143 = .ok (.aaload, 1) := by decide +kernel
theorem dX5_leastOf_144 : decode cX5_leastOf 144 = .ok (.iload 6, 2) := by decide +kernel
theorem dX5_leastOf_146 : decode cX5_leastOf 146 = .ok (.iconst 2, 1) := by decide +kernel
theorem dX5_leastOf_147 : decode cX5_leastOf 147 = .ok (.isub, 1) := by decide +kernel
theorem dX5_leastOf_148 : decode cX5_leastOf 148 = .ok (.iaload, 1) := by decide +kernel
theorem dX5_leastOf_149 : decode cX5_leastOf 149 = .ok (.iconst 1, 1) := by decide +kernel
theorem dX5_leastOf_150 : decode cX5_leastOf 150 = .ok (.iadd, 1) := by decide +kernel
theorem dX5_leastOf_151 : decode cX5_leastOf 151 = .ok (.invokestatic 30, 3) := by decide +kernel
theorem dX5_leastOf_154 : decode cX5_leastOf 154 = .ok (.goto 5, 3) := by decide +kernel
theorem dX5_leastOf_157 : decode cX5_leastOf 157 = .ok (.iload 9, 2) := by decide +kernel
theorem dX5_leastOf_159 : decode cX5_leastOf 159 = .ok (.ireturn, 1) := by decide +kernel
theorem dX6_init_0 : decode cX6_init 0 = .ok (.aload_n 0, 1) := by decide +kernel
theorem dX6_init_1 : decode cX6_init 1 = .ok (.invokespecial 3, 3) := by decide +kernel
theorem dX6_init_4 : decode cX6_init 4 = .ok (.aload_n 0, 1) := by decide +kernel
theorem dX6_init_5 : decode cX6_init 5 = .ok (.sipush 150, 3) := by decide +kernel
theorem dX6_init_8 : decode cX6_init 8 = .ok (.newarray .byte, 2) := by decide +kernel
theorem dX6_init_10 : decode cX6_init 10 = .ok (.putfield 11, 3) := by decide +kernel
theorem dX6_init_13 : decode cX6_init 13 = .ok (.return_, 1) := by decide +kernel
set_option maxRecDepth 20000 in
theorem ggX6_write_X8_isUpTo : GoodIn wsX6_write wsX8_isUpTo := goodIn_r _ [5] (by decide +kernel) (by decide +kernel)
set_option maxRecDepth 20000 in
theorem gX6_write_X8_isUpTo_n19 : GoodIn wsX6_write (wsX8_isUpTo) := ggX6_write_X8_isUpTo
theorem dX6_write_0 : decode cX6_write 0 = .ok (.aload_n 0, 1) := by decide +kernel
theorem dX6_write_1 : decode cX6_write 1 = .ok (.getfield 15, 3) := by decide +kernel
theorem dX6_write_4 : decode cX6_write 4 = .ok (.sipush 149, 3) := by decide +kernel
theorem dX6_write_7 : decode cX6_write 7 = .ok (.invokestatic 19, 3) := by decide +kernel
theorem dX6_write_10 : decode cX6_write 10 = .ok (.ifCond .eq 24, 3) := by decide +kernel
theorem dX6_write_13 : decode cX6_write 13 = .ok (.aload_n 0, 1) := by decide +kernel
theorem dX6_write_14 : decode cX6_write 14 = .ok (.getfield 11, 3) := by decide +kernel
theorem dX6_write_17 : decode cX6_write 17 = .ok (.aload_n 0, 1) := by decide +kernel
theorem dX6_write_18 : decode cX6_write 18 = .ok (.getfield 15, 3) := by decide +kernel
theorem dX6_write_21 : decode cX6_write 21 = .ok (.iload_n 1, 1) := by decide +kernel
theorem dX6_write_22 : decode cX6_write 22 = .ok (.i2b, 1) := by decide +kernel
theorem dX6_write_23 : decode cX6_write 23 = .ok (.bastore, 1) := by decide +kernel
theorem dX6_write_24 : decode cX6_write 24 = .ok (.aload_n 0, 1) := by decide +kernel
theorem dX6_write_25 : decode cX6_write 25 = .ok (.dup, 1) := by decide +kernel
theorem dX6_write_26 : decode cX6_write 26 = .ok (.getfield 15, 3) := by decide +kernel
theorem dX6_write_29 : decode cX6_write 29 = .ok (.iconst 1, 1) := by decide +kernel
theorem dX6_write_30 : decode cX6_write 30 = .ok (.iadd, 1) := by decide +kernel
theorem dX6_write_31 : decode cX6_write 31 = .ok (.putfield 15, 3) := by decide +kernel
theorem dX6_write_34 : decode cX6_write 34 = .ok (.return_, 1) := by decide +kernel
set_option maxRecDepth 20000 in
theorem ggX6_readInto_X3_becomeNew : GoodIn wsX6_readInto wsX3_becomeNew := goodIn_r _ [9, 10, 11, 12, 13, 14, 15, 16, 17, 18, 19, 20, 21, 174, 175, 176, 177, 178, 179, 180, 181, 182, 183] (by decide +kernel) (by decide +kernel)
set_option maxRecDepth 20000 in
theorem gX6_readInto_X3_becomeNew : GoodIn wsX6_readInto (wsV RX6 23 RX3 yX3_becomeNew wsX3_becomeNew) := goodIn_app (goodIn_of _ (by decide +kernel)) ggX6_readInto_X3_becomeNew
set_option maxRecDepth 20000 in
theorem ggX6_readInto_X6_look : GoodIn wsX6_readInto wsX6_look := goodIn_r _ [26, 1, 2, 3, 27, 4, 28, 29, 30, 25, 31, 32, 33, 34, 35, 36, 37, 38, 39, 40, 41, 42, 43, 44, 45, 46, 168, 169, 170, 171, 172, 173] (by decide +kernel) (by decide +kernel)
set_option maxRecDepth 20000 in
theorem gX6_readInto_X6_look : GoodIn wsX6_readInto (wsV RX6 31 RX6 yX6_look wsX6_look) := goodIn_app (goodIn_of _ (by decide +kernel)) ggX6_readInto_X6_look
set_option maxRecDepth 20000 in
theorem ggX6_readInto_X6_isWord : GoodIn wsX6_readInto wsX6_isWord := goodIn_r _ [50, 4, 1, 2, 51, 52, 53, 54, 55, 56, 57, 58, 59, 60, 61, 62, 28, 29, 30, 25, 31, 3, 32, 63, 64, 65, 66, 67, 68, 69, 70, 71, 72, 73, 74, 75, 76, 77, 78, 79, 80, 81, 82, 83, 84, 85, 86, 87, 88, 89, 90, 91, 92, 93, 94, 95, 96, 97, 98, 99, 168, 169, 170, 171, 172, 173] (by decide +kernel) (by decide +kernel)
set_option maxRecDepth 20000 in
theorem gX6_readInto_X6_isWord : GoodIn wsX6_readInto (wsV RX6 36 RX6 yX6_isWord wsX6_isWord) := goodIn_app (goodIn_of _ (by decide +kernel)) ggX6_readInto_X6_isWord
set_option maxRecDepth 20000 in
theorem ggX6_readInto_X6_isEnded : GoodIn wsX6_readInto wsX6_isEnded := goodIn_r _ [103, 4, 22, 23, 24, 25, 26, 1, 2, 3, 27, 28, 29, 30, 31, 32, 33, 34, 35, 36, 37, 38, 39, 40, 41, 42, 43, 44, 45, 46, 168, 169, 170, 171, 172, 173] (by decide +kernel) (by decide +kernel)
set_option maxRecDepth 20000 in
theorem gX6_readInto_X6_isEnded : GoodIn wsX6_readInto (wsV RX6 40 RX6 yX6_isEnded wsX6_isEnded) := goodIn_app (goodIn_of _ (by decide +kernel)) ggX6_readInto_X6_isEnded
set_option maxRecDepth 20000 in
theorem ggX6_readInto_X6_readTale : GoodIn wsX6_readInto wsX6_readTale := goodIn_r _ [107, 27, 4, 108, 109, 110, 25, 111, 22, 23, 24, 26, 1, 2, 3, 28, 29, 30, 31, 32, 33, 34, 35, 36, 37, 38, 39, 40, 41, 42, 43, 44, 45, 46, 112, 113, 114, 8, 115, 10, 11, 116, 117, 118, 119, 120, 121, 122, 123, 124, 125, 126, 127, 128, 129, 130, 131, 168, 169, 170, 171, 172, 173, 174, 175, 176, 177, 178, 179, 180, 181, 182, 183] (by decide +kernel) (by decide +kernel)
set_option maxRecDepth 20000 in
theorem gX6_readInto_X6_readTale : GoodIn wsX6_readInto (wsV RX6 52 RX6 yX6_readTale wsX6_readTale) := goodIn_app (goodIn_of _ (by decide +kernel)) ggX6_readInto_X6_readTale
set_option maxRecDepth 20000 in
theorem ggX6_readInto_X6_readHand : GoodIn wsX6_readInto wsX6_readHand := goodIn_r _ [135, 27, 108, 109, 110, 25, 111, 4, 22, 23, 24, 26, 1, 2, 3, 28, 29, 30, 31, 32, 33, 34, 35, 36, 37, 38, 39, 40, 41, 42, 43, 44, 45, 46, 136, 137, 138, 8, 139, 10, 116, 117, 118, 119, 120, 121, 140, 141, 126, 142, 143, 144, 145, 128, 129, 130, 131, 146, 147, 148, 149, 125, 127, 150, 151, 152, 153, 154, 155, 156, 157, 158, 159, 160, 161, 162, 163, 164, 165, 166, 167, 112, 113, 114, 115, 11, 100, 101, 102, 103, 168, 169, 170, 171, 172, 173, 174, 175, 176, 177, 178, 179, 180, 181, 182, 183] (by decide +kernel) (by decide +kernel)
set_option maxRecDepth 20000 in
theorem gX6_readInto_X6_readHand : GoodIn wsX6_readInto (wsV RX6 58 RX6 yX6_readHand wsX6_readHand) := goodIn_app (goodIn_of _ (by decide +kernel)) ggX6_readInto_X6_readHand
theorem dX6_readInto_0 : decode cX6_readInto 0 = .ok (.aload_n 1, 1) := by decide +kernel
theorem dX6_readInto_1 : decode cX6_readInto 1 = .ok (.invokevirtual 23, 3) := by decide +kernel
theorem dX6_readInto_4 : decode cX6_readInto 4 = .ok (.aload_n 0, 1) := by decide +kernel
theorem dX6_readInto_5 : decode cX6_readInto 5 = .ok (.iconst 0, 1) := by decide +kernel
theorem dX6_readInto_6 : decode cX6_readInto 6 = .ok (.putfield 28, 3) := by decide +kernel
theorem dX6_readInto_9 : decode cX6_readInto 9 = .ok (.aload_n 0, 1) := by decide +kernel
theorem dX6_readInto_10 : decode cX6_readInto 10 = .ok (.invokevirtual 31, 3) := by decide +kernel
theorem dX6_readInto_13 : decode cX6_readInto 13 = .ok (.aload_n 0, 1) := by decide +kernel
theorem dX6_readInto_14 : decode cX6_readInto 14 = .ok (.ldc 34, 2) := by decide +kernel
theorem dX6_readInto_16 : decode cX6_readInto 16 = .ok (.invokevirtual 36, 3) := by decide +kernel
theorem dX6_readInto_19 : decode cX6_readInto 19 = .ok (.ifCond .eq 10, 3) := by decide +kernel
theorem dX6_readInto_22 : decode cX6_readInto 22 = .ok (.aload_n 0, 1) := by decide +kernel
theorem dX6_readInto_23 : decode cX6_readInto 23 = .ok (.invokevirtual 40, 3) := by decide +kernel
theorem dX6_readInto_26 : decode cX6_readInto 26 = .ok (.ifCond .ne 11, 3) := by decide +kernel
theorem dX6_readInto_29 : decode cX6_readInto 29 = .ok (.bipush (-10), 2) := by decide +kernel
theorem dX6_readInto_31 : decode cX6_readInto 31 = .ok (.aload_n 0, 1) := by decide +kernel
theorem dX6_readInto_32 : decode cX6_readInto 32 = .ok (.getfield 44, 3) := by decide +kernel
theorem dX6_readInto_35 : decode cX6_readInto 35 = .ok (.isub, 1) := by decide +kernel
theorem dX6_readInto_36 : decode cX6_readInto 36 = .ok (.ireturn, 1) := by decide +kernel
theorem dX6_readInto_37 : decode cX6_readInto 37 = .ok (.iconst 1, 1) := by decide +kernel
theorem dX6_readInto_38 : decode cX6_readInto 38 = .ok (.istore_n 2, 1) := by decide +kernel
theorem dX6_readInto_39 : decode cX6_readInto 39 = .ok (.iload_n 2, 1) := by decide +kernel
theorem dX6_readInto_40 : decode cX6_readInto 40 = .ok (.aload_n 0, 1) := by decide +kernel
theorem dX6_readInto_41 : decode cX6_readInto 41 = .ok (.getfield 15, 3) := by decide +kernel
theorem dX6_readInto_44 : decode cX6_readInto 44 = .ok (.if_icmp .gt 74, 3) := by decide +kernel
theorem dX6_readInto_47 : decode cX6_readInto 47 = .ok (.aload_n 0, 1) := by decide +kernel
theorem dX6_readInto_48 : decode cX6_readInto 48 = .ok (.invokevirtual 31, 3) := by decide +kernel
theorem dX6_readInto_51 : decode cX6_readInto 51 = .ok (.aload_n 0, 1) := by decide +kernel
theorem dX6_readInto_52 : decode cX6_readInto 52 = .ok (.getfield 47, 3) := by decide +kernel
theorem dX6_readInto_55 : decode cX6_readInto 55 = .ok (.ifCond .ne 5, 3) := by decide +kernel
theorem dX6_readInto_58 : decode cX6_readInto 58 = .ok (.iload_n 2, 1) := by decide +kernel
theorem dX6_readInto_59 : decode cX6_readInto 59 = .ok (.ireturn, 1) := by decide +kernel
theorem dX6_readInto_60 : decode cX6_readInto 60 = .ok (.aload_n 0, 1) := by decide +kernel
theorem dX6_readInto_61 : decode cX6_readInto 61 = .ok (.ldc 50, 2) := by decide +kernel
theorem dX6_readInto_63 : decode cX6_readInto 63 = .ok (.invokevirtual 36, 3) := by decide +kernel
theorem dX6_readInto_66 : decode cX6_readInto 66 = .ok (.ifCond .eq 11, 3) := by decide +kernel
theorem dX6_readInto_69 : decode cX6_readInto 69 = .ok (.aload_n 0, 1) := by decide +kernel
theorem dX6_readInto_70 : decode cX6_readInto 70 = .ok (.aload_n 1, 1) := by decide +kernel
theorem dX6_readInto_71 : decode cX6_readInto 71 = .ok (.invokevirtual 52, 3) := by decide +kernel
theorem dX6_readInto_74 : decode cX6_readInto 74 = .ok (.goto 25, 3) := by decide +kernel
theorem dX6_readInto_77 : decode cX6_readInto 77 = .ok (.aload_n 0, 1) := by decide +kernel
theorem dX6_readInto_78 : decode cX6_readInto 78 = .ok (.ldc 56, 2) := by decide +kernel
theorem dX6_readInto_80 : decode cX6_readInto 80 = .ok (.invokevirtual 36, 3) := by decide +kernel
theorem dX6_readInto_83 : decode cX6_readInto 83 = .ok (.ifCond .eq 15, 3) := by decide +kernel
theorem dX6_readInto_86 : decode cX6_readInto 86 = .ok (.aload_n 0, 1) := by decide +kernel
theorem dX6_readInto_87 : decode cX6_readInto 87 = .ok (.aload_n 1, 1) := by decide +kernel
theorem dX6_readInto_88 : decode cX6_readInto 88 = .ok (.invokevirtual 58, 3) := by decide +kernel
theorem dX6_readInto_91 : decode cX6_readInto 91 = .ok (.ifCond .eq 7, 3) := by decide +kernel
theorem dX6_readInto_94 : decode cX6_readInto 94 = .ok (.iconst 1, 1) := by decide +kernel
theorem dX6_readInto_95 : decode cX6_readInto 95 = .ok (.goto 4, 3) := by decide +kernel
theorem dX6_readInto_98 : decode cX6_readInto 98 = .ok (.iconst 0, 1) := by decide +kernel
theorem dX6_readInto_99 : decode cX6_readInto 99 = .ok (.istore_n 3, 1) := by decide +kernel
theorem dX6_readInto_100 : decode cX6_readInto 100 = .ok (.iload_n 3, 1) := by decide +kernel
theorem dX6_readInto_101 : decode cX6_readInto 101 = .ok (.ifCond .ne 11, 3) := by decide +kernel
theorem dX6_readInto_104 : decode cX6_readInto 104 = .ok (.bipush (-10), 2) := by decide +kernel
theorem dX6_readInto_106 : decode cX6_readInto 106 = .ok (.aload_n 0, 1) := by decide +kernel
theorem dX6_readInto_107 : decode cX6_readInto 107 = .ok (.getfield 44, 3) := by decide +kernel
theorem dX6_readInto_110 : decode cX6_readInto 110 = .ok (.isub, 1) := by decide +kernel
theorem dX6_readInto_111 : decode cX6_readInto 111 = .ok (.ireturn, 1) := by decide +kernel
theorem dX6_readInto_112 : decode cX6_readInto 112 = .ok (.iinc 2 1, 3) := by decide +kernel
theorem dX6_readInto_115 : decode cX6_readInto 115 = .ok (.goto (-76), 3) := by decide +kernel
theorem dX6_readInto_118 : decode cX6_readInto 118 = .ok (.bipush (-10), 2) := by decide +kernel
theorem dX6_readInto_120 : decode cX6_readInto 120 = .ok (.aload_n 0, 1) := by decide +kernel
theorem dX6_readInto_121 : decode cX6_readInto 121 = .ok (.getfield 15, 3) := by decide +kernel
theorem dX6_readInto_124 : decode cX6_readInto 124 = .ok (.isub, 1) := by decide +kernel
theorem dX6_readInto_125 : decode cX6_readInto 125 = .ok (.ireturn, 1) := by decide +kernel
set_option maxRecDepth 20000 in
theorem ggX6_readTale_X6_isNumber : GoodIn wsX6_readTale wsX6_isNumber := goodIn_r _ [7, 2, 1, 8, 9, 10, 6, 11, 12, 13, 14, 15, 16, 17, 18, 19, 20, 21, 22, 23, 24, 25, 26, 27, 28, 29, 30, 31, 32, 33, 57, 58, 59, 60, 61, 62] (by decide +kernel) (by decide +kernel)
set_option maxRecDepth 20000 in
theorem gX6_readTale_X6_isNumber : GoodIn wsX6_readTale (wsV RX6 61 RX6 yX6_isNumber wsX6_isNumber) := goodIn_app (goodIn_of _ (by decide +kernel)) ggX6_readTale_X6_isNumber
set_option maxRecDepth 20000 in
theorem ggX6_readTale_X6_look : GoodIn wsX6_readTale wsX6_look := goodIn_r _ [11, 12, 13, 14, 1, 2, 15, 16, 17, 6, 18, 19, 20, 21, 22, 23, 24, 25, 26, 27, 28, 29, 30, 31, 32, 33, 57, 58, 59, 60, 61, 62] (by decide +kernel) (by decide +kernel)
set_option maxRecDepth 20000 in
theorem gX6_readTale_X6_look : GoodIn wsX6_readTale (wsV RX6 31 RX6 yX6_look wsX6_look) := goodIn_app (goodIn_of _ (by decide +kernel)) ggX6_readTale_X6_look
set_option maxRecDepth 20000 in
theorem ggX6_readTale_X3_put : GoodIn wsX6_readTale wsX3_put := goodIn_r _ [38, 39, 40, 41, 42, 43, 44, 45, 46, 63, 64, 65, 66, 67, 68, 69, 70, 71, 72] (by decide +kernel) (by decide +kernel)
set_option maxRecDepth 20000 in
theorem gX6_readTale_X3_put : GoodIn wsX6_readTale (wsV RX6 70 RX3 yX3_put wsX3_put) := goodIn_app (goodIn_of _ (by decide +kernel)) ggX6_readTale_X3_put
set_option maxRecDepth 20000 in
theorem ggX6_readTale_X8_isPart : GoodIn wsX6_readTale wsX8_isPart := goodIn_r _ [48, 44, 45, 42, 46] (by decide +kernel) (by decide +kernel)
set_option maxRecDepth 20000 in
theorem gX6_readTale_X8_isPart_n74 : GoodIn wsX6_readTale (wsX8_isPart) := ggX6_readTale_X8_isPart
set_option maxRecDepth 20000 in
theorem ggX6_readTale_X7_added : GoodIn wsX6_readTale wsX7_added := goodIn_r _ [52, 53, 54, 51, 55, 56] (by decide +kernel) (by decide +kernel)
set_option maxRecDepth 20000 in
theorem gX6_readTale_X7_added : GoodIn wsX6_readTale (va_wsS RX6 77 yX7_added wsX7_added) := goodIn_app (goodIn_of _ (by decide +kernel)) ggX6_readTale_X7_added
theorem dX6_readTale_0 : decode cX6_readTale 0 = .ok (.aload_n 0, 1) := by decide +kernel
theorem dX6_readTale_1 : decode cX6_readTale 1 = .ok (.bipush 7, 2) := by decide +kernel
theorem dX6_readTale_3 : decode cX6_readTale 3 = .ok (.invokevirtual 61, 3) := by decide +kernel
theorem dX6_readTale_6 : decode cX6_readTale 6 = .ok (.ifCond .ne 5, 3) := by decide +kernel
theorem dX6_readTale_9 : decode cX6_readTale 9 = .ok (.iconst 0, 1) := by decide +kernel
theorem dX6_readTale_10 : decode cX6_readTale 10 = .ok (.ireturn, 1) := by decide +kernel
theorem dX6_readTale_11 : decode cX6_readTale 11 = .ok (.aload_n 0, 1) := by decide +kernel
theorem dX6_readTale_12 : decode cX6_readTale 12 = .ok (.getfield 65, 3) := by decide +kernel
theorem dX6_readTale_15 : decode cX6_readTale 15 = .ok (.istore_n 2, 1) := by decide +kernel
theorem dX6_readTale_16 : decode cX6_readTale 16 = .ok (.lconst 0, 1) := by decide +kernel
theorem dX6_readTale_17 : decode cX6_readTale 17 = .ok (.lstore_n 3, 1) := by decide +kernel
theorem dX6_readTale_18 : decode cX6_readTale 18 = .ok (.iconst 0, 1) := by decide +kernel
theorem dX6_readTale_19 : decode cX6_readTale 19 = .ok (.istore 5, 2) := by decide +kernel
theorem dX6_readTale_21 : decode cX6_readTale 21 = .ok (.iload 5, 2) := by decide +kernel
theorem dX6_readTale_23 : decode cX6_readTale 23 = .ok (.bipush 10, 2) := by decide +kernel
theorem dX6_readTale_25 : decode cX6_readTale 25 = .ok (.if_icmp .gt 66, 3) := by decide +kernel
theorem dX6_readTale_28 : decode cX6_readTale 28 = .ok (.aload_n 0, 1) := by decide +kernel
theorem dX6_readTale_29 : decode cX6_readTale 29 = .ok (.invokevirtual 31, 3) := by decide +kernel
theorem dX6_readTale_32 : decode cX6_readTale 32 = .ok (.aload_n 0, 1) := by decide +kernel
theorem dX6_readTale_33 : decode cX6_readTale 33 = .ok (.getfield 47, 3) := by decide +kernel
theorem dX6_readTale_36 : decode cX6_readTale 36 = .ok (.iconst 3, 1) := by decide +kernel
theorem dX6_readTale_37 : decode cX6_readTale 37 = .ok (.if_icmp .ne 12, 3) := by decide +kernel
theorem dX6_readTale_40 : decode cX6_readTale 40 = .ok (.aload_n 1, 1) := by decide +kernel
theorem dX6_readTale_41 : decode cX6_readTale 41 = .ok (.iload_n 2, 1) := by decide +kernel
theorem dX6_readTale_42 : decode cX6_readTale 42 = .ok (.lload_n 3, 1) := by decide +kernel
theorem dX6_readTale_43 : decode cX6_readTale 43 = .ok (.iconst (-1), 1) := by decide +kernel
theorem dX6_readTale_44 : decode cX6_readTale 44 = .ok (.invokevirtual 70, 3) := by decide +kernel
theorem dX6_readTale_47 : decode cX6_readTale 47 = .ok (.iconst 1, 1) := by decide +kernel
theorem dX6_readTale_48 : decode cX6_readTale 48 = .ok (.ireturn, 1) := by decide +kernel
theorem dX6_readTale_49 : decode cX6_readTale 49 = .ok (.aload_n 0, 1) := by decide +kernel
theorem dX6_readTale_50 : decode cX6_readTale 50 = .ok (.getfield 47, 3) := by decide +kernel
theorem dX6_readTale_53 : decode cX6_readTale 53 = .ok (.iconst 2, 1) := by decide +kernel
theorem dX6_readTale_54 : decode cX6_readTale 54 = .ok (.if_icmp .ne 20, 3) := by decide +kernel
theorem dX6_readTale_57 : decode cX6_readTale 57 = .ok (.aload_n 0, 1) := by decide +kernel
theorem dX6_readTale_58 : decode cX6_readTale 58 = .ok (.getfield 65, 3) := by decide +kernel
theorem dX6_readTale_61 : decode cX6_readTale 61 = .ok (.invokestatic 74, 3) := by decide +kernel
theorem dX6_readTale_64 : decode cX6_readTale 64 = .ok (.ifCond .eq 10, 3) := by decide +kernel
theorem dX6_readTale_67 : decode cX6_readTale 67 = .ok (.iload 5, 2) := by decide +kernel
theorem dX6_readTale_69 : decode cX6_readTale 69 = .ok (.bipush 10, 2) := by decide +kernel
theorem dX6_readTale_71 : decode cX6_readTale 71 = .ok (.if_icmp .ne 5, 3) := by decide +kernel
theorem dX6_readTale_74 : decode cX6_readTale 74 = .ok (.iconst 0, 1) := by decide +kernel
theorem dX6_readTale_75 : decode cX6_readTale 75 = .ok (.ireturn, 1) := by decide +kernel
theorem dX6_readTale_76 : decode cX6_readTale 76 = .ok (.lload_n 3, 1) := by decide +kernel
theorem dX6_readTale_77 : decode cX6_readTale 77 = .ok (.aload_n 0, 1) := by decide +kernel
theorem dX6_readTale_78 : decode cX6_readTale 78 = .ok (.getfield 65, 3) := by decide +kernel
theorem dX6_readTale_81 : decode cX6_readTale 81 = .ok (.invokestatic 77, 3) := by decide +kernel
theorem dX6_readTale_84 : decode cX6_readTale 84 = .ok (.lstore_n 3, 1) := by decide +kernel
theorem dX6_readTale_85 : decode cX6_readTale 85 = .ok (.iinc 5 1, 3) := by decide +kernel
theorem dX6_readTale_88 : decode cX6_readTale 88 = .ok (.goto (-67), 3) := by decide +kernel
theorem dX6_readTale_91 : decode cX6_readTale 91 = .ok (.iconst 0, 1) := by decide +kernel
theorem dX6_readTale_92 : decode cX6_readTale 92 = .ok (.ireturn, 1) := by decide +kernel
set_option maxRecDepth 20000 in
theorem ggX6_readHand_X6_isNumber : GoodIn wsX6_readHand wsX6_isNumber := goodIn_r _ [6, 7, 1, 8, 9, 10, 5, 11, 12, 13, 14, 15, 16, 17, 18, 19, 20, 21, 22, 23, 24, 25, 26, 27, 28, 29, 30, 31, 32, 33, 90, 91, 92, 93, 94, 95] (by decide +kernel) (by decide +kernel)
set_option maxRecDepth 20000 in
theorem gX6_readHand_X6_isNumber : GoodIn wsX6_readHand (wsV RX6 61 RX6 yX6_isNumber wsX6_isNumber) := goodIn_app (goodIn_of _ (by decide +kernel)) ggX6_readHand_X6_isNumber
set_option maxRecDepth 20000 in
theorem ggX6_readHand_X3_taleOf : GoodIn wsX6_readHand wsX3_taleOf := goodIn_r _ [38, 39, 40, 41, 42, 43, 44, 45, 96, 97, 98, 99, 100, 101, 102, 103, 104, 105] (by decide +kernel) (by decide +kernel)
set_option maxRecDepth 20000 in
theorem gX6_readHand_X3_taleOf : GoodIn wsX6_readHand (wsV RX6 81 RX3 yX3_taleOf wsX3_taleOf) := goodIn_app (goodIn_of _ (by decide +kernel)) ggX6_readHand_X3_taleOf
set_option maxRecDepth 20000 in
theorem ggX6_readHand_X7_slipped : GoodIn wsX6_readHand wsX7_slipped := goodIn_r _ [49, 50, 51, 48, 52, 53, 54, 55, 56, 57, 58, 59, 60, 61, 62, 63, 64, 65, 66, 67, 68, 69, 70, 71, 72, 73, 74, 75, 76, 77, 78, 79, 80] (by decide +kernel) (by decide +kernel)
set_option maxRecDepth 20000 in
theorem gX6_readHand_X7_slipped : GoodIn wsX6_readHand (va_wsS RX6 85 yX7_slipped wsX7_slipped) := goodIn_app (goodIn_of _ (by decide +kernel)) ggX6_readHand_X7_slipped
set_option maxRecDepth 20000 in
theorem ggX6_readHand_X3_put : GoodIn wsX6_readHand wsX3_put := goodIn_r _ [84, 39, 85, 40, 41, 42, 43, 44, 45, 96, 97, 98, 99, 100, 101, 102, 103, 104, 105] (by decide +kernel) (by decide +kernel)
set_option maxRecDepth 20000 in
theorem gX6_readHand_X3_put : GoodIn wsX6_readHand (wsV RX6 70 RX3 yX3_put wsX3_put) := goodIn_app (goodIn_of _ (by decide +kernel)) ggX6_readHand_X3_put
set_option maxRecDepth 20000 in
theorem ggX6_readHand_X6_isEnded : GoodIn wsX6_readHand wsX6_isEnded := goodIn_r _ [89, 7, 8, 9, 10, 5, 11, 12, 13, 14, 1, 15, 16, 17, 18, 19, 20, 21, 22, 23, 24, 25, 26, 27, 28, 29, 30, 31, 32, 33, 90, 91, 92, 93, 94, 95] (by decide +kernel) (by decide +kernel)
set_option maxRecDepth 20000 in
theorem gX6_readHand_X6_isEnded : GoodIn wsX6_readHand (wsV RX6 40 RX6 yX6_isEnded wsX6_isEnded) := goodIn_app (goodIn_of _ (by decide +kernel)) ggX6_readHand_X6_isEnded
theorem dX6_readHand_0 : decode cX6_readHand 0 = .ok (.aload_n 0, 1) := by decide +kernel
theorem dX6_readHand_1 : decode cX6_readHand 1 = .ok (.bipush 7, 2) := by decide +kernel
theorem dX6_readHand_3 : decode cX6_readHand 3 = .ok (.invokevirtual 61, 3) := by decide +kernel
theorem dX6_readHand_6 : decode cX6_readHand 6 = .ok (.ifCond .eq 16, 3) := by decide +kernel
theorem dX6_readHand_9 : decode cX6_readHand 9 = .ok (.aload_n 1, 1) := by decide +kernel
theorem dX6_readHand_10 : decode cX6_readHand 10 = .ok (.aload_n 0, 1) := by decide +kernel
theorem dX6_readHand_11 : decode cX6_readHand 11 = .ok (.getfield 65, 3) := by decide +kernel
theorem dX6_readHand_14 : decode cX6_readHand 14 = .ok (.invokevirtual 81, 3) := by decide +kernel
theorem dX6_readHand_17 : decode cX6_readHand 17 = .ok (.lconst 0, 1) := by decide +kernel
theorem dX6_readHand_18 : decode cX6_readHand 18 = .ok (.lcmp, 1) := by decide +kernel
theorem dX6_readHand_19 : decode cX6_readHand 19 = .ok (.ifCond .ne 5, 3) := by decide +kernel
theorem dX6_readHand_22 : decode cX6_readHand 22 = .ok (.iconst 0, 1) := by decide +kernel
theorem dX6_readHand_23 : decode cX6_readHand 23 = .ok (.ireturn, 1) := by decide +kernel
theorem dX6_readHand_24 : decode cX6_readHand 24 = .ok (.aload_n 0, 1) := by decide +kernel
theorem dX6_readHand_25 : decode cX6_readHand 25 = .ok (.getfield 65, 3) := by decide +kernel
theorem dX6_readHand_28 : decode cX6_readHand 28 = .ok (.istore_n 2, 1) := by decide +kernel
theorem dX6_readHand_29 : decode cX6_readHand 29 = .ok (.aload_n 0, 1) := by decide +kernel
theorem dX6_readHand_30 : decode cX6_readHand 30 = .ok (.bipush 7, 2) := by decide +kernel
theorem dX6_readHand_32 : decode cX6_readHand 32 = .ok (.invokevirtual 61, 3) := by decide +kernel
theorem dX6_readHand_35 : decode cX6_readHand 35 = .ok (.ifCond .eq 11, 3) := by decide +kernel
theorem dX6_readHand_38 : decode cX6_readHand 38 = .ok (.aload_n 0, 1) := by decide +kernel
theorem dX6_readHand_39 : decode cX6_readHand 39 = .ok (.getfield 65, 3) := by decide +kernel
theorem dX6_readHand_42 : decode cX6_readHand 42 = .ok (.iload_n 2, 1) := by decide +kernel
theorem dX6_readHand_43 : decode cX6_readHand 43 = .ok (.if_icmp .gt 5, 3) := by decide +kernel
theorem dX6_readHand_46 : decode cX6_readHand 46 = .ok (.iconst 0, 1) := by decide +kernel
theorem dX6_readHand_47 : decode cX6_readHand 47 = .ok (.ireturn, 1) := by decide +kernel
theorem dX6_readHand_48 : decode cX6_readHand 48 = .ok (.aload_n 0, 1) := by decide +kernel
theorem dX6_readHand_49 : decode cX6_readHand 49 = .ok (.getfield 65, 3) := by decide +kernel
theorem dX6_readHand_52 : decode cX6_readHand 52 = .ok (.istore_n 3, 1) := by decide +kernel
theorem dX6_readHand_53 : decode cX6_readHand 53 = .ok (.aload_n 0, 1) := by decide +kernel
theorem dX6_readHand_54 : decode cX6_readHand 54 = .ok (.iconst 5, 1) := by decide +kernel
theorem dX6_readHand_55 : decode cX6_readHand 55 = .ok (.invokevirtual 61, 3) := by decide +kernel
theorem dX6_readHand_58 : decode cX6_readHand 58 = .ok (.ifCond .ne 5, 3) := by decide +kernel
theorem dX6_readHand_61 : decode cX6_readHand 61 = .ok (.iconst 0, 1) := by decide +kernel
theorem dX6_readHand_62 : decode cX6_readHand 62 = .ok (.ireturn, 1) := by decide +kernel
theorem dX6_readHand_63 : decode cX6_readHand 63 = .ok (.aload_n 0, 1) := by decide +kernel
theorem dX6_readHand_64 : decode cX6_readHand 64 = .ok (.getfield 65, 3) := by decide +kernel
theorem dX6_readHand_67 : decode cX6_readHand 67 = .ok (.istore 4, 2) := by decide +kernel
theorem dX6_readHand_69 : decode cX6_readHand 69 = .ok (.aload_n 0, 1) := by decide +kernel
theorem dX6_readHand_70 : decode cX6_readHand 70 = .ok (.bipush 9, 2) := by decide +kernel
theorem dX6_readHand_72 : decode cX6_readHand 72 = .ok (.invokevirtual 61, 3) := by decide +kernel
theorem dX6_readHand_75 : decode cX6_readHand 75 = .ok (.ifCond .ne 5, 3) := by decide +kernel
theorem dX6_readHand_78 : decode cX6_readHand 78 = .ok (.iconst 0, 1) := by decide +kernel
theorem dX6_readHand_79 : decode cX6_readHand 79 = .ok (.ireturn, 1) := by decide +kernel
theorem dX6_readHand_80 : decode cX6_readHand 80 = .ok (.aload_n 0, 1) := by decide +kernel
theorem dX6_readHand_81 : decode cX6_readHand 81 = .ok (.getfield 65, 3) := by decide +kernel
theorem dX6_readHand_84 : decode cX6_readHand 84 = .ok (.istore 5, 2) := by decide +kernel
theorem dX6_readHand_86 : decode cX6_readHand 86 = .ok (.aload_n 0, 1) := by decide +kernel
theorem dX6_readHand_87 : decode cX6_readHand 87 = .ok (.bipush 9, 2) := by decide +kernel
theorem dX6_readHand_89 : decode cX6_readHand 89 = .ok (.invokevirtual 61, 3) := by decide +kernel
theorem dX6_readHand_92 : decode cX6_readHand 92 = .ok (.ifCond .ne 5, 3) := by decide +kernel
theorem dX6_readHand_95 : decode cX6_readHand 95 = .ok (.iconst 0, 1) := by decide +kernel
theorem dX6_readHand_96 : decode cX6_readHand 96 = .ok (.ireturn, 1) := by decide +kernel
theorem dX6_readHand_97 : decode cX6_readHand 97 = .ok (.aload_n 1, 1) := by decide +kernel
theorem dX6_readHand_98 : decode cX6_readHand 98 = .ok (.iload_n 3, 1) := by decide +kernel
theorem dX6_readHand_99 : decode cX6_readHand 99 = .ok (.aload_n 1, 1) := by decide +kernel
theorem dX6_readHand_100 : decode cX6_readHand 100 = .ok (.iload_n 2, 1) := by decide +kernel
theorem dX6_readHand_101 : decode cX6_readHand 101 = .ok (.invokevirtual 81, 3) := by decide +kernel
theorem dX6_readHand_104 : decode cX6_readHand 104 = .ok (.iload 4, 2) := by decide +kernel
theorem dX6_readHand_106 : decode cX6_readHand 106 = .ok (.iload 5, 2) := by decide +kernel
theorem dX6_readHand_108 : decode cX6_readHand 108 = .ok (.aload_n 0, 1) := by decide +kernel
theorem dX6_readHand_109 : decode cX6_readHand 109 = .ok (.getfield 65, 3) := by decide +kernel
theorem dX6_readHand_112 : decode cX6_readHand 112 = .ok (.invokestatic 85, 3) := by decide +kernel
theorem dX6_readHand_115 : decode cX6_readHand 115 = .ok (.iload_n 2, 1) := by decide +kernel
theorem dX6_readHand_116 : decode cX6_readHand 116 = .ok (.invokevirtual 70, 3) := by decide +kernel
theorem dX6_readHand_119 : decode cX6_readHand 119 = .ok (.aload_n 0, 1) := by decide +kernel
theorem dX6_readHand_120 : decode cX6_readHand 120 = .ok (.invokevirtual 40, 3) := by decide +kernel
theorem dX6_readHand_123 : decode cX6_readHand 123 = .ok (.ireturn, 1) := by decide +kernel
set_option maxRecDepth 20000 in
theorem ggX6_isNumber_X6_look : GoodIn wsX6_isNumber wsX6_look := goodIn_r _ [7, 8, 9, 10, 2, 1, 11, 12, 13, 6, 14, 15, 16, 17, 18, 19, 20, 21, 22, 23, 24, 25, 26, 27, 28, 29, 30, 31, 32, 33, 34, 35] (by decide +kernel) (by decide +kernel)
set_option maxRecDepth 20000 in
theorem gX6_isNumber_X6_look : GoodIn wsX6_isNumber (wsV RX6 31 RX6 yX6_look wsX6_look) := goodIn_app (goodIn_of _ (by decide +kernel)) ggX6_isNumber_X6_look
theorem dX6_isNumber_0 : decode cX6_isNumber 0 = .ok (.aload_n 0, 1) := by decide +kernel
theorem dX6_isNumber_1 : decode cX6_isNumber 1 = .ok (.invokevirtual 31, 3) := by decide +kernel
theorem dX6_isNumber_4 : decode cX6_isNumber 4 = .ok (.aload_n 0, 1) := by decide +kernel
theorem dX6_isNumber_5 : decode cX6_isNumber 5 = .ok (.getfield 47, 3) := by decide +kernel
theorem dX6_isNumber_8 : decode cX6_isNumber 8 = .ok (.iconst 2, 1) := by decide +kernel
theorem dX6_isNumber_9 : decode cX6_isNumber 9 = .ok (.if_icmp .ne 15, 3) := by decide +kernel
theorem dX6_isNumber_12 : decode cX6_isNumber 12 = .ok (.aload_n 0, 1) := by decide +kernel
theorem dX6_isNumber_13 : decode cX6_isNumber 13 = .ok (.getfield 65, 3) := by decide +kernel
theorem dX6_isNumber_16 : decode cX6_isNumber 16 = .ok (.iload_n 1, 1) := by decide +kernel
theorem dX6_isNumber_17 : decode cX6_isNumber 17 = .ok (.if_icmp .gt 7, 3) := by decide +kernel
theorem dX6_isNumber_20 : decode cX6_isNumber 20 = .ok (.iconst 1, 1) := by decide +kernel
theorem dX6_isNumber_21 : decode cX6_isNumber 21 = .ok (.goto 4, 3) := by decide +kernel
theorem dX6_isNumber_24 : decode cX6_isNumber 24 = .ok (.iconst 0, 1) := by decide +kernel
theorem dX6_isNumber_25 : decode cX6_isNumber 25 = .ok (.ireturn, 1) := by decide +kernel
set_option maxRecDepth 20000 in
theorem ggX6_isEnded_X6_look : GoodIn wsX6_isEnded wsX6_look := goodIn_r _ [6, 7, 8, 9, 10, 1, 11, 12, 13, 5, 14, 15, 16, 17, 18, 19, 20, 21, 22, 23, 24, 25, 26, 27, 28, 29, 30, 31, 32, 33, 34, 35] (by decide +kernel) (by decide +kernel)
set_option maxRecDepth 20000 in
theorem gX6_isEnded_X6_look : GoodIn wsX6_isEnded (wsV RX6 31 RX6 yX6_look wsX6_look) := goodIn_app (goodIn_of _ (by decide +kernel)) ggX6_isEnded_X6_look
theorem dX6_isEnded_0 : decode cX6_isEnded 0 = .ok (.aload_n 0, 1) := by decide +kernel
theorem dX6_isEnded_1 : decode cX6_isEnded 1 = .ok (.invokevirtual 31, 3) := by decide +kernel
theorem dX6_isEnded_4 : decode cX6_isEnded 4 = .ok (.aload_n 0, 1) := by decide +kernel
theorem dX6_isEnded_5 : decode cX6_isEnded 5 = .ok (.getfield 47, 3) := by decide +kernel
theorem dX6_isEnded_8 : decode cX6_isEnded 8 = .ok (.iconst 3, 1) := by decide +kernel
theorem dX6_isEnded_9 : decode cX6_isEnded 9 = .ok (.if_icmp .ne 7, 3) := by decide +kernel
theorem dX6_isEnded_12 : decode cX6_isEnded 12 = .ok (.iconst 1, 1) := by decide +kernel
theorem dX6_isEnded_13 : decode cX6_isEnded 13 = .ok (.goto 4, 3) := by decide +kernel
theorem dX6_isEnded_16 : decode cX6_isEnded 16 = .ok (.iconst 0, 1) := by decide +kernel
theorem dX6_isEnded_17 : decode cX6_isEnded 17 = .ok (.ireturn, 1) := by decide +kernel
set_option maxRecDepth 20000 in
theorem ggX6_isWord_J0_length_8abf5 : GoodIn wsX6_isWord wsJ0_length_8abf5 := goodIn_r _ [8, 9, 10, 11, 12, 7, 13, 14, 15] (by decide +kernel) (by decide +kernel)
set_option maxRecDepth 20000 in
theorem gX6_isWord_J0_length_8abf5 : GoodIn wsX6_isWord (wsV RX6 89 RJ0 yJ0_length_8abf5 wsJ0_length_8abf5) := goodIn_app (goodIn_of _ (by decide +kernel)) ggX6_isWord_J0_length_8abf5
set_option maxRecDepth 20000 in
theorem ggX6_isWord_X6_byteIn : GoodIn wsX6_isWord wsX6_byteIn := goodIn_r _ [20, 21, 22, 60, 61, 62, 63, 64, 65] (by decide +kernel) (by decide +kernel)
set_option maxRecDepth 20000 in
theorem gX6_isWord_X6_byteIn : GoodIn wsX6_isWord (wsV RX6 94 RX6 yX6_byteIn wsX6_byteIn) := goodIn_app (goodIn_of _ (by decide +kernel)) ggX6_isWord_X6_byteIn
set_option maxRecDepth 20000 in
theorem ggX6_isWord_J0_charAt_5068e : GoodIn wsX6_isWord wsJ0_charAt_5068e := goodIn_r _ [26, 9, 27, 28, 29, 7, 30, 14, 15, 31, 32, 33, 34, 35, 36, 37, 38, 39, 40, 41, 42, 43, 44, 45, 46, 47, 48, 49, 50, 51, 52, 53, 54, 55, 56, 57, 58, 59] (by decide +kernel) (by decide +kernel)
set_option maxRecDepth 20000 in
theorem gX6_isWord_J0_charAt_5068e : GoodIn wsX6_isWord (wsV RX6 98 RJ0 yJ0_charAt_5068e wsJ0_charAt_5068e) := goodIn_app (goodIn_of _ (by decide +kernel)) ggX6_isWord_J0_charAt_5068e
theorem dX6_isWord_0 : decode cX6_isWord 0 = .ok (.aload_n 0, 1) := by decide +kernel
theorem dX6_isWord_1 : decode cX6_isWord 1 = .ok (.getfield 47, 3) := by decide +kernel
theorem dX6_isWord_4 : decode cX6_isWord 4 = .ok (.iconst 1, 1) := by decide +kernel
theorem dX6_isWord_5 : decode cX6_isWord 5 = .ok (.if_icmp .ne 19, 3) := by decide +kernel
theorem dX6_isWord_8 : decode cX6_isWord 8 = .ok (.aload_n 0, 1) := by decide +kernel
theorem dX6_isWord_9 : decode cX6_isWord 9 = .ok (.getfield 28, 3) := by decide +kernel
theorem dX6_isWord_12 : decode cX6_isWord 12 = .ok (.aload_n 0, 1) := by decide +kernel
theorem dX6_isWord_13 : decode cX6_isWord 13 = .ok (.getfield 44, 3) := by decide +kernel
theorem dX6_isWord_16 : decode cX6_isWord 16 = .ok (.isub, 1) := by decide +kernel
theorem dX6_isWord_17 : decode cX6_isWord 17 = .ok (.aload_n 1, 1) := by decide +kernel
theorem dX6_isWord_18 : decode cX6_isWord 18 = .ok (.invokevirtual 89, 3) := by decide +kernel
theorem dX6_isWord_21 : decode cX6_isWord 21 = .ok (.if_icmp .eq 5, 3) := by decide +kernel
theorem dX6_isWord_24 : decode cX6_isWord 24 = .ok (.iconst 0, 1) := by decide +kernel
theorem dX6_isWord_25 : decode cX6_isWord 25 = .ok (.ireturn, 1) := by decide +kernel
theorem dX6_isWord_26 : decode cX6_isWord 26 = .ok (.iconst 0, 1) := by decide +kernel
theorem dX6_isWord_27 : decode cX6_isWord 27 = .ok (.istore_n 2, 1) := by decide +kernel
theorem dX6_isWord_28 : decode cX6_isWord 28 = .ok (.iload_n 2, 1) := by decide +kernel
theorem dX6_isWord_29 : decode cX6_isWord 29 = .ok (.aload_n 1, 1) := by decide +kernel
theorem dX6_isWord_30 : decode cX6_isWord 30 = .ok (.invokevirtual 89, 3) := by decide +kernel
theorem dX6_isWord_33 : decode cX6_isWord 33 = .ok (.if_icmp .ge 29, 3) := by decide +kernel
theorem dX6_isWord_36 : decode cX6_isWord 36 = .ok (.aload_n 0, 1) := by decide +kernel
theorem dX6_isWord_37 : decode cX6_isWord 37 = .ok (.aload_n 0, 1) := by decide +kernel
theorem dX6_isWord_38 : decode cX6_isWord 38 = .ok (.getfield 44, 3) := by decide +kernel
theorem dX6_isWord_41 : decode cX6_isWord 41 = .ok (.iload_n 2, 1) := by decide +kernel
theorem dX6_isWord_42 : decode cX6_isWord 42 = .ok (.iadd, 1) := by decide +kernel
theorem dX6_isWord_43 : decode cX6_isWord 43 = .ok (.invokevirtual 94, 3) := by decide +kernel
theorem dX6_isWord_46 : decode cX6_isWord 46 = .ok (.aload_n 1, 1) := by decide +kernel
theorem dX6_isWord_47 : decode cX6_isWord 47 = .ok (.iload_n 2, 1) := by decide +kernel
theorem dX6_isWord_48 : decode cX6_isWord 48 = .ok (.invokevirtual 98, 3) := by decide +kernel
theorem dX6_isWord_51 : decode cX6_isWord 51 = .ok (.if_icmp .eq 5, 3) := by decide +kernel
theorem dX6_isWord_54 : decode cX6_isWord 54 = .ok (.iconst 0, 1) := by decide +kernel
theorem dX6_isWord_55 : decode cX6_isWord 55 = .ok (.ireturn, 1) := by decide +kernel
theorem dX6_isWord_56 : decode cX6_isWord 56 = .ok (.iinc 2 1, 3) := by decide +kernel
theorem dX6_isWord_59 : decode cX6_isWord 59 = .ok (.goto (-31), 3) := by decide +kernel
theorem dX6_isWord_62 : decode cX6_isWord 62 = .ok (.iconst 1, 1) := by decide +kernel
theorem dX6_isWord_63 : decode cX6_isWord 63 = .ok (.ireturn, 1) := by decide +kernel
set_option maxRecDepth 20000 in
theorem ggX6_look_X6_byteIn : GoodIn wsX6_look wsX6_byteIn := goodIn_r _ [10, 3, 11, 26, 27, 28, 29, 30, 31] (by decide +kernel) (by decide +kernel)
set_option maxRecDepth 20000 in
theorem gX6_look_X6_byteIn : GoodIn wsX6_look (wsV RX6 94 RX6 yX6_byteIn wsX6_byteIn) := goodIn_app (goodIn_of _ (by decide +kernel)) ggX6_look_X6_byteIn
set_option maxRecDepth 20000 in
theorem ggX6_look_X6_isLetter : GoodIn wsX6_look wsX6_isLetter := goodIn_r _ [14] (by decide +kernel) (by decide +kernel)
set_option maxRecDepth 20000 in
theorem gX6_look_X6_isLetter : GoodIn wsX6_look (va_wsS RX6 102 yX6_isLetter wsX6_isLetter) := goodIn_app (goodIn_of _ (by decide +kernel)) ggX6_look_X6_isLetter
set_option maxRecDepth 20000 in
theorem ggX6_look_X6_lookAtWord : GoodIn wsX6_look wsX6_lookAtWord := goodIn_r _ [18, 5, 1, 3, 6, 7, 8, 9, 10, 11, 12, 13, 14, 26, 27, 28, 29, 30, 31] (by decide +kernel) (by decide +kernel)
set_option maxRecDepth 20000 in
theorem gX6_look_X6_lookAtWord : GoodIn wsX6_look (wsV RX6 105 RX6 yX6_lookAtWord wsX6_lookAtWord) := goodIn_app (goodIn_of _ (by decide +kernel)) ggX6_look_X6_lookAtWord
set_option maxRecDepth 20000 in
theorem ggX6_look_X6_isFigure : GoodIn wsX6_look wsX6_isFigure := goodIn_r _ [21] (by decide +kernel) (by decide +kernel)
set_option maxRecDepth 20000 in
theorem gX6_look_X6_isFigure : GoodIn wsX6_look (va_wsS RX6 108 yX6_isFigure wsX6_isFigure) := goodIn_app (goodIn_of _ (by decide +kernel)) ggX6_look_X6_isFigure
set_option maxRecDepth 20000 in
theorem ggX6_look_X6_lookAtNumber : GoodIn wsX6_look wsX6_lookAtNumber := goodIn_r _ [25, 1, 3, 4, 2, 5, 6, 7, 8, 9, 10, 11, 19, 20, 21, 26, 27, 28, 29, 30, 31] (by decide +kernel) (by decide +kernel)
set_option maxRecDepth 20000 in
theorem gX6_look_X6_lookAtNumber : GoodIn wsX6_look (wsV RX6 111 RX6 yX6_lookAtNumber wsX6_lookAtNumber) := goodIn_app (goodIn_of _ (by decide +kernel)) ggX6_look_X6_lookAtNumber
theorem dX6_look_0 : decode cX6_look 0 = .ok (.aload_n 0, 1) := by decide +kernel
theorem dX6_look_1 : decode cX6_look 1 = .ok (.aload_n 0, 1) := by decide +kernel
theorem dX6_look_2 : decode cX6_look 2 = .ok (.getfield 28, 3) := by decide +kernel
theorem dX6_look_5 : decode cX6_look 5 = .ok (.putfield 44, 3) := by decide +kernel
theorem dX6_look_8 : decode cX6_look 8 = .ok (.aload_n 0, 1) := by decide +kernel
theorem dX6_look_9 : decode cX6_look 9 = .ok (.getfield 44, 3) := by decide +kernel
theorem dX6_look_12 : decode cX6_look 12 = .ok (.aload_n 0, 1) := by decide +kernel
theorem dX6_look_13 : decode cX6_look 13 = .ok (.getfield 15, 3) := by decide +kernel
theorem dX6_look_16 : decode cX6_look 16 = .ok (.if_icmp .ge 29, 3) := by decide +kernel
theorem dX6_look_19 : decode cX6_look 19 = .ok (.aload_n 0, 1) := by decide +kernel
theorem dX6_look_20 : decode cX6_look 20 = .ok (.aload_n 0, 1) := by decide +kernel
theorem dX6_look_21 : decode cX6_look 21 = .ok (.getfield 44, 3) := by decide +kernel
theorem dX6_look_24 : decode cX6_look 24 = .ok (.invokevirtual 94, 3) := by decide +kernel
theorem dX6_look_27 : decode cX6_look 27 = .ok (.bipush 32, 2) := by decide +kernel
theorem dX6_look_29 : decode cX6_look 29 = .ok (.if_icmp .ne 16, 3) := by decide +kernel
theorem dX6_look_32 : decode cX6_look 32 = .ok (.aload_n 0, 1) := by decide +kernel
theorem dX6_look_33 : decode cX6_look 33 = .ok (.dup, 1) := by decide +kernel
theorem dX6_look_34 : decode cX6_look 34 = .ok (.getfield 44, 3) := by decide +kernel
theorem dX6_look_37 : decode cX6_look 37 = .ok (.iconst 1, 1) := by decide +kernel
theorem dX6_look_38 : decode cX6_look 38 = .ok (.iadd, 1) := by decide +kernel
theorem dX6_look_39 : decode cX6_look 39 = .ok (.putfield 44, 3) := by decide +kernel
theorem dX6_look_42 : decode cX6_look 42 = .ok (.goto (-34), 3) := by decide +kernel
theorem dX6_look_45 : decode cX6_look 45 = .ok (.aload_n 0, 1) := by decide +kernel
theorem dX6_look_46 : decode cX6_look 46 = .ok (.aload_n 0, 1) := by decide +kernel
theorem dX6_look_47 : decode cX6_look 47 = .ok (.getfield 44, 3) := by decide +kernel
theorem dX6_look_50 : decode cX6_look 50 = .ok (.putfield 28, 3) := by decide +kernel
theorem dX6_look_53 : decode cX6_look 53 = .ok (.aload_n 0, 1) := by decide +kernel
theorem dX6_look_54 : decode cX6_look 54 = .ok (.iconst 0, 1) := by decide +kernel
theorem dX6_look_55 : decode cX6_look 55 = .ok (.putfield 65, 3) := by decide +kernel
theorem dX6_look_58 : decode cX6_look 58 = .ok (.aload_n 0, 1) := by decide +kernel
theorem dX6_look_59 : decode cX6_look 59 = .ok (.getfield 44, 3) := by decide +kernel
theorem dX6_look_62 : decode cX6_look 62 = .ok (.aload_n 0, 1) := by decide +kernel
theorem dX6_look_63 : decode cX6_look 63 = .ok (.getfield 15, 3) := by decide +kernel
theorem dX6_look_66 : decode cX6_look 66 = .ok (.if_icmp .lt 11, 3) := by decide +kernel
theorem dX6_look_69 : decode cX6_look 69 = .ok (.aload_n 0, 1) := by decide +kernel
theorem dX6_look_70 : decode cX6_look 70 = .ok (.iconst 0, 1) := by decide +kernel
theorem dX6_look_71 : decode cX6_look 71 = .ok (.putfield 47, 3) := by decide +kernel
theorem dX6_look_74 : decode cX6_look 74 = .ok (.goto 77, 3) := by decide +kernel
theorem dX6_look_77 : decode cX6_look 77 = .ok (.aload_n 0, 1) := by decide +kernel
theorem dX6_look_78 : decode cX6_look 78 = .ok (.aload_n 0, 1) := by decide +kernel
theorem dX6_look_79 : decode cX6_look 79 = .ok (.getfield 44, 3) := by decide +kernel
theorem dX6_look_82 : decode cX6_look 82 = .ok (.invokevirtual 94, 3) := by decide +kernel
theorem dX6_look_85 : decode cX6_look 85 = .ok (.invokestatic 102, 3) := by decide +kernel
theorem dX6_look_88 : decode cX6_look 88 = .ok (.ifCond .eq 10, 3) := by decide +kernel
theorem dX6_look_91 : decode cX6_look 91 = .ok (.aload_n 0, 1) := by decide +kernel
theorem dX6_look_92 : decode cX6_look 92 = .ok (.invokevirtual 105, 3) := by decide +kernel
theorem dX6_look_95 : decode cX6_look 95 = .ok (.goto 56, 3) := by decide +kernel
theorem dX6_look_98 : decode cX6_look 98 = .ok (.aload_n 0, 1) := by decide +kernel
theorem dX6_look_99 : decode cX6_look 99 = .ok (.aload_n 0, 1) := by decide +kernel
theorem dX6_look_100 : decode cX6_look 100 = .ok (.getfield 44, 3) := by decide +kernel
theorem dX6_look_103 : decode cX6_look 103 = .ok (.invokevirtual 94, 3) := by decide +kernel
theorem dX6_look_106 : decode cX6_look 106 = .ok (.invokestatic 108, 3) := by decide +kernel
theorem dX6_look_109 : decode cX6_look 109 = .ok (.ifCond .eq 10, 3) := by decide +kernel
theorem dX6_look_112 : decode cX6_look 112 = .ok (.aload_n 0, 1) := by decide +kernel
theorem dX6_look_113 : decode cX6_look 113 = .ok (.invokevirtual 111, 3) := by decide +kernel
theorem dX6_look_116 : decode cX6_look 116 = .ok (.goto 35, 3) := by decide +kernel
theorem dX6_look_119 : decode cX6_look 119 = .ok (.aload_n 0, 1) := by decide +kernel
theorem dX6_look_120 : decode cX6_look 120 = .ok (.aload_n 0, 1) := by decide +kernel
theorem dX6_look_121 : decode cX6_look 121 = .ok (.aload_n 0, 1) := by decide +kernel
theorem dX6_look_122 : decode cX6_look 122 = .ok (.getfield 44, 3) := by decide +kernel
theorem dX6_look_125 : decode cX6_look 125 = .ok (.invokevirtual 94, 3) := by decide +kernel
theorem dX6_look_128 : decode cX6_look 128 = .ok (.bipush 59, 2) := by decide +kernel
theorem dX6_look_130 : decode cX6_look 130 = .ok (.if_icmp .ne 7, 3) := by decide +kernel
theorem dX6_look_133 : decode cX6_look 133 = .ok (.iconst 3, 1) := by decide +kernel
theorem dX6_look_134 : decode cX6_look 134 = .ok (.goto 4, 3) := by decide +kernel
theorem dX6_look_137 : decode cX6_look 137 = .ok (.iconst 4, 1) := by decide +kernel
theorem dX6_look_138 : decode cX6_look 138 = .ok (.putfield 47, 3) := by decide +kernel
theorem dX6_look_141 : decode cX6_look 141 = .ok (.aload_n 0, 1) := by decide +kernel
theorem dX6_look_142 : decode cX6_look 142 = .ok (.aload_n 0, 1) := by decide +kernel
theorem dX6_look_143 : decode cX6_look 143 = .ok (.getfield 44, 3) := by decide +kernel
theorem dX6_look_146 : decode cX6_look 146 = .ok (.iconst 1, 1) := by decide +kernel
theorem dX6_look_147 : decode cX6_look 147 = .ok (.iadd, 1) := by decide +kernel
theorem dX6_look_148 : decode cX6_look 148 = .ok (.putfield 28, 3) := by decide +kernel
theorem dX6_look_151 : decode cX6_look 151 = .ok (.return_, 1) := by decide +kernel
set_option maxRecDepth 20000 in
theorem ggX6_lookAtWord_X6_byteIn : GoodIn wsX6_lookAtWord wsX6_byteIn := goodIn_r _ [8, 3, 9, 13, 14, 15, 16, 17, 18] (by decide +kernel) (by decide +kernel)
set_option maxRecDepth 20000 in
theorem gX6_lookAtWord_X6_byteIn : GoodIn wsX6_lookAtWord (wsV RX6 94 RX6 yX6_byteIn wsX6_byteIn) := goodIn_app (goodIn_of _ (by decide +kernel)) ggX6_lookAtWord_X6_byteIn
set_option maxRecDepth 20000 in
theorem ggX6_lookAtWord_X6_isLetter : GoodIn wsX6_lookAtWord wsX6_isLetter := goodIn_r _ [12] (by decide +kernel) (by decide +kernel)
set_option maxRecDepth 20000 in
theorem gX6_lookAtWord_X6_isLetter : GoodIn wsX6_lookAtWord (va_wsS RX6 102 yX6_isLetter wsX6_isLetter) := goodIn_app (goodIn_of _ (by decide +kernel)) ggX6_lookAtWord_X6_isLetter
theorem dX6_lookAtWord_0 : decode cX6_lookAtWord 0 = .ok (.aload_n 0, 1) := by decide +kernel
theorem dX6_lookAtWord_1 : decode cX6_lookAtWord 1 = .ok (.iconst 1, 1) := by decide +kernel
theorem dX6_lookAtWord_2 : decode cX6_lookAtWord 2 = .ok (.putfield 47, 3) := by decide +kernel
theorem dX6_lookAtWord_5 : decode cX6_lookAtWord 5 = .ok (.aload_n 0, 1) := by decide +kernel
theorem dX6_lookAtWord_6 : decode cX6_lookAtWord 6 = .ok (.getfield 28, 3) := by decide +kernel
theorem dX6_lookAtWord_9 : decode cX6_lookAtWord 9 = .ok (.aload_n 0, 1) := by decide +kernel
theorem dX6_lookAtWord_10 : decode cX6_lookAtWord 10 = .ok (.getfield 15, 3) := by decide +kernel
theorem dX6_lookAtWord_13 : decode cX6_lookAtWord 13 = .ok (.if_icmp .ge 30, 3) := by decide +kernel
theorem dX6_lookAtWord_16 : decode cX6_lookAtWord 16 = .ok (.aload_n 0, 1) := by decide +kernel
theorem dX6_lookAtWord_17 : decode cX6_lookAtWord 17 = .ok (.aload_n 0, 1) := by decide +kernel
theorem dX6_lookAtWord_18 : decode cX6_lookAtWord 18 = .ok (.getfield 28, 3) := by decide +kernel
theorem dX6_lookAtWord_21 : decode cX6_lookAtWord 21 = .ok (.invokevirtual 94, 3) := by decide +kernel
theorem dX6_lookAtWord_24 : decode cX6_lookAtWord 24 = .ok (.invokestatic 102, 3) := by decide +kernel
theorem dX6_lookAtWord_27 : decode cX6_lookAtWord 27 = .ok (.ifCond .eq 16, 3) := by decide +kernel
theorem dX6_lookAtWord_30 : decode cX6_lookAtWord 30 = .ok (.aload_n 0, 1) := by decide +kernel
theorem dX6_lookAtWord_31 : decode cX6_lookAtWord 31 = .ok (.dup, 1) := by decide +kernel
theorem dX6_lookAtWord_32 : decode cX6_lookAtWord 32 = .ok (.getfield 28, 3) := by decide +kernel
theorem dX6_lookAtWord_35 : decode cX6_lookAtWord 35 = .ok (.iconst 1, 1) := by decide +kernel
theorem dX6_lookAtWord_36 : decode cX6_lookAtWord 36 = .ok (.iadd, 1) := by decide +kernel
theorem dX6_lookAtWord_37 : decode cX6_lookAtWord 37 = .ok (.putfield 28, 3) := by decide +kernel
theorem dX6_lookAtWord_40 : decode cX6_lookAtWord 40 = .ok (.goto (-35), 3) := by decide +kernel
theorem dX6_lookAtWord_43 : decode cX6_lookAtWord 43 = .ok (.return_, 1) := by decide +kernel
set_option maxRecDepth 20000 in
theorem ggX6_lookAtNumber_X6_byteIn : GoodIn wsX6_lookAtNumber wsX6_byteIn := goodIn_r _ [10, 2, 11, 15, 16, 17, 18, 19, 20] (by decide +kernel) (by decide +kernel)
set_option maxRecDepth 20000 in
theorem gX6_lookAtNumber_X6_byteIn : GoodIn wsX6_lookAtNumber (wsV RX6 94 RX6 yX6_byteIn wsX6_byteIn) := goodIn_app (goodIn_of _ (by decide +kernel)) ggX6_lookAtNumber_X6_byteIn
set_option maxRecDepth 20000 in
theorem ggX6_lookAtNumber_X6_isFigure : GoodIn wsX6_lookAtNumber wsX6_isFigure := goodIn_r _ [14] (by decide +kernel) (by decide +kernel)
set_option maxRecDepth 20000 in
theorem gX6_lookAtNumber_X6_isFigure : GoodIn wsX6_lookAtNumber (va_wsS RX6 108 yX6_isFigure wsX6_isFigure) := goodIn_app (goodIn_of _ (by decide +kernel)) ggX6_lookAtNumber_X6_isFigure
theorem dX6_lookAtNumber_0 : decode cX6_lookAtNumber 0 = .ok (.aload_n 0, 1) := by decide +kernel
theorem dX6_lookAtNumber_1 : decode cX6_lookAtNumber 1 = .ok (.getfield 28, 3) := by decide +kernel
theorem dX6_lookAtNumber_4 : decode cX6_lookAtNumber 4 = .ok (.aload_n 0, 1) := by decide +kernel
theorem dX6_lookAtNumber_5 : decode cX6_lookAtNumber 5 = .ok (.getfield 15, 3) := by decide +kernel
theorem dX6_lookAtNumber_8 : decode cX6_lookAtNumber 8 = .ok (.if_icmp .ge 53, 3) := by decide +kernel
theorem dX6_lookAtNumber_11 : decode cX6_lookAtNumber 11 = .ok (.aload_n 0, 1) := by decide +kernel
theorem dX6_lookAtNumber_12 : decode cX6_lookAtNumber 12 = .ok (.aload_n 0, 1) := by decide +kernel
theorem dX6_lookAtNumber_13 : decode cX6_lookAtNumber 13 = .ok (.getfield 28, 3) := by decide +kernel
theorem dX6_lookAtNumber_16 : decode cX6_lookAtNumber 16 = .ok (.invokevirtual 94, 3) := by decide +kernel
theorem dX6_lookAtNumber_19 : decode cX6_lookAtNumber 19 = .ok (.invokestatic 108, 3) := by decide +kernel
theorem dX6_lookAtNumber_22 : decode cX6_lookAtNumber 22 = .ok (.ifCond .eq 39, 3) := by decide +kernel
theorem dX6_lookAtNumber_25 : decode cX6_lookAtNumber 25 = .ok (.aload_n 0, 1) := by decide +kernel
theorem dX6_lookAtNumber_26 : decode cX6_lookAtNumber 26 = .ok (.bipush 10, 2) := by decide +kernel
theorem dX6_lookAtNumber_28 : decode cX6_lookAtNumber 28 = .ok (.aload_n 0, 1) := by decide +kernel
theorem dX6_lookAtNumber_29 : decode cX6_lookAtNumber 29 = .ok (.getfield 65, 3) := by decide +kernel
theorem dX6_lookAtNumber_32 : decode cX6_lookAtNumber 32 = .ok (.imul, 1) := by decide +kernel
theorem dX6_lookAtNumber_33 : decode cX6_lookAtNumber 33 = .ok (.aload_n 0, 1) := by decide +kernel
theorem dX6_lookAtNumber_34 : decode cX6_lookAtNumber 34 = .ok (.aload_n 0, 1) := by decide +kernel
theorem dX6_lookAtNumber_35 : decode cX6_lookAtNumber 35 = .ok (.getfield 28, 3) := by decide +kernel
theorem dX6_lookAtNumber_38 : decode cX6_lookAtNumber 38 = .ok (.invokevirtual 94, 3) := by decide +kernel
theorem dX6_lookAtNumber_41 : decode cX6_lookAtNumber 41 = .ok (.iadd, 1) := by decide +kernel
theorem dX6_lookAtNumber_42 : decode cX6_lookAtNumber 42 = .ok (.bipush 48, 2) := by decide +kernel
theorem dX6_lookAtNumber_44 : decode cX6_lookAtNumber 44 = .ok (.isub, 1) := by decide +kernel
theorem dX6_lookAtNumber_45 : decode cX6_lookAtNumber 45 = .ok (.putfield 65, 3) := by decide +kernel
theorem dX6_lookAtNumber_48 : decode cX6_lookAtNumber 48 = .ok (.aload_n 0, 1) := by decide +kernel
theorem dX6_lookAtNumber_49 : decode cX6_lookAtNumber 49 = .ok (.dup, 1) := by decide +kernel
theorem dX6_lookAtNumber_50 : decode cX6_lookAtNumber 50 = .ok (.getfield 28, 3) := by decide +kernel
theorem dX6_lookAtNumber_53 : decode cX6_lookAtNumber 53 = .ok (.iconst 1, 1) := by decide +kernel
theorem dX6_lookAtNumber_54 : decode cX6_lookAtNumber 54 = .ok (.iadd, 1) := by decide +kernel
theorem dX6_lookAtNumber_55 : decode cX6_lookAtNumber 55 = .ok (.putfield 28, 3) := by decide +kernel
theorem dX6_lookAtNumber_58 : decode cX6_lookAtNumber 58 = .ok (.goto (-58), 3) := by decide +kernel
theorem dX6_lookAtNumber_61 : decode cX6_lookAtNumber 61 = .ok (.aload_n 0, 1) := by decide +kernel
theorem dX6_lookAtNumber_62 : decode cX6_lookAtNumber 62 = .ok (.aload_n 0, 1) := by decide +kernel
theorem dX6_lookAtNumber_63 : decode cX6_lookAtNumber 63 = .ok (.getfield 28, 3) := by decide +kernel
theorem dX6_lookAtNumber_66 : decode cX6_lookAtNumber 66 = .ok (.aload_n 0, 1) := by decide +kernel
