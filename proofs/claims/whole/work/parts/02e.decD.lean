theorem dX9_slip_0 : decode cX9_slip 0 = .ok (.iload_n 1, 1) := by decide +kernel
theorem dX9_slip_1 : decode cX9_slip 1 = .ok (.invokestatic 139, 3) := by decide +kernel
theorem dX9_slip_4 : decode cX9_slip 4 = .ok (.ifCond .ne 10, 3) := by decide +kernel
theorem dX9_slip_7 : decode cX9_slip 7 = .ok (.aload_n 0, 1) := by decide +kernel
theorem dX9_slip_8 : decode cX9_slip 8 = .ok (.bipush (-2), 2) := by decide +kernel
theorem dX9_slip_10 : decode cX9_slip 10 = .ok (.invokevirtual 126, 3) := by decide +kernel
theorem dX9_slip_13 : decode cX9_slip 13 = .ok (.ireturn, 1) := by decide +kernel
theorem dX9_slip_14 : decode cX9_slip 14 = .ok (.iconst 0, 1) := by decide +kernel
theorem dX9_slip_15 : decode cX9_slip 15 = .ok (.istore_n 2, 1) := by decide +kernel
theorem dX9_slip_16 : decode cX9_slip 16 = .ok (.aload_n 0, 1) := by decide +kernel
theorem dX9_slip_17 : decode cX9_slip 17 = .ok (.getfield 7, 3) := by decide +kernel
theorem dX9_slip_20 : decode cX9_slip 20 = .ok (.iload_n 1, 1) := by decide +kernel
theorem dX9_slip_21 : decode cX9_slip 21 = .ok (.laload, 1) := by decide +kernel
theorem dX9_slip_22 : decode cX9_slip 22 = .ok (.invokestatic 184, 3) := by decide +kernel
theorem dX9_slip_25 : decode cX9_slip 25 = .ok (.istore_n 3, 1) := by decide +kernel
theorem dX9_slip_26 : decode cX9_slip 26 = .ok (.bipush 100, 2) := by decide +kernel
theorem dX9_slip_28 : decode cX9_slip 28 = .ok (.istore 4, 2) := by decide +kernel
theorem dX9_slip_30 : decode cX9_slip 30 = .ok (.iload 4, 2) := by decide +kernel
theorem dX9_slip_32 : decode cX9_slip 32 = .ok (.sipush 600, 3) := by decide +kernel
theorem dX9_slip_35 : decode cX9_slip 35 = .ok (.if_icmp .ge 67, 3) := by decide +kernel
theorem dX9_slip_38 : decode cX9_slip 38 = .ok (.iload 4, 2) := by decide +kernel
theorem dX9_slip_40 : decode cX9_slip 40 = .ok (.bipush 100, 2) := by decide +kernel
theorem dX9_slip_42 : decode cX9_slip 42 = .ok (.idiv, 1) := by decide +kernel
theorem dX9_slip_43 : decode cX9_slip 43 = .ok (.iload 4, 2) := by decide +kernel
theorem dX9_slip_45 : decode cX9_slip 45 = .ok (.bipush 10, 2) := by decide +kernel
theorem dX9_slip_47 : decode cX9_slip 47 = .ok (.idiv, 1) := by decide +kernel
theorem dX9_slip_48 : decode cX9_slip 48 = .ok (.bipush 10, 2) := by decide +kernel
theorem dX9_slip_50 : decode cX9_slip 50 = .ok (.irem, 1) := by decide +kernel
theorem dX9_slip_51 : decode cX9_slip 51 = .ok (.iload 4, 2) := by decide +kernel
theorem dX9_slip_53 : decode cX9_slip 53 = .ok (.bipush 10, 2) := by decide +kernel
theorem dX9_slip_55 : decode cX9_slip 55 = .ok (.irem, 1) := by decide +kernel
theorem dX9_slip_56 : decode cX9_slip 56 = .ok (.aload_n 0, 1) := by decide +kernel
theorem dX9_slip_57 : decode cX9_slip 57 = .ok (.getfield 7, 3) := by decide +kernel
theorem dX9_slip_60 : decode cX9_slip 60 = .ok (.iload_n 1, 1) := by decide +kernel
theorem dX9_slip_61 : decode cX9_slip 61 = .ok (.laload, 1) := by decide +kernel
theorem dX9_slip_62 : decode cX9_slip 62 = .ok (.invokestatic 155, 3) := by decide +kernel
theorem dX9_slip_65 : decode cX9_slip 65 = .ok (.invokestatic 184, 3) := by decide +kernel
theorem dX9_slip_68 : decode cX9_slip 68 = .ok (.istore 5, 2) := by decide +kernel
theorem dX9_slip_70 : decode cX9_slip 70 = .ok (.iload 5, 2) := by decide +kernel
theorem dX9_slip_72 : decode cX9_slip 72 = .ok (.iload_n 3, 1) := by decide +kernel
theorem dX9_slip_73 : decode cX9_slip 73 = .ok (.if_icmp .le 8, 3) := by decide +kernel
theorem dX9_slip_76 : decode cX9_slip 76 = .ok (.iload 4, 2) := by decide +kernel
theorem dX9_slip_78 : decode cX9_slip 78 = .ok (.goto 4, 3) := by decide +kernel
theorem dX9_slip_81 : decode cX9_slip 81 = .ok (.iload_n 2, 1) := by decide +kernel
theorem dX9_slip_82 : decode cX9_slip 82 = .ok (.istore_n 2, 1) := by decide +kernel
theorem dX9_slip_83 : decode cX9_slip 83 = .ok (.iload 5, 2) := by decide +kernel
theorem dX9_slip_85 : decode cX9_slip 85 = .ok (.iload_n 3, 1) := by decide +kernel
theorem dX9_slip_86 : decode cX9_slip 86 = .ok (.if_icmp .le 8, 3) := by decide +kernel
theorem dX9_slip_89 : decode cX9_slip 89 = .ok (.iload 5, 2) := by decide +kernel
theorem dX9_slip_91 : decode cX9_slip 91 = .ok (.goto 4, 3) := by decide +kernel
theorem dX9_slip_94 : decode cX9_slip 94 = .ok (.iload_n 3, 1) := by decide +kernel
theorem dX9_slip_95 : decode cX9_slip 95 = .ok (.istore_n 3, 1) := by decide +kernel
theorem dX9_slip_96 : decode cX9_slip 96 = .ok (.iinc 4 1, 3) := by decide +kernel
theorem dX9_slip_99 : decode cX9_slip 99 = .ok (.goto (-69), 3) := by decide +kernel
theorem dX9_slip_102 : decode cX9_slip 102 = .ok (.iload_n 2, 1) := by decide +kernel
theorem dX9_slip_103 : decode cX9_slip 103 = .ok (.ireturn, 1) := by decide +kernel
set_option maxRecDepth 20000 in
theorem ggX9_partsOf_X9_many : GoodIn wsX9_partsOf wsX9_many := goodIn_r _ [4] (by decide +kernel) (by decide +kernel)
set_option maxRecDepth 20000 in
theorem gX9_partsOf_X9_many : GoodIn wsX9_partsOf (va_wsS RX9 82 yX9_many wsX9_many) := goodIn_app (goodIn_of _ (by decide +kernel)) ggX9_partsOf_X9_many
set_option maxRecDepth 20000 in
theorem ggX9_partsOf_X9_partOf : GoodIn wsX9_partsOf wsX9_partOf := goodIn_r _ [7, 8] (by decide +kernel) (by decide +kernel)
set_option maxRecDepth 20000 in
theorem gX9_partsOf_X9_partOf : GoodIn wsX9_partsOf (va_wsS RX9 86 yX9_partOf wsX9_partOf) := goodIn_app (goodIn_of _ (by decide +kernel)) ggX9_partsOf_X9_partOf
theorem dX9_partsOf_0 : decode cX9_partsOf 0 = .ok (.iconst 0, 1) := by decide +kernel
theorem dX9_partsOf_1 : decode cX9_partsOf 1 = .ok (.istore_n 2, 1) := by decide +kernel
theorem dX9_partsOf_2 : decode cX9_partsOf 2 = .ok (.iconst 0, 1) := by decide +kernel
theorem dX9_partsOf_3 : decode cX9_partsOf 3 = .ok (.istore_n 3, 1) := by decide +kernel
theorem dX9_partsOf_4 : decode cX9_partsOf 4 = .ok (.iload_n 3, 1) := by decide +kernel
theorem dX9_partsOf_5 : decode cX9_partsOf 5 = .ok (.lload_n 0, 1) := by decide +kernel
theorem dX9_partsOf_6 : decode cX9_partsOf 6 = .ok (.invokestatic 82, 3) := by decide +kernel
theorem dX9_partsOf_9 : decode cX9_partsOf 9 = .ok (.if_icmp .ge 19, 3) := by decide +kernel
theorem dX9_partsOf_12 : decode cX9_partsOf 12 = .ok (.iload_n 2, 1) := by decide +kernel
theorem dX9_partsOf_13 : decode cX9_partsOf 13 = .ok (.iconst 1, 1) := by decide +kernel
theorem dX9_partsOf_14 : decode cX9_partsOf 14 = .ok (.lload_n 0, 1) := by decide +kernel
theorem dX9_partsOf_15 : decode cX9_partsOf 15 = .ok (.iload_n 3, 1) := by decide +kernel
theorem dX9_partsOf_16 : decode cX9_partsOf 16 = .ok (.invokestatic 86, 3) := by decide +kernel
theorem dX9_partsOf_19 : decode cX9_partsOf 19 = .ok (.ishl, 1) := by decide +kernel
theorem dX9_partsOf_20 : decode cX9_partsOf 20 = .ok (.ior, 1) := by decide +kernel
theorem dX9_partsOf_21 : decode cX9_partsOf 21 = .ok (.istore_n 2, 1) := by decide +kernel
theorem dX9_partsOf_22 : decode cX9_partsOf 22 = .ok (.iinc 3 1, 3) := by decide +kernel
theorem dX9_partsOf_25 : decode cX9_partsOf 25 = .ok (.goto (-21), 3) := by decide +kernel
theorem dX9_partsOf_28 : decode cX9_partsOf 28 = .ok (.iload_n 2, 1) := by decide +kernel
theorem dX9_partsOf_29 : decode cX9_partsOf 29 = .ok (.ireturn, 1) := by decide +kernel
set_option maxRecDepth 20000 in
theorem ggX9_together_X9_partsOf : GoodIn wsX9_together wsX9_partsOf := goodIn_r _ [5, 6, 7, 4, 8, 9, 10, 11, 12] (by decide +kernel) (by decide +kernel)
set_option maxRecDepth 20000 in
theorem gX9_together_X9_partsOf : GoodIn wsX9_together (va_wsS RX9 190 yX9_partsOf wsX9_partsOf) := goodIn_app (goodIn_of _ (by decide +kernel)) ggX9_together_X9_partsOf
set_option maxRecDepth 20000 in
theorem ggX9_together_X9_bits : GoodIn wsX9_together wsX9_bits := goodIn_r _ [15] (by decide +kernel) (by decide +kernel)
set_option maxRecDepth 20000 in
theorem gX9_together_X9_bits : GoodIn wsX9_together (va_wsS RX9 172 yX9_bits wsX9_bits) := goodIn_app (goodIn_of _ (by decide +kernel)) ggX9_together_X9_bits
theorem dX9_together_0 : decode cX9_together 0 = .ok (.iconst (-1), 1) := by decide +kernel
theorem dX9_together_1 : decode cX9_together 1 = .ok (.istore_n 2, 1) := by decide +kernel
theorem dX9_together_2 : decode cX9_together 2 = .ok (.iconst 0, 1) := by decide +kernel
theorem dX9_together_3 : decode cX9_together 3 = .ok (.istore_n 3, 1) := by decide +kernel
theorem dX9_together_4 : decode cX9_together 4 = .ok (.iload_n 3, 1) := by decide +kernel
theorem dX9_together_5 : decode cX9_together 5 = .ok (.sipush 256, 3) := by decide +kernel
theorem dX9_together_8 : decode cX9_together 8 = .ok (.if_icmp .ge 88, 3) := by decide +kernel
theorem dX9_together_11 : decode cX9_together 11 = .ok (.iconst 0, 1) := by decide +kernel
theorem dX9_together_12 : decode cX9_together 12 = .ok (.istore 4, 2) := by decide +kernel
theorem dX9_together_14 : decode cX9_together 14 = .ok (.iconst 0, 1) := by decide +kernel
theorem dX9_together_15 : decode cX9_together 15 = .ok (.istore 5, 2) := by decide +kernel
theorem dX9_together_17 : decode cX9_together 17 = .ok (.iload 5, 2) := by decide +kernel
theorem dX9_together_19 : decode cX9_together 19 = .ok (.bipush 8, 2) := by decide +kernel
theorem dX9_together_21 : decode cX9_together 21 = .ok (.if_icmp .ge 38, 3) := by decide +kernel
theorem dX9_together_24 : decode cX9_together 24 = .ok (.iload 4, 2) := by decide +kernel
theorem dX9_together_26 : decode cX9_together 26 = .ok (.iload_n 3, 1) := by decide +kernel
theorem dX9_together_27 : decode cX9_together 27 = .ok (.iload 5, 2) := by decide +kernel
theorem dX9_together_29 : decode cX9_together 29 = .ok (.ishr, 1) := by decide +kernel
theorem dX9_together_30 : decode cX9_together 30 = .ok (.iconst 1, 1) := by decide +kernel
theorem dX9_together_31 : decode cX9_together 31 = .ok (.iand, 1) := by decide +kernel
theorem dX9_together_32 : decode cX9_together 32 = .ok (.iconst 1, 1) := by decide +kernel
theorem dX9_together_33 : decode cX9_together 33 = .ok (.if_icmp .ne 16, 3) := by decide +kernel
theorem dX9_together_36 : decode cX9_together 36 = .ok (.aload_n 0, 1) := by decide +kernel
theorem dX9_together_37 : decode cX9_together 37 = .ok (.getfield 7, 3) := by decide +kernel
theorem dX9_together_40 : decode cX9_together 40 = .ok (.iload 5, 2) := by decide +kernel
theorem dX9_together_42 : decode cX9_together 42 = .ok (.laload, 1) := by decide +kernel
theorem dX9_together_43 : decode cX9_together 43 = .ok (.invokestatic 190, 3) := by decide +kernel
theorem dX9_together_46 : decode cX9_together 46 = .ok (.goto 4, 3) := by decide +kernel
theorem dX9_together_49 : decode cX9_together 49 = .ok (.iconst 0, 1) := by decide +kernel
theorem dX9_together_50 : decode cX9_together 50 = .ok (.ior, 1) := by decide +kernel
theorem dX9_together_51 : decode cX9_together 51 = .ok (.istore 4, 2) := by decide +kernel
theorem dX9_together_53 : decode cX9_together 53 = .ok (.iinc 5 1, 3) := by decide +kernel
theorem dX9_together_56 : decode cX9_together 56 = .ok (.goto (-39), 3) := by decide +kernel
theorem dX9_together_59 : decode cX9_together 59 = .ok (.iload_n 1, 1) := by decide +kernel
theorem dX9_together_60 : decode cX9_together 60 = .ok (.iload 4, 2) := by decide +kernel
theorem dX9_together_62 : decode cX9_together 62 = .ok (.iconst (-1), 1) := by decide +kernel
theorem dX9_together_63 : decode cX9_together 63 = .ok (.ixor, 1) := by decide +kernel
theorem dX9_together_64 : decode cX9_together 64 = .ok (.iand, 1) := by decide +kernel
theorem dX9_together_65 : decode cX9_together 65 = .ok (.ifCond .ne 23, 3) := by decide +kernel
theorem dX9_together_68 : decode cX9_together 68 = .ok (.iload_n 2, 1) := by decide +kernel
theorem dX9_together_69 : decode cX9_together 69 = .ok (.iconst (-1), 1) := by decide +kernel
theorem dX9_together_70 : decode cX9_together 70 = .ok (.if_icmp .eq 14, 3) := by decide +kernel
theorem dX9_together_73 : decode cX9_together 73 = .ok (.iload_n 3, 1) := by decide +kernel
theorem dX9_together_74 : decode cX9_together 74 = .ok (.invokestatic 172, 3) := by decide +kernel
theorem dX9_together_77 : decode cX9_together 77 = .ok (.iload_n 2, 1) := by decide +kernel
theorem dX9_together_78 : decode cX9_together 78 = .ok (.invokestatic 172, 3) := by decide +kernel
theorem dX9_together_81 : decode cX9_together 81 = .ok (.if_icmp .ge 7, 3) := by decide +kernel
theorem dX9_together_84 : decode cX9_together 84 = .ok (.iload_n 3, 1) := by decide +kernel
theorem dX9_together_85 : decode cX9_together 85 = .ok (.goto 4, 3) := by decide +kernel
theorem dX9_together_88 : decode cX9_together 88 = .ok (.iload_n 2, 1) := by decide +kernel
theorem dX9_together_89 : decode cX9_together 89 = .ok (.istore_n 2, 1) := by decide +kernel
theorem dX9_together_90 : decode cX9_together 90 = .ok (.iinc 3 1, 3) := by decide +kernel
theorem dX9_together_93 : decode cX9_together 93 = .ok (.goto (-89), 3) := by decide +kernel
theorem dX9_together_96 : decode cX9_together 96 = .ok (.iload_n 2, 1) := by decide +kernel
theorem dX9_together_97 : decode cX9_together 97 = .ok (.ireturn, 1) := by decide +kernel
set_option maxRecDepth 20000 in
theorem ggX9_pawned_X9_in : GoodIn wsX9_pawned wsX9_in := goodIn_r _ [6] (by decide +kernel) (by decide +kernel)
set_option maxRecDepth 20000 in
theorem gX9_pawned_X9_in : GoodIn wsX9_pawned (va_wsS RX9 72 yX9_in wsX9_in) := goodIn_app (goodIn_of _ (by decide +kernel)) ggX9_pawned_X9_in
set_option maxRecDepth 20000 in
theorem ggX9_pawned_X9_bad : GoodIn wsX9_pawned wsX9_bad := goodIn_r _ [10, 11, 29, 30, 31, 32, 33, 34, 35, 36, 37, 38, 39, 40, 41, 42, 43, 44, 45, 46, 47, 48, 49, 50, 51, 52, 53, 54, 55] (by decide +kernel) (by decide +kernel)
set_option maxRecDepth 20000 in
theorem gX9_pawned_X9_bad : GoodIn wsX9_pawned (wsV RX9 126 RX9 yX9_bad wsX9_bad) := goodIn_app (goodIn_of _ (by decide +kernel)) ggX9_pawned_X9_bad
set_option maxRecDepth 20000 in
theorem ggX9_pawned_X9_partsOf : GoodIn wsX9_pawned wsX9_partsOf := goodIn_r _ [14, 15, 16, 5, 17, 18, 19, 20, 21] (by decide +kernel) (by decide +kernel)
set_option maxRecDepth 20000 in
theorem gX9_pawned_X9_partsOf : GoodIn wsX9_pawned (va_wsS RX9 190 yX9_partsOf wsX9_partsOf) := goodIn_app (goodIn_of _ (by decide +kernel)) ggX9_pawned_X9_partsOf
set_option maxRecDepth 20000 in
theorem ggX9_pawned_X9_together : GoodIn wsX9_pawned wsX9_together := goodIn_r _ [25, 2, 12, 13, 5, 14, 15, 16, 17, 18, 19, 20, 21, 26, 27, 28, 29, 30, 31, 32, 33, 34, 35, 36, 37, 38, 39, 40, 41, 42, 43, 44, 45, 46, 47, 48, 49, 50, 51, 52, 53, 54, 55] (by decide +kernel) (by decide +kernel)
set_option maxRecDepth 20000 in
theorem gX9_pawned_X9_together : GoodIn wsX9_pawned (wsV RX9 195 RX9 yX9_together wsX9_together) := goodIn_app (goodIn_of _ (by decide +kernel)) ggX9_pawned_X9_together
theorem dX9_pawned_0 : decode cX9_pawned 0 = .ok (.iload_n 1, 1) := by decide +kernel
theorem dX9_pawned_1 : decode cX9_pawned 1 = .ok (.i2l, 1) := by decide +kernel
theorem dX9_pawned_2 : decode cX9_pawned 2 = .ok (.lconst 0, 1) := by decide +kernel
theorem dX9_pawned_3 : decode cX9_pawned 3 = .ok (.ldc2_w 193, 3) := by decide +kernel
theorem dX9_pawned_6 : decode cX9_pawned 6 = .ok (.invokestatic 72, 3) := by decide +kernel
theorem dX9_pawned_9 : decode cX9_pawned 9 = .ok (.ifCond .eq 13, 3) := by decide +kernel
theorem dX9_pawned_12 : decode cX9_pawned 12 = .ok (.iload_n 2, 1) := by decide +kernel
theorem dX9_pawned_13 : decode cX9_pawned 13 = .ok (.i2l, 1) := by decide +kernel
theorem dX9_pawned_14 : decode cX9_pawned 14 = .ok (.lconst 0, 1) := by decide +kernel
theorem dX9_pawned_15 : decode cX9_pawned 15 = .ok (.lconst 1, 1) := by decide +kernel
theorem dX9_pawned_16 : decode cX9_pawned 16 = .ok (.invokestatic 72, 3) := by decide +kernel
theorem dX9_pawned_19 : decode cX9_pawned 19 = .ok (.ifCond .ne 10, 3) := by decide +kernel
theorem dX9_pawned_22 : decode cX9_pawned 22 = .ok (.aload_n 0, 1) := by decide +kernel
theorem dX9_pawned_23 : decode cX9_pawned 23 = .ok (.bipush (-2), 2) := by decide +kernel
theorem dX9_pawned_25 : decode cX9_pawned 25 = .ok (.invokevirtual 126, 3) := by decide +kernel
theorem dX9_pawned_28 : decode cX9_pawned 28 = .ok (.ireturn, 1) := by decide +kernel
theorem dX9_pawned_29 : decode cX9_pawned 29 = .ok (.iconst 0, 1) := by decide +kernel
theorem dX9_pawned_30 : decode cX9_pawned 30 = .ok (.istore_n 3, 1) := by decide +kernel
theorem dX9_pawned_31 : decode cX9_pawned 31 = .ok (.iconst 0, 1) := by decide +kernel
theorem dX9_pawned_32 : decode cX9_pawned 32 = .ok (.istore 4, 2) := by decide +kernel
theorem dX9_pawned_34 : decode cX9_pawned 34 = .ok (.iload 4, 2) := by decide +kernel
theorem dX9_pawned_36 : decode cX9_pawned 36 = .ok (.bipush 8, 2) := by decide +kernel
theorem dX9_pawned_38 : decode cX9_pawned 38 = .ok (.if_icmp .ge 47, 3) := by decide +kernel
theorem dX9_pawned_41 : decode cX9_pawned 41 = .ok (.iload_n 3, 1) := by decide +kernel
theorem dX9_pawned_42 : decode cX9_pawned 42 = .ok (.aload_n 0, 1) := by decide +kernel
theorem dX9_pawned_43 : decode cX9_pawned 43 = .ok (.getfield 7, 3) := by decide +kernel
theorem dX9_pawned_46 : decode cX9_pawned 46 = .ok (.iload 4, 2) := by decide +kernel
theorem dX9_pawned_48 : decode cX9_pawned 48 = .ok (.laload, 1) := by decide +kernel
theorem dX9_pawned_49 : decode cX9_pawned 49 = .ok (.lconst 0, 1) := by decide +kernel
theorem dX9_pawned_50 : decode cX9_pawned 50 = .ok (.lcmp, 1) := by decide +kernel
theorem dX9_pawned_51 : decode cX9_pawned 51 = .ok (.ifCond .eq 25, 3) := by decide +kernel
theorem dX9_pawned_54 : decode cX9_pawned 54 = .ok (.aload_n 0, 1) := by decide +kernel
theorem dX9_pawned_55 : decode cX9_pawned 55 = .ok (.getfield 7, 3) := by decide +kernel
theorem dX9_pawned_58 : decode cX9_pawned 58 = .ok (.iload 4, 2) := by decide +kernel
theorem dX9_pawned_60 : decode cX9_pawned 60 = .ok (.laload, 1) := by decide +kernel
theorem dX9_pawned_61 : decode cX9_pawned 61 = .ok (.invokestatic 190, 3) := by decide +kernel
theorem dX9_pawned_64 : decode cX9_pawned 64 = .ok (.iload_n 1, 1) := by decide +kernel
theorem dX9_pawned_65 : decode cX9_pawned 65 = .ok (.iand, 1) := by decide +kernel
theorem dX9_pawned_66 : decode cX9_pawned 66 = .ok (.ifCond .ne 10, 3) := by decide +kernel
theorem dX9_pawned_69 : decode cX9_pawned 69 = .ok (.iconst 1, 1) := by decide +kernel
theorem dX9_pawned_70 : decode cX9_pawned 70 = .ok (.iload 4, 2) := by decide +kernel
theorem dX9_pawned_72 : decode cX9_pawned 72 = .ok (.ishl, 1) := by decide +kernel
theorem dX9_pawned_73 : decode cX9_pawned 73 = .ok (.goto 4, 3) := by decide +kernel
theorem dX9_pawned_76 : decode cX9_pawned 76 = .ok (.iconst 0, 1) := by decide +kernel
theorem dX9_pawned_77 : decode cX9_pawned 77 = .ok (.ior, 1) := by decide +kernel
theorem dX9_pawned_78 : decode cX9_pawned 78 = .ok (.istore_n 3, 1) := by decide +kernel
theorem dX9_pawned_79 : decode cX9_pawned 79 = .ok (.iinc 4 1, 3) := by decide +kernel
theorem dX9_pawned_82 : decode cX9_pawned 82 = .ok (.goto (-48), 3) := by decide +kernel
theorem dX9_pawned_85 : decode cX9_pawned 85 = .ok (.iload_n 2, 1) := by decide +kernel
theorem dX9_pawned_86 : decode cX9_pawned 86 = .ok (.ifCond .ne 7, 3) := by decide +kernel
theorem dX9_pawned_89 : decode cX9_pawned 89 = .ok (.iload_n 3, 1) := by decide +kernel
theorem dX9_pawned_90 : decode cX9_pawned 90 = .ok (.goto 8, 3) := by decide +kernel
theorem dX9_pawned_93 : decode cX9_pawned 93 = .ok (.aload_n 0, 1) := by decide +kernel
theorem dX9_pawned_94 : decode cX9_pawned 94 = .ok (.iload_n 1, 1) := by decide +kernel
theorem dX9_pawned_95 : decode cX9_pawned 95 = .ok (.invokevirtual 195, 3) := by decide +kernel
theorem dX9_pawned_98 : decode cX9_pawned 98 = .ok (.ireturn, 1) := by decide +kernel
theorem dX9_choose_0 : decode cX9_choose 0 = .ok (.iload_n 1, 1) := by decide +kernel
theorem dX9_choose_1 : decode cX9_choose 1 = .ok (.ifCond .lt 8, 3) := by decide +kernel
theorem dX9_choose_4 : decode cX9_choose 4 = .ok (.iload_n 1, 1) := by decide +kernel
theorem dX9_choose_5 : decode cX9_choose 5 = .ok (.iload_n 0, 1) := by decide +kernel
theorem dX9_choose_6 : decode cX9_choose 6 = .ok (.if_icmp .le 7, 3) := by decide +kernel
theorem dX9_choose_9 : decode cX9_choose 9 = .ok (.lconst 0, 1) := by decide +kernel
theorem dX9_choose_10 : decode cX9_choose 10 = .ok (.goto 4, 3) := by decide +kernel
theorem dX9_choose_13 : decode cX9_choose 13 = .ok (.lconst 1, 1) := by decide +kernel
theorem dX9_choose_14 : decode cX9_choose 14 = .ok (.lstore_n 2, 1) := by decide +kernel
theorem dX9_choose_15 : decode cX9_choose 15 = .ok (.iconst 0, 1) := by decide +kernel
theorem dX9_choose_16 : decode cX9_choose 16 = .ok (.istore 4, 2) := by decide +kernel
theorem dX9_choose_18 : decode cX9_choose 18 = .ok (.iload 4, 2) := by decide +kernel
theorem dX9_choose_20 : decode cX9_choose 20 = .ok (.iload_n 1, 1) := by decide +kernel
theorem dX9_choose_21 : decode cX9_choose 21 = .ok (.if_icmp .ge 29, 3) := by decide +kernel
theorem dX9_choose_24 : decode cX9_choose 24 = .ok (.lload_n 2, 1) := by decide +kernel
theorem dX9_choose_25 : decode cX9_choose 25 = .ok (.lconst 0, 1) := by decide +kernel
theorem dX9_choose_26 : decode cX9_choose 26 = .ok (.lcmp, 1) := by decide +kernel
theorem dX9_choose_27 : decode cX9_choose 27 = .ok (.ifCond .le 23, 3) := by decide +kernel
theorem dX9_choose_30 : decode cX9_choose 30 = .ok (.lload_n 2, 1) := by decide +kernel
theorem dX9_choose_31 : decode cX9_choose 31 = .ok (.iload_n 0, 1) := by decide +kernel
theorem dX9_choose_32 : decode cX9_choose 32 = .ok (.iload 4, 2) := by decide +kernel
theorem dX9_choose_34 : decode cX9_choose 34 = .ok (.isub, 1) := by decide +kernel
theorem dX9_choose_35 : decode cX9_choose 35 = .ok (.i2l, 1) := by decide +kernel
theorem dX9_choose_36 : decode cX9_choose 36 = .ok (.lmul, 1) := by decide +kernel
theorem dX9_choose_37 : decode cX9_choose 37 = .ok (.iload 4, 2) := by decide +kernel
theorem dX9_choose_39 : decode cX9_choose 39 = .ok (.iconst 1, 1) := by decide +kernel
theorem dX9_choose_40 : decode cX9_choose 40 = .ok (.iadd, 1) := by decide +kernel
theorem dX9_choose_41 : decode cX9_choose 41 = .ok (.i2l, 1) := by decide +kernel
theorem dX9_choose_42 : decode cX9_choose 42 = .ok (.ldiv, 1) := by decide +kernel
theorem dX9_choose_43 : decode cX9_choose 43 = .ok (.lstore_n 2, 1) := by decide +kernel
theorem dX9_choose_44 : decode cX9_choose 44 = .ok (.iinc 4 1, 3) := by decide +kernel
theorem dX9_choose_47 : decode cX9_choose 47 = .ok (.goto (-29), 3) := by decide +kernel
theorem dX9_choose_50 : decode cX9_choose 50 = .ok (.lload_n 2, 1) := by decide +kernel
theorem dX9_choose_51 : decode cX9_choose 51 = .ok (.lreturn, 1) := by decide +kernel
theorem dX9_fraction_0 : decode cX9_fraction 0 = .ok (.lload_n 1, 1) := by decide +kernel
theorem dX9_fraction_1 : decode cX9_fraction 1 = .ok (.lstore 5, 2) := by decide +kernel
theorem dX9_fraction_3 : decode cX9_fraction 3 = .ok (.lload_n 3, 1) := by decide +kernel
theorem dX9_fraction_4 : decode cX9_fraction 4 = .ok (.lstore 7, 2) := by decide +kernel
theorem dX9_fraction_6 : decode cX9_fraction 6 = .ok (.lload 7, 2) := by decide +kernel
theorem dX9_fraction_8 : decode cX9_fraction 8 = .ok (.lconst 0, 1) := by decide +kernel
theorem dX9_fraction_9 : decode cX9_fraction 9 = .ok (.lcmp, 1) := by decide +kernel
theorem dX9_fraction_10 : decode cX9_fraction 10 = .ok (.ifCond .eq 21, 3) := by decide +kernel
theorem dX9_fraction_13 : decode cX9_fraction 13 = .ok (.lload 5, 2) := by decide +kernel
theorem dX9_fraction_15 : decode cX9_fraction 15 = .ok (.lload 7, 2) := by decide +kernel
theorem dX9_fraction_17 : decode cX9_fraction 17 = .ok (.lrem, 1) := by decide +kernel
theorem dX9_fraction_18 : decode cX9_fraction 18 = .ok (.lstore 9, 2) := by decide +kernel
theorem dX9_fraction_20 : decode cX9_fraction 20 = .ok (.lload 7, 2) := by decide +kernel
theorem dX9_fraction_22 : decode cX9_fraction 22 = .ok (.lstore 5, 2) := by decide +kernel
theorem dX9_fraction_24 : decode cX9_fraction 24 = .ok (.lload 9, 2) := by decide +kernel
theorem dX9_fraction_26 : decode cX9_fraction 26 = .ok (.lstore 7, 2) := by decide +kernel
theorem dX9_fraction_28 : decode cX9_fraction 28 = .ok (.goto (-22), 3) := by decide +kernel
theorem dX9_fraction_31 : decode cX9_fraction 31 = .ok (.aload_n 0, 1) := by decide +kernel
theorem dX9_fraction_32 : decode cX9_fraction 32 = .ok (.lload_n 1, 1) := by decide +kernel
theorem dX9_fraction_33 : decode cX9_fraction 33 = .ok (.lload 5, 2) := by decide +kernel
theorem dX9_fraction_35 : decode cX9_fraction 35 = .ok (.ldiv, 1) := by decide +kernel
theorem dX9_fraction_36 : decode cX9_fraction 36 = .ok (.putfield 198, 3) := by decide +kernel
theorem dX9_fraction_39 : decode cX9_fraction 39 = .ok (.aload_n 0, 1) := by decide +kernel
theorem dX9_fraction_40 : decode cX9_fraction 40 = .ok (.lload_n 3, 1) := by decide +kernel
theorem dX9_fraction_41 : decode cX9_fraction 41 = .ok (.lload 5, 2) := by decide +kernel
theorem dX9_fraction_43 : decode cX9_fraction 43 = .ok (.ldiv, 1) := by decide +kernel
theorem dX9_fraction_44 : decode cX9_fraction 44 = .ok (.putfield 48, 3) := by decide +kernel
theorem dX9_fraction_47 : decode cX9_fraction 47 = .ok (.return_, 1) := by decide +kernel
set_option maxRecDepth 20000 in
theorem ggX9_stays_X9_choose : GoodIn wsX9_stays wsX9_choose := goodIn_r _ [5] (by decide +kernel) (by decide +kernel)
set_option maxRecDepth 20000 in
theorem gX9_stays_X9_choose : GoodIn wsX9_stays (va_wsS RX9 203 yX9_choose wsX9_choose) := goodIn_app (goodIn_of _ (by decide +kernel)) ggX9_stays_X9_choose
theorem dX9_stays_0 : decode cX9_stays 0 = .ok (.ldc2_w 201, 3) := by decide +kernel
theorem dX9_stays_3 : decode cX9_stays 3 = .ok (.ldc2_w 201, 3) := by decide +kernel
theorem dX9_stays_6 : decode cX9_stays 6 = .ok (.iload_n 0, 1) := by decide +kernel
theorem dX9_stays_7 : decode cX9_stays 7 = .ok (.iload_n 1, 1) := by decide +kernel
theorem dX9_stays_8 : decode cX9_stays 8 = .ok (.isub, 1) := by decide +kernel
theorem dX9_stays_9 : decode cX9_stays 9 = .ok (.iload_n 2, 1) := by decide +kernel
theorem dX9_stays_10 : decode cX9_stays 10 = .ok (.iload_n 1, 1) := by decide +kernel
theorem dX9_stays_11 : decode cX9_stays 11 = .ok (.isub, 1) := by decide +kernel
theorem dX9_stays_12 : decode cX9_stays 12 = .ok (.invokestatic 203, 3) := by decide +kernel
theorem dX9_stays_15 : decode cX9_stays 15 = .ok (.lmul, 1) := by decide +kernel
theorem dX9_stays_16 : decode cX9_stays 16 = .ok (.iload_n 0, 1) := by decide +kernel
theorem dX9_stays_17 : decode cX9_stays 17 = .ok (.iload_n 2, 1) := by decide +kernel
theorem dX9_stays_18 : decode cX9_stays 18 = .ok (.invokestatic 203, 3) := by decide +kernel
theorem dX9_stays_21 : decode cX9_stays 21 = .ok (.ldiv, 1) := by decide +kernel
theorem dX9_stays_22 : decode cX9_stays 22 = .ok (.lsub, 1) := by decide +kernel
theorem dX9_stays_23 : decode cX9_stays 23 = .ok (.lreturn, 1) := by decide +kernel
set_option maxRecDepth 20000 in
theorem ggX9_odds_X9_isBranch : GoodIn wsX9_odds wsX9_isBranch := goodIn_r _ [8, 9, 10, 11, 7, 12] (by decide +kernel) (by decide +kernel)
set_option maxRecDepth 20000 in
theorem gX9_odds_X9_isBranch : GoodIn wsX9_odds (va_wsS RX9 139 yX9_isBranch wsX9_isBranch) := goodIn_app (goodIn_of _ (by decide +kernel)) ggX9_odds_X9_isBranch
set_option maxRecDepth 20000 in
theorem ggX9_odds_X9_isPart : GoodIn wsX9_odds wsX9_isPart := goodIn_r _ [15, 16, 10, 11, 7, 12] (by decide +kernel) (by decide +kernel)
set_option maxRecDepth 20000 in
theorem gX9_odds_X9_isPart : GoodIn wsX9_odds (va_wsS RX9 122 yX9_isPart wsX9_isPart) := goodIn_app (goodIn_of _ (by decide +kernel)) ggX9_odds_X9_isPart
set_option maxRecDepth 20000 in
theorem ggX9_odds_X9_in : GoodIn wsX9_odds wsX9_in := goodIn_r _ [12] (by decide +kernel) (by decide +kernel)
set_option maxRecDepth 20000 in
theorem gX9_odds_X9_in : GoodIn wsX9_odds (va_wsS RX9 72 yX9_in wsX9_in) := goodIn_app (goodIn_of _ (by decide +kernel)) ggX9_odds_X9_in
set_option maxRecDepth 20000 in
theorem ggX9_odds_X9_bad : GoodIn wsX9_odds wsX9_bad := goodIn_r _ [20, 21, 44, 45, 46, 47, 48, 49, 50, 51, 52, 53, 54, 55, 56, 57, 58, 59, 60, 61, 62, 63, 64, 65, 66, 67, 68, 69, 70] (by decide +kernel) (by decide +kernel)
set_option maxRecDepth 20000 in
theorem gX9_odds_X9_bad : GoodIn wsX9_odds (wsV RX9 126 RX9 yX9_bad wsX9_bad) := goodIn_app (goodIn_of _ (by decide +kernel)) ggX9_odds_X9_bad
set_option maxRecDepth 20000 in
theorem ggX9_odds_X9_many : GoodIn wsX9_odds wsX9_many := goodIn_r _ [24] (by decide +kernel) (by decide +kernel)
set_option maxRecDepth 20000 in
theorem gX9_odds_X9_many : GoodIn wsX9_odds (va_wsS RX9 82 yX9_many wsX9_many) := goodIn_app (goodIn_of _ (by decide +kernel)) ggX9_odds_X9_many
set_option maxRecDepth 20000 in
theorem ggX9_odds_X9_partOf : GoodIn wsX9_odds wsX9_partOf := goodIn_r _ [27, 28] (by decide +kernel) (by decide +kernel)
set_option maxRecDepth 20000 in
theorem gX9_odds_X9_partOf : GoodIn wsX9_odds (va_wsS RX9 86 yX9_partOf wsX9_partOf) := goodIn_app (goodIn_of _ (by decide +kernel)) ggX9_odds_X9_partOf
set_option maxRecDepth 20000 in
theorem ggX9_odds_X9_choose : GoodIn wsX9_odds wsX9_choose := goodIn_r _ [31] (by decide +kernel) (by decide +kernel)
set_option maxRecDepth 20000 in
theorem gX9_odds_X9_choose : GoodIn wsX9_odds (va_wsS RX9 203 yX9_choose wsX9_choose) := goodIn_app (goodIn_of _ (by decide +kernel)) ggX9_odds_X9_choose
set_option maxRecDepth 20000 in
theorem ggX9_odds_X9_least : GoodIn wsX9_odds wsX9_least := goodIn_r _ [34] (by decide +kernel) (by decide +kernel)
set_option maxRecDepth 20000 in
theorem gX9_odds_X9_least : GoodIn wsX9_odds (va_wsS RX9 159 yX9_least wsX9_least) := goodIn_app (goodIn_of _ (by decide +kernel)) ggX9_odds_X9_least
set_option maxRecDepth 20000 in
theorem ggX9_odds_X9_stays : GoodIn wsX9_odds wsX9_stays := goodIn_r _ [37, 4, 29, 30, 7, 31] (by decide +kernel) (by decide +kernel)
set_option maxRecDepth 20000 in
theorem gX9_odds_X9_stays : GoodIn wsX9_odds (va_wsS RX9 209 yX9_stays wsX9_stays) := goodIn_app (goodIn_of _ (by decide +kernel)) ggX9_odds_X9_stays
set_option maxRecDepth 20000 in
theorem ggX9_odds_X9_fraction : GoodIn wsX9_odds wsX9_fraction := goodIn_r _ [41, 42, 43, 44, 45, 46, 47, 48, 49, 50, 51, 52, 53, 54, 55, 56, 57, 58, 59, 60, 61, 62, 63, 64, 65, 66, 67, 68, 69, 70] (by decide +kernel) (by decide +kernel)
set_option maxRecDepth 20000 in
theorem gX9_odds_X9_fraction : GoodIn wsX9_odds (wsV RX9 213 RX9 yX9_fraction wsX9_fraction) := goodIn_app (goodIn_of _ (by decide +kernel)) ggX9_odds_X9_fraction
theorem dX9_odds_0 : decode cX9_odds 0 = .ok (.iload_n 1, 1) := by decide +kernel
theorem dX9_odds_1 : decode cX9_odds 1 = .ok (.invokestatic 139, 3) := by decide +kernel
theorem dX9_odds_4 : decode cX9_odds 4 = .ok (.ifCond .eq 35, 3) := by decide +kernel
theorem dX9_odds_7 : decode cX9_odds 7 = .ok (.iload_n 2, 1) := by decide +kernel
theorem dX9_odds_8 : decode cX9_odds 8 = .ok (.invokestatic 122, 3) := by decide +kernel
theorem dX9_odds_11 : decode cX9_odds 11 = .ok (.ifCond .eq 28, 3) := by decide +kernel
theorem dX9_odds_14 : decode cX9_odds 14 = .ok (.iload_n 3, 1) := by decide +kernel
theorem dX9_odds_15 : decode cX9_odds 15 = .ok (.i2l, 1) := by decide +kernel
theorem dX9_odds_16 : decode cX9_odds 16 = .ok (.lconst 0, 1) := by decide +kernel
theorem dX9_odds_17 : decode cX9_odds 17 = .ok (.ldc2_w 187, 3) := by decide +kernel
theorem dX9_odds_20 : decode cX9_odds 20 = .ok (.invokestatic 72, 3) := by decide +kernel
theorem dX9_odds_23 : decode cX9_odds 23 = .ok (.ifCond .eq 16, 3) := by decide +kernel
theorem dX9_odds_26 : decode cX9_odds 26 = .ok (.iload 4, 2) := by decide +kernel
theorem dX9_odds_28 : decode cX9_odds 28 = .ok (.i2l, 1) := by decide +kernel
theorem dX9_odds_29 : decode cX9_odds 29 = .ok (.lconst 0, 1) := by decide +kernel
theorem dX9_odds_30 : decode cX9_odds 30 = .ok (.ldc2_w 207, 3) := by decide +kernel
theorem dX9_odds_33 : decode cX9_odds 33 = .ok (.invokestatic 72, 3) := by decide +kernel
theorem dX9_odds_36 : decode cX9_odds 36 = .ok (.ifCond .ne 10, 3) := by decide +kernel
theorem dX9_odds_39 : decode cX9_odds 39 = .ok (.aload_n 0, 1) := by decide +kernel
theorem dX9_odds_40 : decode cX9_odds 40 = .ok (.bipush (-2), 2) := by decide +kernel
theorem dX9_odds_42 : decode cX9_odds 42 = .ok (.invokevirtual 126, 3) := by decide +kernel
theorem dX9_odds_45 : decode cX9_odds 45 = .ok (.ireturn, 1) := by decide +kernel
theorem dX9_odds_46 : decode cX9_odds 46 = .ok (.aload_n 0, 1) := by decide +kernel
theorem dX9_odds_47 : decode cX9_odds 47 = .ok (.getfield 7, 3) := by decide +kernel
theorem dX9_odds_50 : decode cX9_odds 50 = .ok (.iload_n 1, 1) := by decide +kernel
theorem dX9_odds_51 : decode cX9_odds 51 = .ok (.laload, 1) := by decide +kernel
theorem dX9_odds_52 : decode cX9_odds 52 = .ok (.invokestatic 82, 3) := by decide +kernel
theorem dX9_odds_55 : decode cX9_odds 55 = .ok (.istore 5, 2) := by decide +kernel
theorem dX9_odds_57 : decode cX9_odds 57 = .ok (.iconst 0, 1) := by decide +kernel
theorem dX9_odds_58 : decode cX9_odds 58 = .ok (.istore 6, 2) := by decide +kernel
theorem dX9_odds_60 : decode cX9_odds 60 = .ok (.iconst 0, 1) := by decide +kernel
theorem dX9_odds_61 : decode cX9_odds 61 = .ok (.istore 7, 2) := by decide +kernel
theorem dX9_odds_63 : decode cX9_odds 63 = .ok (.iload 7, 2) := by decide +kernel
theorem dX9_odds_65 : decode cX9_odds 65 = .ok (.iload 5, 2) := by decide +kernel
theorem dX9_odds_67 : decode cX9_odds 67 = .ok (.if_icmp .ge 34, 3) := by decide +kernel
theorem dX9_odds_70 : decode cX9_odds 70 = .ok (.iload 6, 2) := by decide +kernel
theorem dX9_odds_72 : decode cX9_odds 72 = .ok (.aload_n 0, 1) := by decide +kernel
theorem dX9_odds_73 : decode cX9_odds 73 = .ok (.getfield 7, 3) := by decide +kernel
theorem dX9_odds_76 : decode cX9_odds 76 = .ok (.iload_n 1, 1) := by decide +kernel
theorem dX9_odds_77 : decode cX9_odds 77 = .ok (.laload, 1) := by decide +kernel
theorem dX9_odds_78 : decode cX9_odds 78 = .ok (.iload 7, 2) := by decide +kernel
theorem dX9_odds_80 : decode cX9_odds 80 = .ok (.invokestatic 86, 3) := by decide +kernel
theorem dX9_odds_83 : decode cX9_odds 83 = .ok (.iload_n 2, 1) := by decide +kernel
theorem dX9_odds_84 : decode cX9_odds 84 = .ok (.if_icmp .ne 7, 3) := by decide +kernel
theorem dX9_odds_87 : decode cX9_odds 87 = .ok (.iconst 1, 1) := by decide +kernel
theorem dX9_odds_88 : decode cX9_odds 88 = .ok (.goto 4, 3) := by decide +kernel
theorem dX9_odds_91 : decode cX9_odds 91 = .ok (.iconst 0, 1) := by decide +kernel
theorem dX9_odds_92 : decode cX9_odds 92 = .ok (.iadd, 1) := by decide +kernel
theorem dX9_odds_93 : decode cX9_odds 93 = .ok (.istore 6, 2) := by decide +kernel
theorem dX9_odds_95 : decode cX9_odds 95 = .ok (.iinc 7 1, 3) := by decide +kernel
theorem dX9_odds_98 : decode cX9_odds 98 = .ok (.goto (-35), 3) := by decide +kernel
theorem dX9_odds_101 : decode cX9_odds 101 = .ok (.lconst 0, 1) := by decide +kernel
theorem dX9_odds_102 : decode cX9_odds 102 = .ok (.lstore 7, 2) := by decide +kernel
theorem dX9_odds_104 : decode cX9_odds 104 = .ok (.ldc2_w 201, 3) := by decide +kernel
theorem dX9_odds_107 : decode cX9_odds 107 = .ok (.lstore 9, 2) := by decide +kernel
theorem dX9_odds_109 : decode cX9_odds 109 = .ok (.iconst 0, 1) := by decide +kernel
theorem dX9_odds_110 : decode cX9_odds 110 = .ok (.istore 11, 2) := by decide +kernel
theorem dX9_odds_112 : decode cX9_odds 112 = .ok (.iload 11, 2) := by decide +kernel
theorem dX9_odds_114 : decode cX9_odds 114 = .ok (.iload_n 3, 1) := by decide +kernel
theorem dX9_odds_115 : decode cX9_odds 115 = .ok (.if_icmp .ge 17, 3) := by decide +kernel
theorem dX9_odds_118 : decode cX9_odds 118 = .ok (.lload 9, 2) := by decide +kernel
theorem dX9_odds_120 : decode cX9_odds 120 = .ok (.ldc2_w 207, 3) := by decide +kernel
theorem dX9_odds_123 : decode cX9_odds 123 = .ok (.lmul, 1) := by decide +kernel
theorem dX9_odds_124 : decode cX9_odds 124 = .ok (.lstore 9, 2) := by decide +kernel
theorem dX9_odds_126 : decode cX9_odds 126 = .ok (.iinc 11 1, 3) := by decide +kernel
theorem dX9_odds_129 : decode cX9_odds 129 = .ok (.goto (-17), 3) := by decide +kernel
theorem dX9_odds_132 : decode cX9_odds 132 = .ok (.iconst 0, 1) := by decide +kernel
theorem dX9_odds_133 : decode cX9_odds 133 = .ok (.istore 11, 2) := by decide +kernel
theorem dX9_odds_135 : decode cX9_odds 135 = .ok (.iload 11, 2) := by decide +kernel
theorem dX9_odds_137 : decode cX9_odds 137 = .ok (.iload_n 3, 1) := by decide +kernel
theorem dX9_odds_138 : decode cX9_odds 138 = .ok (.if_icmp .gt 87, 3) := by decide +kernel
theorem dX9_odds_141 : decode cX9_odds 141 = .ok (.iload_n 3, 1) := by decide +kernel
theorem dX9_odds_142 : decode cX9_odds 142 = .ok (.iload 11, 2) := by decide +kernel
theorem dX9_odds_144 : decode cX9_odds 144 = .ok (.invokestatic 203, 3) := by decide +kernel
theorem dX9_odds_147 : decode cX9_odds 147 = .ok (.lstore 12, 2) := by decide +kernel
theorem dX9_odds_149 : decode cX9_odds 149 = .ok (.iconst 0, 1) := by decide +kernel
theorem dX9_odds_150 : decode cX9_odds 150 = .ok (.istore 14, 2) := by decide +kernel
theorem dX9_odds_152 : decode cX9_odds 152 = .ok (.iload 14, 2) := by decide +kernel
theorem dX9_odds_154 : decode cX9_odds 154 = .ok (.iload_n 3, 1) := by decide +kernel
theorem dX9_odds_155 : decode cX9_odds 155 = .ok (.if_icmp .ge 33, 3) := by decide +kernel
theorem dX9_odds_158 : decode cX9_odds 158 = .ok (.lload 12, 2) := by decide +kernel
theorem dX9_odds_160 : decode cX9_odds 160 = .ok (.iload 14, 2) := by decide +kernel
theorem dX9_odds_162 : decode cX9_odds 162 = .ok (.iload 11, 2) := by decide +kernel
theorem dX9_odds_164 : decode cX9_odds 164 = .ok (.if_icmp .ge 9, 3) := by decide +kernel
theorem dX9_odds_167 : decode cX9_odds 167 = .ok (.iload 4, 2) := by decide +kernel
theorem dX9_odds_169 : decode cX9_odds 169 = .ok (.i2l, 1) := by decide +kernel
theorem dX9_odds_170 : decode cX9_odds 170 = .ok (.goto 9, 3) := by decide +kernel
theorem dX9_odds_173 : decode cX9_odds 173 = .ok (.bipush 10, 2) := by decide +kernel
theorem dX9_odds_175 : decode cX9_odds 175 = .ok (.iload 4, 2) := by decide +kernel
theorem dX9_odds_177 : decode cX9_odds 177 = .ok (.isub, 1) := by decide +kernel
theorem dX9_odds_178 : decode cX9_odds 178 = .ok (.i2l, 1) := by decide +kernel
theorem dX9_odds_179 : decode cX9_odds 179 = .ok (.lmul, 1) := by decide +kernel
theorem dX9_odds_180 : decode cX9_odds 180 = .ok (.lstore 12, 2) := by decide +kernel
theorem dX9_odds_182 : decode cX9_odds 182 = .ok (.iinc 14 1, 3) := by decide +kernel
theorem dX9_odds_185 : decode cX9_odds 185 = .ok (.goto (-33), 3) := by decide +kernel
theorem dX9_odds_188 : decode cX9_odds 188 = .ok (.lload 7, 2) := by decide +kernel
theorem dX9_odds_190 : decode cX9_odds 190 = .ok (.iload 6, 2) := by decide +kernel
theorem dX9_odds_192 : decode cX9_odds 192 = .ok (.ifCond .ne 7, 3) := by decide +kernel
theorem dX9_odds_195 : decode cX9_odds 195 = .ok (.lconst 0, 1) := by decide +kernel
theorem dX9_odds_196 : decode cX9_odds 196 = .ok (.goto 20, 3) := by decide +kernel
theorem dX9_odds_199 : decode cX9_odds 199 = .ok (.lload 12, 2) := by decide +kernel
theorem dX9_odds_201 : decode cX9_odds 201 = .ok (.iload 5, 2) := by decide +kernel
theorem dX9_odds_203 : decode cX9_odds 203 = .ok (.iload 6, 2) := by decide +kernel
theorem dX9_odds_205 : decode cX9_odds 205 = .ok (.iload 11, 2) := by decide +kernel
theorem dX9_odds_207 : decode cX9_odds 207 = .ok (.iload 5, 2) := by decide +kernel
theorem dX9_odds_209 : decode cX9_odds 209 = .ok (.invokestatic 159, 3) := by decide +kernel
theorem dX9_odds_212 : decode cX9_odds 212 = .ok (.invokestatic 209, 3) := by decide +kernel
theorem dX9_odds_215 : decode cX9_odds 215 = .ok (.lmul, 1) := by decide +kernel
theorem dX9_odds_216 : decode cX9_odds 216 = .ok (.ladd, 1) := by decide +kernel
theorem dX9_odds_217 : decode cX9_odds 217 = .ok (.lstore 7, 2) := by decide +kernel
theorem dX9_odds_219 : decode cX9_odds 219 = .ok (.iinc 11 1, 3) := by decide +kernel
theorem dX9_odds_222 : decode cX9_odds 222 = .ok (.goto (-87), 3) := by decide +kernel
theorem dX9_odds_225 : decode cX9_odds 225 = .ok (.aload_n 0, 1) := by decide +kernel
theorem dX9_odds_226 : decode cX9_odds 226 = .ok (.lload 7, 2) := by decide +kernel
theorem dX9_odds_228 : decode cX9_odds 228 = .ok (.lload 9, 2) := by decide +kernel
theorem dX9_odds_230 : decode cX9_odds 230 = .ok (.invokevirtual 213, 3) := by decide +kernel
theorem dX9_odds_233 : decode cX9_odds 233 = .ok (.iconst 1, 1) := by decide +kernel
theorem dX9_odds_234 : decode cX9_odds 234 = .ok (.ireturn, 1) := by decide +kernel
theorem dX9_draw_0 : decode cX9_draw 0 = .ok (.aload_n 0, 1) := by decide +kernel
theorem dX9_draw_1 : decode cX9_draw 1 = .ok (.aload_n 0, 1) := by decide +kernel
theorem dX9_draw_2 : decode cX9_draw 2 = .ok (.getfield 217, 3) := by decide +kernel
theorem dX9_draw_5 : decode cX9_draw 5 = .ok (.ldc2_w 220, 3) := by decide +kernel
theorem dX9_draw_8 : decode cX9_draw 8 = .ok (.lmul, 1) := by decide +kernel
theorem dX9_draw_9 : decode cX9_draw 9 = .ok (.ldc2_w 222, 3) := by decide +kernel
theorem dX9_draw_12 : decode cX9_draw 12 = .ok (.ladd, 1) := by decide +kernel
theorem dX9_draw_13 : decode cX9_draw 13 = .ok (.ldc2_w 224, 3) := by decide +kernel
theorem dX9_draw_16 : decode cX9_draw 16 = .ok (.lrem, 1) := by decide +kernel
theorem dX9_draw_17 : decode cX9_draw 17 = .ok (.putfield 217, 3) := by decide +kernel
theorem dX9_draw_20 : decode cX9_draw 20 = .ok (.aload_n 0, 1) := by decide +kernel
theorem dX9_draw_21 : decode cX9_draw 21 = .ok (.getfield 217, 3) := by decide +kernel
theorem dX9_draw_24 : decode cX9_draw 24 = .ok (.ldc2_w 226, 3) := by decide +kernel
theorem dX9_draw_27 : decode cX9_draw 27 = .ok (.ldiv, 1) := by decide +kernel
theorem dX9_draw_28 : decode cX9_draw 28 = .ok (.iload_n 1, 1) := by decide +kernel
theorem dX9_draw_29 : decode cX9_draw 29 = .ok (.i2l, 1) := by decide +kernel
theorem dX9_draw_30 : decode cX9_draw 30 = .ok (.lrem, 1) := by decide +kernel
theorem dX9_draw_31 : decode cX9_draw 31 = .ok (.l2i, 1) := by decide +kernel
theorem dX9_draw_32 : decode cX9_draw 32 = .ok (.ireturn, 1) := by decide +kernel
set_option maxRecDepth 20000 in
theorem ggX9_centuries_X9_isBranch : GoodIn wsX9_centuries wsX9_isBranch := goodIn_r _ [8, 9, 10, 11, 7, 12] (by decide +kernel) (by decide +kernel)
set_option maxRecDepth 20000 in
theorem gX9_centuries_X9_isBranch : GoodIn wsX9_centuries (va_wsS RX9 139 yX9_isBranch wsX9_isBranch) := goodIn_app (goodIn_of _ (by decide +kernel)) ggX9_centuries_X9_isBranch
set_option maxRecDepth 20000 in
theorem ggX9_centuries_X9_in : GoodIn wsX9_centuries wsX9_in := goodIn_r _ [12] (by decide +kernel) (by decide +kernel)
set_option maxRecDepth 20000 in
theorem gX9_centuries_X9_in : GoodIn wsX9_centuries (va_wsS RX9 72 yX9_in wsX9_in) := goodIn_app (goodIn_of _ (by decide +kernel)) ggX9_centuries_X9_in
set_option maxRecDepth 20000 in
theorem ggX9_centuries_X9_bad : GoodIn wsX9_centuries wsX9_bad := goodIn_r _ [16, 17, 55, 56, 57, 58, 59, 60, 61, 62, 63, 64, 65, 66, 67, 68, 69, 70, 71, 72, 73, 74, 75, 76, 77, 78, 79, 80, 81] (by decide +kernel) (by decide +kernel)
set_option maxRecDepth 20000 in
theorem gX9_centuries_X9_bad : GoodIn wsX9_centuries (wsV RX9 126 RX9 yX9_bad wsX9_bad) := goodIn_app (goodIn_of _ (by decide +kernel)) ggX9_centuries_X9_bad
set_option maxRecDepth 20000 in
theorem ggX9_centuries_X9_has : GoodIn wsX9_centuries wsX9_has := goodIn_r _ [20, 21, 22, 7, 23, 24, 25, 26, 27] (by decide +kernel) (by decide +kernel)
set_option maxRecDepth 20000 in
theorem gX9_centuries_X9_has : GoodIn wsX9_centuries (va_wsS RX9 107 yX9_has wsX9_has) := goodIn_app (goodIn_of _ (by decide +kernel)) ggX9_centuries_X9_has
set_option maxRecDepth 20000 in
theorem ggX9_centuries_X9_draw : GoodIn wsX9_centuries wsX9_draw := goodIn_r _ [31, 4, 32, 33, 34, 35, 55, 56, 57, 58, 59, 60, 61, 62, 63, 64, 65, 66, 67, 68, 69, 70, 71, 72, 73, 74, 75, 76, 77, 78, 79, 80, 81] (by decide +kernel) (by decide +kernel)
set_option maxRecDepth 20000 in
theorem gX9_centuries_X9_draw : GoodIn wsX9_centuries (wsV RX9 232 RX9 yX9_draw wsX9_draw) := goodIn_app (goodIn_of _ (by decide +kernel)) ggX9_centuries_X9_draw
set_option maxRecDepth 20000 in
theorem ggX9_centuries_X9_slips : GoodIn wsX9_centuries wsX9_slips := goodIn_r _ [38, 39, 40, 7, 41, 21, 22, 23, 24, 25, 26, 27, 42, 43, 44, 45, 46, 47, 48, 49, 50, 51, 52, 53, 54, 18, 19, 20] (by decide +kernel) (by decide +kernel)
set_option maxRecDepth 20000 in
theorem gX9_centuries_X9_slips : GoodIn wsX9_centuries (va_wsS RX9 155 yX9_slips wsX9_slips) := goodIn_app (goodIn_of _ (by decide +kernel)) ggX9_centuries_X9_slips
theorem dX9_centuries_0 : decode cX9_centuries 0 = .ok (.iload_n 1, 1) := by decide +kernel
theorem dX9_centuries_1 : decode cX9_centuries 1 = .ok (.invokestatic 139, 3) := by decide +kernel
theorem dX9_centuries_4 : decode cX9_centuries 4 = .ok (.ifCond .eq 27, 3) := by decide +kernel
theorem dX9_centuries_7 : decode cX9_centuries 7 = .ok (.iload_n 2, 1) := by decide +kernel
theorem dX9_centuries_8 : decode cX9_centuries 8 = .ok (.i2l, 1) := by decide +kernel
theorem dX9_centuries_9 : decode cX9_centuries 9 = .ok (.lconst 0, 1) := by decide +kernel
theorem dX9_centuries_10 : decode cX9_centuries 10 = .ok (.ldc2_w 228, 3) := by decide +kernel
theorem dX9_centuries_13 : decode cX9_centuries 13 = .ok (.invokestatic 72, 3) := by decide +kernel
theorem dX9_centuries_16 : decode cX9_centuries 16 = .ok (.ifCond .eq 15, 3) := by decide +kernel
theorem dX9_centuries_19 : decode cX9_centuries 19 = .ok (.iload_n 3, 1) := by decide +kernel
theorem dX9_centuries_20 : decode cX9_centuries 20 = .ok (.i2l, 1) := by decide +kernel
theorem dX9_centuries_21 : decode cX9_centuries 21 = .ok (.lconst 0, 1) := by decide +kernel
theorem dX9_centuries_22 : decode cX9_centuries 22 = .ok (.ldc2_w 230, 3) := by decide +kernel
theorem dX9_centuries_25 : decode cX9_centuries 25 = .ok (.invokestatic 72, 3) := by decide +kernel
theorem dX9_centuries_28 : decode cX9_centuries 28 = .ok (.ifCond .ne 10, 3) := by decide +kernel
theorem dX9_centuries_31 : decode cX9_centuries 31 = .ok (.aload_n 0, 1) := by decide +kernel
theorem dX9_centuries_32 : decode cX9_centuries 32 = .ok (.bipush (-2), 2) := by decide +kernel
theorem dX9_centuries_34 : decode cX9_centuries 34 = .ok (.invokevirtual 126, 3) := by decide +kernel
theorem dX9_centuries_37 : decode cX9_centuries 37 = .ok (.ireturn, 1) := by decide +kernel
theorem dX9_centuries_38 : decode cX9_centuries 38 = .ok (.aload_n 0, 1) := by decide +kernel
theorem dX9_centuries_39 : decode cX9_centuries 39 = .ok (.getfield 7, 3) := by decide +kernel
theorem dX9_centuries_42 : decode cX9_centuries 42 = .ok (.iload_n 1, 1) := by decide +kernel
theorem dX9_centuries_43 : decode cX9_centuries 43 = .ok (.laload, 1) := by decide +kernel
theorem dX9_centuries_44 : decode cX9_centuries 44 = .ok (.lstore 4, 2) := by decide +kernel
theorem dX9_centuries_46 : decode cX9_centuries 46 = .ok (.aload_n 0, 1) := by decide +kernel
theorem dX9_centuries_47 : decode cX9_centuries 47 = .ok (.iload_n 2, 1) := by decide +kernel
theorem dX9_centuries_48 : decode cX9_centuries 48 = .ok (.i2l, 1) := by decide +kernel
theorem dX9_centuries_49 : decode cX9_centuries 49 = .ok (.putfield 217, 3) := by decide +kernel
theorem dX9_centuries_52 : decode cX9_centuries 52 = .ok (.iconst 0, 1) := by decide +kernel
theorem dX9_centuries_53 : decode cX9_centuries 53 = .ok (.istore 6, 2) := by decide +kernel
theorem dX9_centuries_55 : decode cX9_centuries 55 = .ok (.iload 6, 2) := by decide +kernel
theorem dX9_centuries_57 : decode cX9_centuries 57 = .ok (.iload_n 3, 1) := by decide +kernel
theorem dX9_centuries_58 : decode cX9_centuries 58 = .ok (.if_icmp .gt 59, 3) := by decide +kernel
theorem dX9_centuries_61 : decode cX9_centuries 61 = .ok (.lload 4, 2) := by decide +kernel
theorem dX9_centuries_63 : decode cX9_centuries 63 = .ok (.bipush 7, 2) := by decide +kernel
theorem dX9_centuries_65 : decode cX9_centuries 65 = .ok (.invokestatic 107, 3) := by decide +kernel
theorem dX9_centuries_68 : decode cX9_centuries 68 = .ok (.ifCond .ne 6, 3) := by decide +kernel
theorem dX9_centuries_71 : decode cX9_centuries 71 = .ok (.iload 6, 2) := by decide +kernel
theorem dX9_centuries_73 : decode cX9_centuries 73 = .ok (.ireturn, 1) := by decide +kernel
theorem dX9_centuries_74 : decode cX9_centuries 74 = .ok (.aload_n 0, 1) := by decide +kernel
theorem dX9_centuries_75 : decode cX9_centuries 75 = .ok (.bipush 6, 2) := by decide +kernel
theorem dX9_centuries_77 : decode cX9_centuries 77 = .ok (.invokevirtual 232, 3) := by decide +kernel
theorem dX9_centuries_80 : decode cX9_centuries 80 = .ok (.istore 7, 2) := by decide +kernel
theorem dX9_centuries_82 : decode cX9_centuries 82 = .ok (.aload_n 0, 1) := by decide +kernel
theorem dX9_centuries_83 : decode cX9_centuries 83 = .ok (.bipush 10, 2) := by decide +kernel
theorem dX9_centuries_85 : decode cX9_centuries 85 = .ok (.invokevirtual 232, 3) := by decide +kernel
theorem dX9_centuries_88 : decode cX9_centuries 88 = .ok (.istore 8, 2) := by decide +kernel
theorem dX9_centuries_90 : decode cX9_centuries 90 = .ok (.aload_n 0, 1) := by decide +kernel
theorem dX9_centuries_91 : decode cX9_centuries 91 = .ok (.bipush 10, 2) := by decide +kernel
theorem dX9_centuries_93 : decode cX9_centuries 93 = .ok (.invokevirtual 232, 3) := by decide +kernel
theorem dX9_centuries_96 : decode cX9_centuries 96 = .ok (.istore 9, 2) := by decide +kernel
theorem dX9_centuries_98 : decode cX9_centuries 98 = .ok (.iload 7, 2) := by decide +kernel
theorem dX9_centuries_100 : decode cX9_centuries 100 = .ok (.iload 8, 2) := by decide +kernel
theorem dX9_centuries_102 : decode cX9_centuries 102 = .ok (.iload 9, 2) := by decide +kernel
theorem dX9_centuries_104 : decode cX9_centuries 104 = .ok (.lload 4, 2) := by decide +kernel
theorem dX9_centuries_106 : decode cX9_centuries 106 = .ok (.invokestatic 155, 3) := by decide +kernel
theorem dX9_centuries_109 : decode cX9_centuries 109 = .ok (.lstore 4, 2) := by decide +kernel
theorem dX9_centuries_111 : decode cX9_centuries 111 = .ok (.iinc 6 1, 3) := by decide +kernel
theorem dX9_centuries_114 : decode cX9_centuries 114 = .ok (.goto (-59), 3) := by decide +kernel
theorem dX9_centuries_117 : decode cX9_centuries 117 = .ok (.iconst (-1), 1) := by decide +kernel
theorem dX9_centuries_118 : decode cX9_centuries 118 = .ok (.ireturn, 1) := by decide +kernel
set_option maxRecDepth 20000 in
theorem ggX9_type_X9_in : GoodIn wsX9_type wsX9_in := goodIn_r _ [7] (by decide +kernel) (by decide +kernel)
set_option maxRecDepth 20000 in
theorem gX9_type_X9_in : GoodIn wsX9_type (va_wsS RX9 72 yX9_in wsX9_in) := goodIn_app (goodIn_of _ (by decide +kernel)) ggX9_type_X9_in
set_option maxRecDepth 20000 in
theorem ggX9_type_X9_bad : GoodIn wsX9_type wsX9_bad := goodIn_r _ [11, 12, 17, 18, 19, 20, 21, 22, 23, 24, 25, 26, 27, 28, 29, 30, 31, 32, 33, 34, 35, 36, 37, 38, 39, 40, 41, 42, 43] (by decide +kernel) (by decide +kernel)
set_option maxRecDepth 20000 in
theorem gX9_type_X9_bad : GoodIn wsX9_type (wsV RX9 126 RX9 yX9_bad wsX9_bad) := goodIn_app (goodIn_of _ (by decide +kernel)) ggX9_type_X9_bad
set_option maxRecDepth 20000 in
theorem ggX9_type_X9_full : GoodIn wsX9_type wsX9_full := goodIn_r _ [16, 12, 17, 18, 19, 20, 21, 22, 23, 24, 25, 26, 27, 28, 29, 30, 31, 32, 33, 34, 35, 36, 37, 38, 39, 40, 41, 42, 43] (by decide +kernel) (by decide +kernel)
set_option maxRecDepth 20000 in
theorem gX9_type_X9_full : GoodIn wsX9_type (wsV RX9 133 RX9 yX9_full wsX9_full) := goodIn_app (goodIn_of _ (by decide +kernel)) ggX9_type_X9_full
theorem dX9_type_0 : decode cX9_type 0 = .ok (.iload_n 1, 1) := by decide +kernel
theorem dX9_type_1 : decode cX9_type 1 = .ok (.i2l, 1) := by decide +kernel
theorem dX9_type_2 : decode cX9_type 2 = .ok (.lconst 0, 1) := by decide +kernel
theorem dX9_type_3 : decode cX9_type 3 = .ok (.ldc2_w 235, 3) := by decide +kernel
theorem dX9_type_6 : decode cX9_type 6 = .ok (.invokestatic 72, 3) := by decide +kernel
theorem dX9_type_9 : decode cX9_type 9 = .ok (.ifCond .ne 10, 3) := by decide +kernel
theorem dX9_type_12 : decode cX9_type 12 = .ok (.aload_n 0, 1) := by decide +kernel
theorem dX9_type_13 : decode cX9_type 13 = .ok (.bipush (-2), 2) := by decide +kernel
theorem dX9_type_15 : decode cX9_type 15 = .ok (.invokevirtual 126, 3) := by decide +kernel
theorem dX9_type_18 : decode cX9_type 18 = .ok (.ireturn, 1) := by decide +kernel
theorem dX9_type_19 : decode cX9_type 19 = .ok (.aload_n 0, 1) := by decide +kernel
theorem dX9_type_20 : decode cX9_type 20 = .ok (.getfield 237, 3) := by decide +kernel
theorem dX9_type_23 : decode cX9_type 23 = .ok (.sipush 150, 3) := by decide +kernel
theorem dX9_type_26 : decode cX9_type 26 = .ok (.if_icmp .ne 8, 3) := by decide +kernel
theorem dX9_type_29 : decode cX9_type 29 = .ok (.aload_n 0, 1) := by decide +kernel
theorem dX9_type_30 : decode cX9_type 30 = .ok (.invokevirtual 133, 3) := by decide +kernel
theorem dX9_type_33 : decode cX9_type 33 = .ok (.ireturn, 1) := by decide +kernel
theorem dX9_type_34 : decode cX9_type 34 = .ok (.aload_n 0, 1) := by decide +kernel
theorem dX9_type_35 : decode cX9_type 35 = .ok (.getfield 55, 3) := by decide +kernel
theorem dX9_type_38 : decode cX9_type 38 = .ok (.aload_n 0, 1) := by decide +kernel
theorem dX9_type_39 : decode cX9_type 39 = .ok (.getfield 237, 3) := by decide +kernel
theorem dX9_type_42 : decode cX9_type 42 = .ok (.iload_n 1, 1) := by decide +kernel
theorem dX9_type_43 : decode cX9_type 43 = .ok (.iastore, 1) := by decide +kernel
theorem dX9_type_44 : decode cX9_type 44 = .ok (.aload_n 0, 1) := by decide +kernel
theorem dX9_type_45 : decode cX9_type 45 = .ok (.dup, 1) := by decide +kernel
theorem dX9_type_46 : decode cX9_type 46 = .ok (.getfield 237, 3) := by decide +kernel
theorem dX9_type_49 : decode cX9_type 49 = .ok (.iconst 1, 1) := by decide +kernel
theorem dX9_type_50 : decode cX9_type 50 = .ok (.iadd, 1) := by decide +kernel
theorem dX9_type_51 : decode cX9_type 51 = .ok (.putfield 237, 3) := by decide +kernel
theorem dX9_type_54 : decode cX9_type 54 = .ok (.aload_n 0, 1) := by decide +kernel
theorem dX9_type_55 : decode cX9_type 55 = .ok (.getfield 237, 3) := by decide +kernel
theorem dX9_type_58 : decode cX9_type 58 = .ok (.ireturn, 1) := by decide +kernel
theorem dX9_clear_0 : decode cX9_clear 0 = .ok (.aload_n 0, 1) := by decide +kernel
theorem dX9_clear_1 : decode cX9_clear 1 = .ok (.getfield 237, 3) := by decide +kernel
theorem dX9_clear_4 : decode cX9_clear 4 = .ok (.istore_n 1, 1) := by decide +kernel
theorem dX9_clear_5 : decode cX9_clear 5 = .ok (.aload_n 0, 1) := by decide +kernel
theorem dX9_clear_6 : decode cX9_clear 6 = .ok (.iconst 0, 1) := by decide +kernel
theorem dX9_clear_7 : decode cX9_clear 7 = .ok (.putfield 237, 3) := by decide +kernel
theorem dX9_clear_10 : decode cX9_clear 10 = .ok (.iload_n 1, 1) := by decide +kernel
theorem dX9_clear_11 : decode cX9_clear 11 = .ok (.ireturn, 1) := by decide +kernel
set_option maxRecDepth 20000 in
theorem ggX9_isSmall_X9_in : GoodIn wsX9_isSmall wsX9_in := goodIn_r _ [6] (by decide +kernel) (by decide +kernel)
set_option maxRecDepth 20000 in
theorem gX9_isSmall_X9_in : GoodIn wsX9_isSmall (va_wsS RX9 72 yX9_in wsX9_in) := goodIn_app (goodIn_of _ (by decide +kernel)) ggX9_isSmall_X9_in
theorem dX9_isSmall_0 : decode cX9_isSmall 0 = .ok (.iload_n 0, 1) := by decide +kernel
theorem dX9_isSmall_1 : decode cX9_isSmall 1 = .ok (.i2l, 1) := by decide +kernel
theorem dX9_isSmall_2 : decode cX9_isSmall 2 = .ok (.ldc2_w 240, 3) := by decide +kernel
theorem dX9_isSmall_5 : decode cX9_isSmall 5 = .ok (.ldc2_w 242, 3) := by decide +kernel
theorem dX9_isSmall_8 : decode cX9_isSmall 8 = .ok (.invokestatic 72, 3) := by decide +kernel
theorem dX9_isSmall_11 : decode cX9_isSmall 11 = .ok (.ireturn, 1) := by decide +kernel
set_option maxRecDepth 20000 in
theorem ggX9_isFigure_X9_in : GoodIn wsX9_isFigure wsX9_in := goodIn_r _ [6] (by decide +kernel) (by decide +kernel)
set_option maxRecDepth 20000 in
theorem gX9_isFigure_X9_in : GoodIn wsX9_isFigure (va_wsS RX9 72 yX9_in wsX9_in) := goodIn_app (goodIn_of _ (by decide +kernel)) ggX9_isFigure_X9_in
theorem dX9_isFigure_0 : decode cX9_isFigure 0 = .ok (.iload_n 0, 1) := by decide +kernel
theorem dX9_isFigure_1 : decode cX9_isFigure 1 = .ok (.i2l, 1) := by decide +kernel
theorem dX9_isFigure_2 : decode cX9_isFigure 2 = .ok (.ldc2_w 244, 3) := by decide +kernel
theorem dX9_isFigure_5 : decode cX9_isFigure 5 = .ok (.ldc2_w 246, 3) := by decide +kernel
theorem dX9_isFigure_8 : decode cX9_isFigure 8 = .ok (.invokestatic 72, 3) := by decide +kernel
theorem dX9_isFigure_11 : decode cX9_isFigure 11 = .ok (.ireturn, 1) := by decide +kernel
set_option maxRecDepth 20000 in
theorem ggX9_lookAt_X9_isSmall : GoodIn wsX9_lookAt wsX9_isSmall := goodIn_r _ [10, 11, 12, 13, 14, 9, 15] (by decide +kernel) (by decide +kernel)
set_option maxRecDepth 20000 in
theorem gX9_lookAt_X9_isSmall : GoodIn wsX9_lookAt (va_wsS RX9 260 yX9_isSmall wsX9_isSmall) := goodIn_app (goodIn_of _ (by decide +kernel)) ggX9_lookAt_X9_isSmall
set_option maxRecDepth 20000 in
theorem ggX9_lookAt_X9_isFigure : GoodIn wsX9_lookAt wsX9_isFigure := goodIn_r _ [18, 19, 20, 13, 14, 9, 15] (by decide +kernel) (by decide +kernel)
set_option maxRecDepth 20000 in
theorem gX9_lookAt_X9_isFigure : GoodIn wsX9_lookAt (va_wsS RX9 263 yX9_isFigure wsX9_isFigure) := goodIn_app (goodIn_of _ (by decide +kernel)) ggX9_lookAt_X9_isFigure
theorem dX9_lookAt_0 : decode cX9_lookAt 0 = .ok (.aload_n 0, 1) := by decide +kernel
theorem dX9_lookAt_1 : decode cX9_lookAt 1 = .ok (.iload_n 1, 1) := by decide +kernel
theorem dX9_lookAt_2 : decode cX9_lookAt 2 = .ok (.putfield 248, 3) := by decide +kernel
theorem dX9_lookAt_5 : decode cX9_lookAt 5 = .ok (.aload_n 0, 1) := by decide +kernel
theorem dX9_lookAt_6 : decode cX9_lookAt 6 = .ok (.getfield 248, 3) := by decide +kernel
theorem dX9_lookAt_9 : decode cX9_lookAt 9 = .ok (.aload_n 0, 1) := by decide +kernel
theorem dX9_lookAt_10 : decode cX9_lookAt 10 = .ok (.getfield 237, 3) := by decide +kernel
theorem dX9_lookAt_13 : decode cX9_lookAt 13 = .ok (.if_icmp .ge 30, 3) := by decide +kernel
theorem dX9_lookAt_16 : decode cX9_lookAt 16 = .ok (.aload_n 0, 1) := by decide +kernel
theorem dX9_lookAt_17 : decode cX9_lookAt 17 = .ok (.getfield 55, 3) := by decide +kernel
theorem dX9_lookAt_20 : decode cX9_lookAt 20 = .ok (.aload_n 0, 1) := by decide +kernel
theorem dX9_lookAt_21 : decode cX9_lookAt 21 = .ok (.getfield 248, 3) := by decide +kernel
theorem dX9_lookAt_24 : decode cX9_lookAt 24 = .ok (.iaload, 1) := by decide +kernel
theorem dX9_lookAt_25 : decode cX9_lookAt 25 = .ok (.bipush 32, 2) := by decide +kernel
theorem dX9_lookAt_27 : decode cX9_lookAt 27 = .ok (.if_icmp .ne 16, 3) := by decide +kernel
theorem dX9_lookAt_30 : decode cX9_lookAt 30 = .ok (.aload_n 0, 1) := by decide +kernel
theorem dX9_lookAt_31 : decode cX9_lookAt 31 = .ok (.dup, 1) := by decide +kernel
theorem dX9_lookAt_32 : decode cX9_lookAt 32 = .ok (.getfield 248, 3) := by decide +kernel
theorem dX9_lookAt_35 : decode cX9_lookAt 35 = .ok (.iconst 1, 1) := by decide +kernel
theorem dX9_lookAt_36 : decode cX9_lookAt 36 = .ok (.iadd, 1) := by decide +kernel
theorem dX9_lookAt_37 : decode cX9_lookAt 37 = .ok (.putfield 248, 3) := by decide +kernel
theorem dX9_lookAt_40 : decode cX9_lookAt 40 = .ok (.goto (-35), 3) := by decide +kernel
theorem dX9_lookAt_43 : decode cX9_lookAt 43 = .ok (.aload_n 0, 1) := by decide +kernel
theorem dX9_lookAt_44 : decode cX9_lookAt 44 = .ok (.iconst 0, 1) := by decide +kernel
theorem dX9_lookAt_45 : decode cX9_lookAt 45 = .ok (.putfield 251, 3) := by decide +kernel
theorem dX9_lookAt_48 : decode cX9_lookAt 48 = .ok (.aload_n 0, 1) := by decide +kernel
theorem dX9_lookAt_49 : decode cX9_lookAt 49 = .ok (.iconst 0, 1) := by decide +kernel
theorem dX9_lookAt_50 : decode cX9_lookAt 50 = .ok (.putfield 254, 3) := by decide +kernel
theorem dX9_lookAt_53 : decode cX9_lookAt 53 = .ok (.aload_n 0, 1) := by decide +kernel
theorem dX9_lookAt_54 : decode cX9_lookAt 54 = .ok (.iconst 0, 1) := by decide +kernel
theorem dX9_lookAt_55 : decode cX9_lookAt 55 = .ok (.putfield 257, 3) := by decide +kernel
theorem dX9_lookAt_58 : decode cX9_lookAt 58 = .ok (.aload_n 0, 1) := by decide +kernel
theorem dX9_lookAt_59 : decode cX9_lookAt 59 = .ok (.getfield 248, 3) := by decide +kernel
theorem dX9_lookAt_62 : decode cX9_lookAt 62 = .ok (.aload_n 0, 1) := by decide +kernel
theorem dX9_lookAt_63 : decode cX9_lookAt 63 = .ok (.getfield 237, 3) := by decide +kernel
theorem dX9_lookAt_66 : decode cX9_lookAt 66 = .ok (.if_icmp .ne 4, 3) := by decide +kernel
theorem dX9_lookAt_69 : decode cX9_lookAt 69 = .ok (.return_, 1) := by decide +kernel
theorem dX9_lookAt_70 : decode cX9_lookAt 70 = .ok (.aload_n 0, 1) := by decide +kernel
theorem dX9_lookAt_71 : decode cX9_lookAt 71 = .ok (.getfield 55, 3) := by decide +kernel
theorem dX9_lookAt_74 : decode cX9_lookAt 74 = .ok (.aload_n 0, 1) := by decide +kernel
theorem dX9_lookAt_75 : decode cX9_lookAt 75 = .ok (.getfield 248, 3) := by decide +kernel
theorem dX9_lookAt_78 : decode cX9_lookAt 78 = .ok (.iaload, 1) := by decide +kernel
theorem dX9_lookAt_79 : decode cX9_lookAt 79 = .ok (.istore_n 2, 1) := by decide +kernel
theorem dX9_lookAt_80 : decode cX9_lookAt 80 = .ok (.aload_n 0, 1) := by decide +kernel
theorem dX9_lookAt_81 : decode cX9_lookAt 81 = .ok (.iload_n 2, 1) := by decide +kernel
theorem dX9_lookAt_82 : decode cX9_lookAt 82 = .ok (.invokestatic 260, 3) := by decide +kernel
theorem dX9_lookAt_85 : decode cX9_lookAt 85 = .ok (.ifCond .eq 7, 3) := by decide +kernel
theorem dX9_lookAt_88 : decode cX9_lookAt 88 = .ok (.iconst 1, 1) := by decide +kernel
theorem dX9_lookAt_89 : decode cX9_lookAt 89 = .ok (.goto 25, 3) := by decide +kernel
theorem dX9_lookAt_92 : decode cX9_lookAt 92 = .ok (.iload_n 2, 1) := by decide +kernel
theorem dX9_lookAt_93 : decode cX9_lookAt 93 = .ok (.invokestatic 263, 3) := by decide +kernel
theorem dX9_lookAt_96 : decode cX9_lookAt 96 = .ok (.ifCond .eq 7, 3) := by decide +kernel
theorem dX9_lookAt_99 : decode cX9_lookAt 99 = .ok (.iconst 2, 1) := by decide +kernel
theorem dX9_lookAt_100 : decode cX9_lookAt 100 = .ok (.goto 14, 3) := by decide +kernel
theorem dX9_lookAt_103 : decode cX9_lookAt 103 = .ok (.iload_n 2, 1) := by decide +kernel
theorem dX9_lookAt_104 : decode cX9_lookAt 104 = .ok (.bipush 59, 2) := by decide +kernel
theorem dX9_lookAt_106 : decode cX9_lookAt 106 = .ok (.if_icmp .ne 7, 3) := by decide +kernel
theorem dX9_lookAt_109 : decode cX9_lookAt 109 = .ok (.iconst 3, 1) := by decide +kernel
theorem dX9_lookAt_110 : decode cX9_lookAt 110 = .ok (.goto 4, 3) := by decide +kernel
theorem dX9_lookAt_113 : decode cX9_lookAt 113 = .ok (.iconst 4, 1) := by decide +kernel
theorem dX9_lookAt_114 : decode cX9_lookAt 114 = .ok (.putfield 254, 3) := by decide +kernel
theorem dX9_lookAt_117 : decode cX9_lookAt 117 = .ok (.aload_n 0, 1) := by decide +kernel
theorem dX9_lookAt_118 : decode cX9_lookAt 118 = .ok (.iconst 1, 1) := by decide +kernel
theorem dX9_lookAt_119 : decode cX9_lookAt 119 = .ok (.putfield 251, 3) := by decide +kernel
theorem dX9_lookAt_122 : decode cX9_lookAt 122 = .ok (.aload_n 0, 1) := by decide +kernel
theorem dX9_lookAt_123 : decode cX9_lookAt 123 = .ok (.getfield 254, 3) := by decide +kernel
theorem dX9_lookAt_126 : decode cX9_lookAt 126 = .ok (.iconst 3, 1) := by decide +kernel
theorem dX9_lookAt_127 : decode cX9_lookAt 127 = .ok (.if_icmp .ge 7, 3) := by decide +kernel
theorem dX9_lookAt_130 : decode cX9_lookAt 130 = .ok (.iconst 1, 1) := by decide +kernel
theorem dX9_lookAt_131 : decode cX9_lookAt 131 = .ok (.goto 4, 3) := by decide +kernel
theorem dX9_lookAt_134 : decode cX9_lookAt 134 = .ok (.iconst 0, 1) := by decide +kernel
theorem dX9_lookAt_135 : decode cX9_lookAt 135 = .ok (.istore_n 3, 1) := by decide +kernel
theorem dX9_lookAt_136 : decode cX9_lookAt 136 = .ok (.iload_n 3, 1) := by decide +kernel
theorem dX9_lookAt_137 : decode cX9_lookAt 137 = .ok (.ifCond .eq 78, 3) := by decide +kernel
theorem dX9_lookAt_140 : decode cX9_lookAt 140 = .ok (.aload_n 0, 1) := by decide +kernel
theorem dX9_lookAt_141 : decode cX9_lookAt 141 = .ok (.getfield 248, 3) := by decide +kernel
theorem dX9_lookAt_144 : decode cX9_lookAt 144 = .ok (.aload_n 0, 1) := by decide +kernel
theorem dX9_lookAt_145 : decode cX9_lookAt 145 = .ok (.getfield 251, 3) := by decide +kernel
theorem dX9_lookAt_148 : decode cX9_lookAt 148 = .ok (.iadd, 1) := by decide +kernel
theorem dX9_lookAt_149 : decode cX9_lookAt 149 = .ok (.aload_n 0, 1) := by decide +kernel
theorem dX9_lookAt_150 : decode cX9_lookAt 150 = .ok (.getfield 237, 3) := by decide +kernel
theorem dX9_lookAt_153 : decode cX9_lookAt 153 = .ok (.if_icmp .ge 62, 3) := by decide +kernel
theorem dX9_lookAt_156 : decode cX9_lookAt 156 = .ok (.aload_n 0, 1) := by decide +kernel
theorem dX9_lookAt_157 : decode cX9_lookAt 157 = .ok (.getfield 55, 3) := by decide +kernel
theorem dX9_lookAt_160 : decode cX9_lookAt 160 = .ok (.aload_n 0, 1) := by decide +kernel
theorem dX9_lookAt_161 : decode cX9_lookAt 161 = .ok (.getfield 248, 3) := by decide +kernel
theorem dX9_lookAt_164 : decode cX9_lookAt 164 = .ok (.aload_n 0, 1) := by decide +kernel
theorem dX9_lookAt_165 : decode cX9_lookAt 165 = .ok (.getfield 251, 3) := by decide +kernel
theorem dX9_lookAt_168 : decode cX9_lookAt 168 = .ok (.iadd, 1) := by decide +kernel
theorem dX9_lookAt_169 : decode cX9_lookAt 169 = .ok (.iaload, 1) := by decide +kernel
theorem dX9_lookAt_170 : decode cX9_lookAt 170 = .ok (.istore 4, 2) := by decide +kernel
theorem dX9_lookAt_172 : decode cX9_lookAt 172 = .ok (.aload_n 0, 1) := by decide +kernel
theorem dX9_lookAt_173 : decode cX9_lookAt 173 = .ok (.getfield 254, 3) := by decide +kernel
theorem dX9_lookAt_176 : decode cX9_lookAt 176 = .ok (.iconst 1, 1) := by decide +kernel
theorem dX9_lookAt_177 : decode cX9_lookAt 177 = .ok (.if_icmp .ne 11, 3) := by decide +kernel
theorem dX9_lookAt_180 : decode cX9_lookAt 180 = .ok (.iload 4, 2) := by decide +kernel
theorem dX9_lookAt_182 : decode cX9_lookAt 182 = .ok (.invokestatic 260, 3) := by decide +kernel
theorem dX9_lookAt_185 : decode cX9_lookAt 185 = .ok (.goto 8, 3) := by decide +kernel
theorem dX9_lookAt_188 : decode cX9_lookAt 188 = .ok (.iload 4, 2) := by decide +kernel
theorem dX9_lookAt_190 : decode cX9_lookAt 190 = .ok (.invokestatic 263, 3) := by decide +kernel
theorem dX9_lookAt_193 : decode cX9_lookAt 193 = .ok (.istore_n 3, 1) := by decide +kernel
theorem dX9_lookAt_194 : decode cX9_lookAt 194 = .ok (.aload_n 0, 1) := by decide +kernel
theorem dX9_lookAt_195 : decode cX9_lookAt 195 = .ok (.dup, 1) := by decide +kernel
theorem dX9_lookAt_196 : decode cX9_lookAt 196 = .ok (.getfield 251, 3) := by decide +kernel
theorem dX9_lookAt_199 : decode cX9_lookAt 199 = .ok (.iload_n 3, 1) := by decide +kernel
theorem dX9_lookAt_200 : decode cX9_lookAt 200 = .ok (.ifCond .eq 7, 3) := by decide +kernel
theorem dX9_lookAt_203 : decode cX9_lookAt 203 = .ok (.iconst 1, 1) := by decide +kernel
theorem dX9_lookAt_204 : decode cX9_lookAt 204 = .ok (.goto 4, 3) := by decide +kernel
theorem dX9_lookAt_207 : decode cX9_lookAt 207 = .ok (.iconst 0, 1) := by decide +kernel
theorem dX9_lookAt_208 : decode cX9_lookAt 208 = .ok (.iadd, 1) := by decide +kernel
theorem dX9_lookAt_209 : decode cX9_lookAt 209 = .ok (.putfield 251, 3) := by decide +kernel
theorem dX9_lookAt_212 : decode cX9_lookAt 212 = .ok (.goto (-76), 3) := by decide +kernel
theorem dX9_lookAt_215 : decode cX9_lookAt 215 = .ok (.iconst 0, 1) := by decide +kernel
theorem dX9_lookAt_216 : decode cX9_lookAt 216 = .ok (.istore 4, 2) := by decide +kernel
theorem dX9_lookAt_218 : decode cX9_lookAt 218 = .ok (.iload 4, 2) := by decide +kernel
theorem dX9_lookAt_220 : decode cX9_lookAt 220 = .ok (.aload_n 0, 1) := by decide +kernel
theorem dX9_lookAt_221 : decode cX9_lookAt 221 = .ok (.getfield 251, 3) := by decide +kernel
theorem dX9_lookAt_224 : decode cX9_lookAt 224 = .ok (.if_icmp .ge 50, 3) := by decide +kernel
theorem dX9_lookAt_227 : decode cX9_lookAt 227 = .ok (.iload 4, 2) := by decide +kernel
theorem dX9_lookAt_229 : decode cX9_lookAt 229 = .ok (.iconst 2, 1) := by decide +kernel
theorem dX9_lookAt_230 : decode cX9_lookAt 230 = .ok (.if_icmp .ge 44, 3) := by decide +kernel
theorem dX9_lookAt_233 : decode cX9_lookAt 233 = .ok (.aload_n 0, 1) := by decide +kernel
theorem dX9_lookAt_234 : decode cX9_lookAt 234 = .ok (.getfield 254, 3) := by decide +kernel
theorem dX9_lookAt_237 : decode cX9_lookAt 237 = .ok (.iconst 2, 1) := by decide +kernel
theorem dX9_lookAt_238 : decode cX9_lookAt 238 = .ok (.if_icmp .ne 36, 3) := by decide +kernel
theorem dX9_lookAt_241 : decode cX9_lookAt 241 = .ok (.aload_n 0, 1) := by decide +kernel
theorem dX9_lookAt_242 : decode cX9_lookAt 242 = .ok (.bipush 10, 2) := by decide +kernel
theorem dX9_lookAt_244 : decode cX9_lookAt 244 = .ok (.aload_n 0, 1) := by decide +kernel
theorem dX9_lookAt_245 : decode cX9_lookAt 245 = .ok (.getfield 257, 3) := by decide +kernel
theorem dX9_lookAt_248 : decode cX9_lookAt 248 = .ok (.imul, 1) := by decide +kernel
theorem dX9_lookAt_249 : decode cX9_lookAt 249 = .ok (.aload_n 0, 1) := by decide +kernel
theorem dX9_lookAt_250 : decode cX9_lookAt 250 = .ok (.getfield 55, 3) := by decide +kernel
theorem dX9_lookAt_253 : decode cX9_lookAt 253 = .ok (.aload_n 0, 1) := by decide +kernel
theorem dX9_lookAt_254 : decode cX9_lookAt 254 = .ok (.getfield 248, 3) := by decide +kernel
theorem dX9_lookAt_257 : decode cX9_lookAt 257 = .ok (.iload 4, 2) := by decide +kernel
theorem dX9_lookAt_259 : decode cX9_lookAt 259 = .ok (.iadd, 1) := by decide +kernel
theorem dX9_lookAt_260 : decode cX9_lookAt 260 = .ok (.iaload, 1) := by decide +kernel
theorem dX9_lookAt_261 : decode cX9_lookAt 261 = .ok (.iadd, 1) := by decide +kernel
theorem dX9_lookAt_262 : decode cX9_lookAt 262 = .ok (.bipush 48, 2) := by decide +kernel
theorem dX9_lookAt_264 : decode cX9_lookAt 264 = .ok (.isub, 1) := by decide +kernel
theorem dX9_lookAt_265 : decode cX9_lookAt 265 = .ok (.putfield 257, 3) := by decide +kernel
theorem dX9_lookAt_268 : decode cX9_lookAt 268 = .ok (.iinc 4 1, 3) := by decide +kernel
theorem dX9_lookAt_271 : decode cX9_lookAt 271 = .ok (.goto (-53), 3) := by decide +kernel
theorem dX9_lookAt_274 : decode cX9_lookAt 274 = .ok (.aload_n 0, 1) := by decide +kernel
theorem dX9_lookAt_275 : decode cX9_lookAt 275 = .ok (.aload_n 0, 1) := by decide +kernel
theorem dX9_lookAt_276 : decode cX9_lookAt 276 = .ok (.getfield 254, 3) := by decide +kernel
theorem dX9_lookAt_279 : decode cX9_lookAt 279 = .ok (.iconst 2, 1) := by decide +kernel
theorem dX9_lookAt_280 : decode cX9_lookAt 280 = .ok (.if_icmp .ne 15, 3) := by decide +kernel
theorem dX9_lookAt_283 : decode cX9_lookAt 283 = .ok (.aload_n 0, 1) := by decide +kernel
theorem dX9_lookAt_284 : decode cX9_lookAt 284 = .ok (.getfield 251, 3) := by decide +kernel
theorem dX9_lookAt_287 : decode cX9_lookAt 287 = .ok (.iconst 2, 1) := by decide +kernel
theorem dX9_lookAt_288 : decode cX9_lookAt 288 = .ok (.if_icmp .le 7, 3) := by decide +kernel
theorem dX9_lookAt_291 : decode cX9_lookAt 291 = .ok (.iconst 4, 1) := by decide +kernel
theorem dX9_lookAt_292 : decode cX9_lookAt 292 = .ok (.goto 7, 3) := by decide +kernel
theorem dX9_lookAt_295 : decode cX9_lookAt 295 = .ok (.aload_n 0, 1) := by decide +kernel
theorem dX9_lookAt_296 : decode cX9_lookAt 296 = .ok (.getfield 254, 3) := by decide +kernel
theorem dX9_lookAt_299 : decode cX9_lookAt 299 = .ok (.putfield 254, 3) := by decide +kernel
theorem dX9_lookAt_302 : decode cX9_lookAt 302 = .ok (.return_, 1) := by decide +kernel
set_option maxRecDepth 20000 in
theorem ggX9_goBehind_X9_lookAt : GoodIn wsX9_goBehind wsX9_lookAt := goodIn_r _ [7, 1, 8, 9, 2, 10, 11, 12, 13, 6, 14, 15, 16, 17, 18, 19, 20, 21, 22, 23, 24, 25, 26, 27, 28, 29, 30, 31, 32, 33, 34, 35, 36, 37, 38, 39, 40, 41, 42, 43, 44, 45, 46, 47, 48, 49, 50, 51] (by decide +kernel) (by decide +kernel)
set_option maxRecDepth 20000 in
theorem gX9_goBehind_X9_lookAt : GoodIn wsX9_goBehind (wsV RX9 266 RX9 yX9_lookAt wsX9_lookAt) := goodIn_app (goodIn_of _ (by decide +kernel)) ggX9_goBehind_X9_lookAt
theorem dX9_goBehind_0 : decode cX9_goBehind 0 = .ok (.aload_n 0, 1) := by decide +kernel
theorem dX9_goBehind_1 : decode cX9_goBehind 1 = .ok (.aload_n 0, 1) := by decide +kernel
theorem dX9_goBehind_2 : decode cX9_goBehind 2 = .ok (.getfield 248, 3) := by decide +kernel
theorem dX9_goBehind_5 : decode cX9_goBehind 5 = .ok (.aload_n 0, 1) := by decide +kernel
theorem dX9_goBehind_6 : decode cX9_goBehind 6 = .ok (.getfield 251, 3) := by decide +kernel
theorem dX9_goBehind_9 : decode cX9_goBehind 9 = .ok (.iadd, 1) := by decide +kernel
theorem dX9_goBehind_10 : decode cX9_goBehind 10 = .ok (.invokevirtual 266, 3) := by decide +kernel
theorem dX9_goBehind_13 : decode cX9_goBehind 13 = .ok (.return_, 1) := by decide +kernel
theorem dX9_isWord_0 : decode cX9_isWord 0 = .ok (.aload_n 0, 1) := by decide +kernel
theorem dX9_isWord_1 : decode cX9_isWord 1 = .ok (.getfield 254, 3) := by decide +kernel
theorem dX9_isWord_4 : decode cX9_isWord 4 = .ok (.iconst 1, 1) := by decide +kernel
theorem dX9_isWord_5 : decode cX9_isWord 5 = .ok (.if_icmp .ne 15, 3) := by decide +kernel
theorem dX9_isWord_8 : decode cX9_isWord 8 = .ok (.aload_n 0, 1) := by decide +kernel
theorem dX9_isWord_9 : decode cX9_isWord 9 = .ok (.getfield 251, 3) := by decide +kernel
theorem dX9_isWord_12 : decode cX9_isWord 12 = .ok (.iload_n 1, 1) := by decide +kernel
theorem dX9_isWord_13 : decode cX9_isWord 13 = .ok (.if_icmp .ne 7, 3) := by decide +kernel
theorem dX9_isWord_16 : decode cX9_isWord 16 = .ok (.iconst 1, 1) := by decide +kernel
theorem dX9_isWord_17 : decode cX9_isWord 17 = .ok (.goto 4, 3) := by decide +kernel
theorem dX9_isWord_20 : decode cX9_isWord 20 = .ok (.iconst 0, 1) := by decide +kernel
theorem dX9_isWord_21 : decode cX9_isWord 21 = .ok (.istore 7, 2) := by decide +kernel
theorem dX9_isWord_23 : decode cX9_isWord 23 = .ok (.iconst 0, 1) := by decide +kernel
theorem dX9_isWord_24 : decode cX9_isWord 24 = .ok (.istore 8, 2) := by decide +kernel
theorem dX9_isWord_26 : decode cX9_isWord 26 = .ok (.iload 8, 2) := by decide +kernel
theorem dX9_isWord_28 : decode cX9_isWord 28 = .ok (.iload_n 1, 1) := by decide +kernel
theorem dX9_isWord_29 : decode cX9_isWord 29 = .ok (.if_icmp .ge 79, 3) := by decide +kernel
theorem dX9_isWord_32 : decode cX9_isWord 32 = .ok (.iload 7, 2) := by decide +kernel
theorem dX9_isWord_34 : decode cX9_isWord 34 = .ok (.ifCond .eq 74, 3) := by decide +kernel
theorem dX9_isWord_37 : decode cX9_isWord 37 = .ok (.aload_n 0, 1) := by decide +kernel
theorem dX9_isWord_38 : decode cX9_isWord 38 = .ok (.getfield 55, 3) := by decide +kernel
theorem dX9_isWord_41 : decode cX9_isWord 41 = .ok (.aload_n 0, 1) := by decide +kernel
theorem dX9_isWord_42 : decode cX9_isWord 42 = .ok (.getfield 248, 3) := by decide +kernel
theorem dX9_isWord_45 : decode cX9_isWord 45 = .ok (.iload 8, 2) := by decide +kernel
theorem dX9_isWord_47 : decode cX9_isWord 47 = .ok (.iadd, 1) := by decide +kernel
theorem dX9_isWord_48 : decode cX9_isWord 48 = .ok (.iaload, 1) := by decide +kernel
theorem dX9_isWord_49 : decode cX9_isWord 49 = .ok (.iload 8, 2) := by decide +kernel
theorem dX9_isWord_51 : decode cX9_isWord 51 = .ok (.ifCond .ne 7, 3) := by decide +kernel
theorem dX9_isWord_54 : decode cX9_isWord 54 = .ok (.iload_n 2, 1) := by decide +kernel
theorem dX9_isWord_55 : decode cX9_isWord 55 = .ok (.goto 37, 3) := by decide +kernel
theorem dX9_isWord_58 : decode cX9_isWord 58 = .ok (.iload 8, 2) := by decide +kernel
theorem dX9_isWord_60 : decode cX9_isWord 60 = .ok (.iconst 1, 1) := by decide +kernel
theorem dX9_isWord_61 : decode cX9_isWord 61 = .ok (.if_icmp .ne 7, 3) := by decide +kernel
theorem dX9_isWord_64 : decode cX9_isWord 64 = .ok (.iload_n 3, 1) := by decide +kernel
theorem dX9_isWord_65 : decode cX9_isWord 65 = .ok (.goto 27, 3) := by decide +kernel
theorem dX9_isWord_68 : decode cX9_isWord 68 = .ok (.iload 8, 2) := by decide +kernel
theorem dX9_isWord_70 : decode cX9_isWord 70 = .ok (.iconst 2, 1) := by decide +kernel
theorem dX9_isWord_71 : decode cX9_isWord 71 = .ok (.if_icmp .ne 8, 3) := by decide +kernel
theorem dX9_isWord_74 : decode cX9_isWord 74 = .ok (.iload 4, 2) := by decide +kernel
theorem dX9_isWord_76 : decode cX9_isWord 76 = .ok (.goto 16, 3) := by decide +kernel
theorem dX9_isWord_79 : decode cX9_isWord 79 = .ok (.iload 8, 2) := by decide +kernel
theorem dX9_isWord_81 : decode cX9_isWord 81 = .ok (.iconst 3, 1) := by decide +kernel
theorem dX9_isWord_82 : decode cX9_isWord 82 = .ok (.if_icmp .ne 8, 3) := by decide +kernel
theorem dX9_isWord_85 : decode cX9_isWord 85 = .ok (.iload 5, 2) := by decide +kernel
theorem dX9_isWord_87 : decode cX9_isWord 87 = .ok (.goto 5, 3) := by decide +kernel
theorem dX9_isWord_90 : decode cX9_isWord 90 = .ok (.iload 6, 2) := by decide +kernel
theorem dX9_isWord_92 : decode cX9_isWord 92 = .ok (.if_icmp .ne 7, 3) := by decide +kernel
theorem dX9_isWord_95 : decode cX9_isWord 95 = .ok (.iconst 1, 1) := by decide +kernel
theorem dX9_isWord_96 : decode cX9_isWord 96 = .ok (.goto 4, 3) := by decide +kernel
theorem dX9_isWord_99 : decode cX9_isWord 99 = .ok (.iconst 0, 1) := by decide +kernel
theorem dX9_isWord_100 : decode cX9_isWord 100 = .ok (.istore 7, 2) := by decide +kernel
theorem dX9_isWord_102 : decode cX9_isWord 102 = .ok (.iinc 8 1, 3) := by decide +kernel
theorem dX9_isWord_105 : decode cX9_isWord 105 = .ok (.goto (-79), 3) := by decide +kernel
theorem dX9_isWord_108 : decode cX9_isWord 108 = .ok (.iload 7, 2) := by decide +kernel
theorem dX9_isWord_110 : decode cX9_isWord 110 = .ok (.ireturn, 1) := by decide +kernel
set_option maxRecDepth 20000 in
theorem ggX9_takes_X9_in : GoodIn wsX9_takes wsX9_in := goodIn_r _ [7] (by decide +kernel) (by decide +kernel)
set_option maxRecDepth 20000 in
theorem gX9_takes_X9_in : GoodIn wsX9_takes (va_wsS RX9 72 yX9_in wsX9_in) := goodIn_app (goodIn_of _ (by decide +kernel)) ggX9_takes_X9_in
set_option maxRecDepth 20000 in
theorem ggX9_takes_X9_goBehind : GoodIn wsX9_takes wsX9_goBehind := goodIn_r _ [11, 12, 13, 14, 15, 16, 6, 17, 18, 19, 1, 2, 20, 21, 22, 23, 24, 4, 5, 7, 25, 26, 27, 28, 29, 30, 31, 32, 33, 34, 35, 36, 37, 38, 39, 40, 41, 42, 43, 44, 45, 46, 47, 48, 49, 50, 51, 52, 53, 54, 55, 56] (by decide +kernel) (by decide +kernel)
set_option maxRecDepth 20000 in
theorem gX9_takes_X9_goBehind : GoodIn wsX9_takes (wsV RX9 270 RX9 yX9_goBehind wsX9_goBehind) := goodIn_app (goodIn_of _ (by decide +kernel)) ggX9_takes_X9_goBehind
theorem dX9_takes_0 : decode cX9_takes 0 = .ok (.aload_n 0, 1) := by decide +kernel
theorem dX9_takes_1 : decode cX9_takes 1 = .ok (.getfield 254, 3) := by decide +kernel
theorem dX9_takes_4 : decode cX9_takes 4 = .ok (.iconst 2, 1) := by decide +kernel
theorem dX9_takes_5 : decode cX9_takes 5 = .ok (.if_icmp .ne 18, 3) := by decide +kernel
theorem dX9_takes_8 : decode cX9_takes 8 = .ok (.aload_n 0, 1) := by decide +kernel
theorem dX9_takes_9 : decode cX9_takes 9 = .ok (.getfield 257, 3) := by decide +kernel
theorem dX9_takes_12 : decode cX9_takes 12 = .ok (.i2l, 1) := by decide +kernel
theorem dX9_takes_13 : decode cX9_takes 13 = .ok (.iload_n 2, 1) := by decide +kernel
theorem dX9_takes_14 : decode cX9_takes 14 = .ok (.i2l, 1) := by decide +kernel
theorem dX9_takes_15 : decode cX9_takes 15 = .ok (.iload_n 3, 1) := by decide +kernel
theorem dX9_takes_16 : decode cX9_takes 16 = .ok (.i2l, 1) := by decide +kernel
theorem dX9_takes_17 : decode cX9_takes 17 = .ok (.invokestatic 72, 3) := by decide +kernel
theorem dX9_takes_20 : decode cX9_takes 20 = .ok (.ifCond .ne 5, 3) := by decide +kernel
theorem dX9_takes_23 : decode cX9_takes 23 = .ok (.iconst 0, 1) := by decide +kernel
theorem dX9_takes_24 : decode cX9_takes 24 = .ok (.ireturn, 1) := by decide +kernel
theorem dX9_takes_25 : decode cX9_takes 25 = .ok (.aload_n 0, 1) := by decide +kernel
theorem dX9_takes_26 : decode cX9_takes 26 = .ok (.getfield 64, 3) := by decide +kernel
theorem dX9_takes_29 : decode cX9_takes 29 = .ok (.iload_n 1, 1) := by decide +kernel
theorem dX9_takes_30 : decode cX9_takes 30 = .ok (.aload_n 0, 1) := by decide +kernel
theorem dX9_takes_31 : decode cX9_takes 31 = .ok (.getfield 257, 3) := by decide +kernel
theorem dX9_takes_34 : decode cX9_takes 34 = .ok (.iastore, 1) := by decide +kernel
theorem dX9_takes_35 : decode cX9_takes 35 = .ok (.aload_n 0, 1) := by decide +kernel
theorem dX9_takes_36 : decode cX9_takes 36 = .ok (.invokevirtual 270, 3) := by decide +kernel
theorem dX9_takes_39 : decode cX9_takes 39 = .ok (.iconst 1, 1) := by decide +kernel
theorem dX9_takes_40 : decode cX9_takes 40 = .ok (.ireturn, 1) := by decide +kernel
set_option maxRecDepth 20000 in
theorem ggX9_takesTale_X9_goBehind : GoodIn wsX9_takesTale wsX9_goBehind := goodIn_r _ [9, 10, 11, 12, 13, 14, 8, 15, 16, 17, 4, 18, 19, 20, 21, 22, 23, 24, 25, 26, 27, 28, 29, 30, 31, 43, 44, 45, 46, 47, 48, 49, 50, 51, 52, 53, 54, 55, 56, 57, 58, 59, 60, 61, 62, 63, 64, 65, 66, 67, 68, 69] (by decide +kernel) (by decide +kernel)
set_option maxRecDepth 20000 in
theorem gX9_takesTale_X9_goBehind : GoodIn wsX9_takesTale (wsV RX9 270 RX9 yX9_goBehind wsX9_goBehind) := goodIn_app (goodIn_of _ (by decide +kernel)) ggX9_takesTale_X9_goBehind
set_option maxRecDepth 20000 in
theorem ggX9_takesTale_X9_takes : GoodIn wsX9_takesTale wsX9_takes := goodIn_r _ [35, 4, 18, 1, 24, 25, 8, 26, 5, 6, 7, 9, 10, 11, 12, 13, 14, 15, 16, 17, 19, 20, 21, 22, 23, 27, 28, 29, 30, 31, 43, 44, 45, 46, 47, 48, 49, 50, 51, 52, 53, 54, 55, 56, 57, 58, 59, 60, 61, 62, 63, 64, 65, 66, 67, 68, 69] (by decide +kernel) (by decide +kernel)
set_option maxRecDepth 20000 in
theorem gX9_takesTale_X9_takes : GoodIn wsX9_takesTale (wsV RX9 273 RX9 yX9_takes wsX9_takes) := goodIn_app (goodIn_of _ (by decide +kernel)) ggX9_takesTale_X9_takes
set_option maxRecDepth 20000 in
theorem ggX9_takesTale_X9_many : GoodIn wsX9_takesTale wsX9_many := goodIn_r _ [38] (by decide +kernel) (by decide +kernel)
set_option maxRecDepth 20000 in
theorem gX9_takesTale_X9_many : GoodIn wsX9_takesTale (va_wsS RX9 82 yX9_many wsX9_many) := goodIn_app (goodIn_of _ (by decide +kernel)) ggX9_takesTale_X9_many
set_option maxRecDepth 20000 in
theorem ggX9_takesTale_X9_behind : GoodIn wsX9_takesTale wsX9_behind := goodIn_r _ [41, 42, 36, 37, 8, 38] (by decide +kernel) (by decide +kernel)
set_option maxRecDepth 20000 in
theorem gX9_takesTale_X9_behind : GoodIn wsX9_takesTale (va_wsS RX9 90 yX9_behind wsX9_behind) := goodIn_app (goodIn_of _ (by decide +kernel)) ggX9_takesTale_X9_behind
theorem dX9_takesTale_0 : decode cX9_takesTale 0 = .ok (.aload_n 0, 1) := by decide +kernel
theorem dX9_takesTale_1 : decode cX9_takesTale 1 = .ok (.invokevirtual 270, 3) := by decide +kernel
theorem dX9_takesTale_4 : decode cX9_takesTale 4 = .ok (.aload_n 0, 1) := by decide +kernel
theorem dX9_takesTale_5 : decode cX9_takesTale 5 = .ok (.iconst 0, 1) := by decide +kernel
theorem dX9_takesTale_6 : decode cX9_takesTale 6 = .ok (.iconst 0, 1) := by decide +kernel
theorem dX9_takesTale_7 : decode cX9_takesTale 7 = .ok (.bipush 7, 2) := by decide +kernel
theorem dX9_takesTale_9 : decode cX9_takesTale 9 = .ok (.invokevirtual 273, 3) := by decide +kernel
theorem dX9_takesTale_12 : decode cX9_takesTale 12 = .ok (.ifCond .ne 5, 3) := by decide +kernel
theorem dX9_takesTale_15 : decode cX9_takesTale 15 = .ok (.iconst 0, 1) := by decide +kernel
theorem dX9_takesTale_16 : decode cX9_takesTale 16 = .ok (.ireturn, 1) := by decide +kernel
theorem dX9_takesTale_17 : decode cX9_takesTale 17 = .ok (.aload_n 0, 1) := by decide +kernel
theorem dX9_takesTale_18 : decode cX9_takesTale 18 = .ok (.getfield 64, 3) := by decide +kernel
theorem dX9_takesTale_21 : decode cX9_takesTale 21 = .ok (.iconst 0, 1) := by decide +kernel
theorem dX9_takesTale_22 : decode cX9_takesTale 22 = .ok (.iaload, 1) := by decide +kernel
theorem dX9_takesTale_23 : decode cX9_takesTale 23 = .ok (.istore_n 1, 1) := by decide +kernel
theorem dX9_takesTale_24 : decode cX9_takesTale 24 = .ok (.aload_n 0, 1) := by decide +kernel
theorem dX9_takesTale_25 : decode cX9_takesTale 25 = .ok (.getfield 58, 3) := by decide +kernel
theorem dX9_takesTale_28 : decode cX9_takesTale 28 = .ok (.iload_n 1, 1) := by decide +kernel
theorem dX9_takesTale_29 : decode cX9_takesTale 29 = .ok (.lconst 0, 1) := by decide +kernel
theorem dX9_takesTale_30 : decode cX9_takesTale 30 = .ok (.lastore, 1) := by decide +kernel
theorem dX9_takesTale_31 : decode cX9_takesTale 31 = .ok (.aload_n 0, 1) := by decide +kernel
theorem dX9_takesTale_32 : decode cX9_takesTale 32 = .ok (.getfield 61, 3) := by decide +kernel
theorem dX9_takesTale_35 : decode cX9_takesTale 35 = .ok (.iload_n 1, 1) := by decide +kernel
theorem dX9_takesTale_36 : decode cX9_takesTale 36 = .ok (.iconst (-1), 1) := by decide +kernel
theorem dX9_takesTale_37 : decode cX9_takesTale 37 = .ok (.iastore, 1) := by decide +kernel
theorem dX9_takesTale_38 : decode cX9_takesTale 38 = .ok (.aload_n 0, 1) := by decide +kernel
theorem dX9_takesTale_39 : decode cX9_takesTale 39 = .ok (.getfield 254, 3) := by decide +kernel
theorem dX9_takesTale_42 : decode cX9_takesTale 42 = .ok (.iconst 2, 1) := by decide +kernel
theorem dX9_takesTale_43 : decode cX9_takesTale 43 = .ok (.if_icmp .ne 54, 3) := by decide +kernel
theorem dX9_takesTale_46 : decode cX9_takesTale 46 = .ok (.aload_n 0, 1) := by decide +kernel
theorem dX9_takesTale_47 : decode cX9_takesTale 47 = .ok (.getfield 58, 3) := by decide +kernel
theorem dX9_takesTale_50 : decode cX9_takesTale 50 = .ok (.iload_n 1, 1) := by decide +kernel
theorem dX9_takesTale_51 : decode cX9_takesTale 51 = .ok (.laload, 1) := by decide +kernel
theorem dX9_takesTale_52 : decode cX9_takesTale 52 = .ok (.invokestatic 82, 3) := by decide +kernel
theorem dX9_takesTale_55 : decode cX9_takesTale 55 = .ok (.bipush 10, 2) := by decide +kernel
theorem dX9_takesTale_57 : decode cX9_takesTale 57 = .ok (.if_icmp .eq 14, 3) := by decide +kernel
theorem dX9_takesTale_60 : decode cX9_takesTale 60 = .ok (.aload_n 0, 1) := by decide +kernel
theorem dX9_takesTale_61 : decode cX9_takesTale 61 = .ok (.iconst 1, 1) := by decide +kernel
theorem dX9_takesTale_62 : decode cX9_takesTale 62 = .ok (.iconst 0, 1) := by decide +kernel
theorem dX9_takesTale_63 : decode cX9_takesTale 63 = .ok (.bipush 9, 2) := by decide +kernel
theorem dX9_takesTale_65 : decode cX9_takesTale 65 = .ok (.invokevirtual 273, 3) := by decide +kernel
theorem dX9_takesTale_68 : decode cX9_takesTale 68 = .ok (.ifCond .ne 5, 3) := by decide +kernel
theorem dX9_takesTale_71 : decode cX9_takesTale 71 = .ok (.iconst 0, 1) := by decide +kernel
theorem dX9_takesTale_72 : decode cX9_takesTale 72 = .ok (.ireturn, 1) := by decide +kernel
theorem dX9_takesTale_73 : decode cX9_takesTale 73 = .ok (.aload_n 0, 1) := by decide +kernel
theorem dX9_takesTale_74 : decode cX9_takesTale 74 = .ok (.getfield 58, 3) := by decide +kernel
theorem dX9_takesTale_77 : decode cX9_takesTale 77 = .ok (.iload_n 1, 1) := by decide +kernel
theorem dX9_takesTale_78 : decode cX9_takesTale 78 = .ok (.aload_n 0, 1) := by decide +kernel
theorem dX9_takesTale_79 : decode cX9_takesTale 79 = .ok (.getfield 58, 3) := by decide +kernel
theorem dX9_takesTale_82 : decode cX9_takesTale 82 = .ok (.iload_n 1, 1) := by decide +kernel
theorem dX9_takesTale_83 : decode cX9_takesTale 83 = .ok (.laload, 1) := by decide +kernel
theorem dX9_takesTale_84 : decode cX9_takesTale 84 = .ok (.aload_n 0, 1) := by decide +kernel
theorem dX9_takesTale_85 : decode cX9_takesTale 85 = .ok (.getfield 64, 3) := by decide +kernel
theorem dX9_takesTale_88 : decode cX9_takesTale 88 = .ok (.iconst 1, 1) := by decide +kernel
theorem dX9_takesTale_89 : decode cX9_takesTale 89 = .ok (.iaload, 1) := by decide +kernel
theorem dX9_takesTale_90 : decode cX9_takesTale 90 = .ok (.invokestatic 90, 3) := by decide +kernel
theorem dX9_takesTale_93 : decode cX9_takesTale 93 = .ok (.lastore, 1) := by decide +kernel
theorem dX9_takesTale_94 : decode cX9_takesTale 94 = .ok (.goto (-56), 3) := by decide +kernel
theorem dX9_takesTale_97 : decode cX9_takesTale 97 = .ok (.iconst 1, 1) := by decide +kernel
theorem dX9_takesTale_98 : decode cX9_takesTale 98 = .ok (.ireturn, 1) := by decide +kernel
set_option maxRecDepth 20000 in
theorem ggX9_takesHand_X9_goBehind : GoodIn wsX9_takesHand wsX9_goBehind := goodIn_r _ [10, 11, 12, 13, 14, 15, 9, 16, 17, 18, 1, 2, 19, 20, 21, 22, 23, 24, 25, 26, 27, 28, 29, 30, 31, 69, 70, 71, 72, 73, 74, 75, 76, 77, 78, 79, 80, 81, 82, 83, 84, 85, 86, 87, 88, 89, 90, 91, 92, 93, 94, 95] (by decide +kernel) (by decide +kernel)
set_option maxRecDepth 20000 in
theorem gX9_takesHand_X9_goBehind : GoodIn wsX9_takesHand (wsV RX9 270 RX9 yX9_goBehind wsX9_goBehind) := goodIn_app (goodIn_of _ (by decide +kernel)) ggX9_takesHand_X9_goBehind
set_option maxRecDepth 20000 in
theorem ggX9_takesHand_X9_isBranch : GoodIn wsX9_takesHand wsX9_isBranch := goodIn_r _ [34, 35, 24, 25, 9, 26] (by decide +kernel) (by decide +kernel)
set_option maxRecDepth 20000 in
theorem gX9_takesHand_X9_isBranch : GoodIn wsX9_takesHand (va_wsS RX9 139 yX9_isBranch wsX9_isBranch) := goodIn_app (goodIn_of _ (by decide +kernel)) ggX9_takesHand_X9_isBranch
set_option maxRecDepth 20000 in
theorem ggX9_takesHand_X9_takes : GoodIn wsX9_takesHand wsX9_takes := goodIn_r _ [39, 1, 2, 4, 24, 25, 9, 26, 6, 7, 8, 10, 11, 12, 13, 14, 15, 16, 17, 18, 19, 20, 21, 22, 23, 27, 28, 29, 30, 31, 69, 70, 71, 72, 73, 74, 75, 76, 77, 78, 79, 80, 81, 82, 83, 84, 85, 86, 87, 88, 89, 90, 91, 92, 93, 94, 95] (by decide +kernel) (by decide +kernel)
set_option maxRecDepth 20000 in
theorem gX9_takesHand_X9_takes : GoodIn wsX9_takesHand (wsV RX9 273 RX9 yX9_takes wsX9_takes) := goodIn_app (goodIn_of _ (by decide +kernel)) ggX9_takesHand_X9_takes
set_option maxRecDepth 20000 in
theorem ggX9_takesHand_X9_slips : GoodIn wsX9_takesHand wsX9_slips := goodIn_r _ [42, 43, 44, 9, 45, 46, 47, 48, 49, 50, 51, 52, 53, 54, 55, 56, 57, 58, 59, 60, 61, 62, 63, 64, 65, 66, 67, 68] (by decide +kernel) (by decide +kernel)
set_option maxRecDepth 20000 in
theorem gX9_takesHand_X9_slips : GoodIn wsX9_takesHand (va_wsS RX9 155 yX9_slips wsX9_slips) := goodIn_app (goodIn_of _ (by decide +kernel)) ggX9_takesHand_X9_slips
theorem dX9_takesHand_0 : decode cX9_takesHand 0 = .ok (.aload_n 0, 1) := by decide +kernel
theorem dX9_takesHand_1 : decode cX9_takesHand 1 = .ok (.invokevirtual 270, 3) := by decide +kernel
theorem dX9_takesHand_4 : decode cX9_takesHand 4 = .ok (.aload_n 0, 1) := by decide +kernel
theorem dX9_takesHand_5 : decode cX9_takesHand 5 = .ok (.getfield 254, 3) := by decide +kernel
theorem dX9_takesHand_8 : decode cX9_takesHand 8 = .ok (.iconst 2, 1) := by decide +kernel
theorem dX9_takesHand_9 : decode cX9_takesHand 9 = .ok (.if_icmp .ne 56, 3) := by decide +kernel
theorem dX9_takesHand_12 : decode cX9_takesHand 12 = .ok (.aload_n 0, 1) := by decide +kernel
theorem dX9_takesHand_13 : decode cX9_takesHand 13 = .ok (.getfield 257, 3) := by decide +kernel
theorem dX9_takesHand_16 : decode cX9_takesHand 16 = .ok (.invokestatic 139, 3) := by decide +kernel
theorem dX9_takesHand_19 : decode cX9_takesHand 19 = .ok (.ifCond .eq 46, 3) := by decide +kernel
theorem dX9_takesHand_22 : decode cX9_takesHand 22 = .ok (.aload_n 0, 1) := by decide +kernel
theorem dX9_takesHand_23 : decode cX9_takesHand 23 = .ok (.getfield 58, 3) := by decide +kernel
theorem dX9_takesHand_26 : decode cX9_takesHand 26 = .ok (.aload_n 0, 1) := by decide +kernel
theorem dX9_takesHand_27 : decode cX9_takesHand 27 = .ok (.getfield 257, 3) := by decide +kernel
theorem dX9_takesHand_30 : decode cX9_takesHand 30 = .ok (.laload, 1) := by decide +kernel
theorem dX9_takesHand_31 : decode cX9_takesHand 31 = .ok (.lconst 0, 1) := by decide +kernel
theorem dX9_takesHand_32 : decode cX9_takesHand 32 = .ok (.lcmp, 1) := by decide +kernel
theorem dX9_takesHand_33 : decode cX9_takesHand 33 = .ok (.ifCond .eq 32, 3) := by decide +kernel
theorem dX9_takesHand_36 : decode cX9_takesHand 36 = .ok (.aload_n 0, 1) := by decide +kernel
theorem dX9_takesHand_37 : decode cX9_takesHand 37 = .ok (.iconst 0, 1) := by decide +kernel
theorem dX9_takesHand_38 : decode cX9_takesHand 38 = .ok (.iconst 0, 1) := by decide +kernel
theorem dX9_takesHand_39 : decode cX9_takesHand 39 = .ok (.bipush 7, 2) := by decide +kernel
theorem dX9_takesHand_41 : decode cX9_takesHand 41 = .ok (.invokevirtual 273, 3) := by decide +kernel
theorem dX9_takesHand_44 : decode cX9_takesHand 44 = .ok (.ifCond .eq 21, 3) := by decide +kernel
theorem dX9_takesHand_47 : decode cX9_takesHand 47 = .ok (.aload_n 0, 1) := by decide +kernel
theorem dX9_takesHand_48 : decode cX9_takesHand 48 = .ok (.iconst 1, 1) := by decide +kernel
theorem dX9_takesHand_49 : decode cX9_takesHand 49 = .ok (.aload_n 0, 1) := by decide +kernel
theorem dX9_takesHand_50 : decode cX9_takesHand 50 = .ok (.getfield 64, 3) := by decide +kernel
theorem dX9_takesHand_53 : decode cX9_takesHand 53 = .ok (.iconst 0, 1) := by decide +kernel
theorem dX9_takesHand_54 : decode cX9_takesHand 54 = .ok (.iaload, 1) := by decide +kernel
theorem dX9_takesHand_55 : decode cX9_takesHand 55 = .ok (.iconst 1, 1) := by decide +kernel
theorem dX9_takesHand_56 : decode cX9_takesHand 56 = .ok (.iadd, 1) := by decide +kernel
theorem dX9_takesHand_57 : decode cX9_takesHand 57 = .ok (.bipush 7, 2) := by decide +kernel
theorem dX9_takesHand_59 : decode cX9_takesHand 59 = .ok (.invokevirtual 273, 3) := by decide +kernel
theorem dX9_takesHand_62 : decode cX9_takesHand 62 = .ok (.ifCond .ne 5, 3) := by decide +kernel
theorem dX9_takesHand_65 : decode cX9_takesHand 65 = .ok (.iconst 0, 1) := by decide +kernel
theorem dX9_takesHand_66 : decode cX9_takesHand 66 = .ok (.ireturn, 1) := by decide +kernel
theorem dX9_takesHand_67 : decode cX9_takesHand 67 = .ok (.aload_n 0, 1) := by decide +kernel
theorem dX9_takesHand_68 : decode cX9_takesHand 68 = .ok (.iconst 2, 1) := by decide +kernel
theorem dX9_takesHand_69 : decode cX9_takesHand 69 = .ok (.iconst 0, 1) := by decide +kernel
theorem dX9_takesHand_70 : decode cX9_takesHand 70 = .ok (.iconst 5, 1) := by decide +kernel
theorem dX9_takesHand_71 : decode cX9_takesHand 71 = .ok (.invokevirtual 273, 3) := by decide +kernel
theorem dX9_takesHand_74 : decode cX9_takesHand 74 = .ok (.ifCond .eq 25, 3) := by decide +kernel
theorem dX9_takesHand_77 : decode cX9_takesHand 77 = .ok (.aload_n 0, 1) := by decide +kernel
theorem dX9_takesHand_78 : decode cX9_takesHand 78 = .ok (.iconst 3, 1) := by decide +kernel
theorem dX9_takesHand_79 : decode cX9_takesHand 79 = .ok (.iconst 0, 1) := by decide +kernel
theorem dX9_takesHand_80 : decode cX9_takesHand 80 = .ok (.bipush 9, 2) := by decide +kernel
theorem dX9_takesHand_82 : decode cX9_takesHand 82 = .ok (.invokevirtual 273, 3) := by decide +kernel
theorem dX9_takesHand_85 : decode cX9_takesHand 85 = .ok (.ifCond .eq 14, 3) := by decide +kernel
theorem dX9_takesHand_88 : decode cX9_takesHand 88 = .ok (.aload_n 0, 1) := by decide +kernel
theorem dX9_takesHand_89 : decode cX9_takesHand 89 = .ok (.iconst 4, 1) := by decide +kernel
theorem dX9_takesHand_90 : decode cX9_takesHand 90 = .ok (.iconst 0, 1) := by decide +kernel
theorem dX9_takesHand_91 : decode cX9_takesHand 91 = .ok (.bipush 9, 2) := by decide +kernel
theorem dX9_takesHand_93 : decode cX9_takesHand 93 = .ok (.invokevirtual 273, 3) := by decide +kernel
theorem dX9_takesHand_96 : decode cX9_takesHand 96 = .ok (.ifCond .ne 5, 3) := by decide +kernel
theorem dX9_takesHand_99 : decode cX9_takesHand 99 = .ok (.iconst 0, 1) := by decide +kernel
theorem dX9_takesHand_100 : decode cX9_takesHand 100 = .ok (.ireturn, 1) := by decide +kernel
theorem dX9_takesHand_101 : decode cX9_takesHand 101 = .ok (.aload_n 0, 1) := by decide +kernel
theorem dX9_takesHand_102 : decode cX9_takesHand 102 = .ok (.getfield 58, 3) := by decide +kernel
theorem dX9_takesHand_105 : decode cX9_takesHand 105 = .ok (.aload_n 0, 1) := by decide +kernel
theorem dX9_takesHand_106 : decode cX9_takesHand 106 = .ok (.getfield 64, 3) := by decide +kernel
theorem dX9_takesHand_109 : decode cX9_takesHand 109 = .ok (.iconst 1, 1) := by decide +kernel
theorem dX9_takesHand_110 : decode cX9_takesHand 110 = .ok (.iaload, 1) := by decide +kernel
theorem dX9_takesHand_111 : decode cX9_takesHand 111 = .ok (.aload_n 0, 1) := by decide +kernel
theorem dX9_takesHand_112 : decode cX9_takesHand 112 = .ok (.getfield 64, 3) := by decide +kernel
theorem dX9_takesHand_115 : decode cX9_takesHand 115 = .ok (.iconst 2, 1) := by decide +kernel
theorem dX9_takesHand_116 : decode cX9_takesHand 116 = .ok (.iaload, 1) := by decide +kernel
theorem dX9_takesHand_117 : decode cX9_takesHand 117 = .ok (.aload_n 0, 1) := by decide +kernel
theorem dX9_takesHand_118 : decode cX9_takesHand 118 = .ok (.getfield 64, 3) := by decide +kernel
theorem dX9_takesHand_121 : decode cX9_takesHand 121 = .ok (.iconst 3, 1) := by decide +kernel
theorem dX9_takesHand_122 : decode cX9_takesHand 122 = .ok (.iaload, 1) := by decide +kernel
theorem dX9_takesHand_123 : decode cX9_takesHand 123 = .ok (.aload_n 0, 1) := by decide +kernel
theorem dX9_takesHand_124 : decode cX9_takesHand 124 = .ok (.getfield 64, 3) := by decide +kernel
theorem dX9_takesHand_127 : decode cX9_takesHand 127 = .ok (.iconst 4, 1) := by decide +kernel
theorem dX9_takesHand_128 : decode cX9_takesHand 128 = .ok (.iaload, 1) := by decide +kernel
theorem dX9_takesHand_129 : decode cX9_takesHand 129 = .ok (.aload_n 0, 1) := by decide +kernel
theorem dX9_takesHand_130 : decode cX9_takesHand 130 = .ok (.getfield 58, 3) := by decide +kernel
theorem dX9_takesHand_133 : decode cX9_takesHand 133 = .ok (.aload_n 0, 1) := by decide +kernel
theorem dX9_takesHand_134 : decode cX9_takesHand 134 = .ok (.getfield 64, 3) := by decide +kernel
theorem dX9_takesHand_137 : decode cX9_takesHand 137 = .ok (.iconst 0, 1) := by decide +kernel
theorem dX9_takesHand_138 : decode cX9_takesHand 138 = .ok (.iaload, 1) := by decide +kernel
theorem dX9_takesHand_139 : decode cX9_takesHand 139 = .ok (.laload, 1) := by decide +kernel
theorem dX9_takesHand_140 : decode cX9_takesHand 140 = .ok (.invokestatic 155, 3) := by decide +kernel
theorem dX9_takesHand_143 : decode cX9_takesHand 143 = .ok (.lastore, 1) := by decide +kernel
theorem dX9_takesHand_144 : decode cX9_takesHand 144 = .ok (.aload_n 0, 1) := by decide +kernel
theorem dX9_takesHand_145 : decode cX9_takesHand 145 = .ok (.getfield 61, 3) := by decide +kernel
theorem dX9_takesHand_148 : decode cX9_takesHand 148 = .ok (.aload_n 0, 1) := by decide +kernel
theorem dX9_takesHand_149 : decode cX9_takesHand 149 = .ok (.getfield 64, 3) := by decide +kernel
theorem dX9_takesHand_152 : decode cX9_takesHand 152 = .ok (.iconst 1, 1) := by decide +kernel
theorem dX9_takesHand_153 : decode cX9_takesHand 153 = .ok (.iaload, 1) := by decide +kernel
theorem dX9_takesHand_154 : decode cX9_takesHand 154 = .ok (.aload_n 0, 1) := by decide +kernel
theorem dX9_takesHand_155 : decode cX9_takesHand 155 = .ok (.getfield 64, 3) := by decide +kernel
theorem dX9_takesHand_158 : decode cX9_takesHand 158 = .ok (.iconst 0, 1) := by decide +kernel
theorem dX9_takesHand_159 : decode cX9_takesHand 159 = .ok (.iaload, 1) := by decide +kernel
theorem dX9_takesHand_160 : decode cX9_takesHand 160 = .ok (.iastore, 1) := by decide +kernel
theorem dX9_takesHand_161 : decode cX9_takesHand 161 = .ok (.iconst 1, 1) := by decide +kernel
theorem dX9_takesHand_162 : decode cX9_takesHand 162 = .ok (.ireturn, 1) := by decide +kernel
set_option maxRecDepth 20000 in
theorem ggX9_takesItem_X9_isWord : GoodIn wsX9_takesItem wsX9_isWord := goodIn_r _ [5, 6, 7, 8, 9, 81, 82, 83, 84, 85, 86, 87, 88, 89, 90, 91, 92, 93, 94, 95, 96, 97, 98, 99, 100, 101, 102, 103, 104, 105, 106, 107] (by decide +kernel) (by decide +kernel)
set_option maxRecDepth 20000 in
theorem gX9_takesItem_X9_isWord : GoodIn wsX9_takesItem (wsV RX9 276 RX9 yX9_isWord wsX9_isWord) := goodIn_app (goodIn_of _ (by decide +kernel)) ggX9_takesItem_X9_isWord
set_option maxRecDepth 20000 in
theorem ggX9_takesItem_X9_takesTale : GoodIn wsX9_takesItem wsX9_takesTale := goodIn_r _ [13, 14, 15, 16, 6, 17, 18, 19, 4, 20, 9, 7, 21, 22, 23, 24, 25, 8, 26, 27, 28, 29, 30, 31, 32, 33, 34, 35, 36, 37, 38, 39, 40, 41, 42, 43, 44, 45, 46, 47, 48, 49, 50, 81, 82, 83, 84, 85, 86, 87, 88, 89, 90, 91, 92, 93, 94, 95, 96, 97, 98, 99, 100, 101, 102, 103, 104, 105, 106, 107] (by decide +kernel) (by decide +kernel)
set_option maxRecDepth 20000 in
theorem gX9_takesItem_X9_takesTale : GoodIn wsX9_takesItem (wsV RX9 280 RX9 yX9_takesTale wsX9_takesTale) := goodIn_app (goodIn_of _ (by decide +kernel)) ggX9_takesItem_X9_takesTale
set_option maxRecDepth 20000 in
theorem ggX9_takesItem_X9_takesHand : GoodIn wsX9_takesItem wsX9_takesHand := goodIn_r _ [54, 6, 26, 15, 14, 16, 17, 18, 19, 4, 20, 9, 7, 21, 22, 23, 24, 25, 8, 27, 28, 29, 30, 31, 32, 33, 34, 35, 36, 37, 38, 39, 55, 56, 57, 58, 40, 41, 42, 43, 59, 60, 61, 62, 63, 64, 44, 45, 46, 65, 66, 67, 68, 47, 48, 49, 50, 69, 70, 71, 72, 73, 74, 75, 76, 77, 78, 79, 80, 81, 82, 83, 84, 85, 86, 87, 88, 89, 90, 91, 92, 93, 94, 95, 96, 97, 98, 99, 100, 101, 102, 103, 104, 105, 106, 107] (by decide +kernel) (by decide +kernel)
set_option maxRecDepth 20000 in
theorem gX9_takesItem_X9_takesHand : GoodIn wsX9_takesItem (wsV RX9 284 RX9 yX9_takesHand wsX9_takesHand) := goodIn_app (goodIn_of _ (by decide +kernel)) ggX9_takesItem_X9_takesHand
theorem dX9_takesItem_0 : decode cX9_takesItem 0 = .ok (.aload_n 0, 1) := by decide +kernel
theorem dX9_takesItem_1 : decode cX9_takesItem 1 = .ok (.iconst 4, 1) := by decide +kernel
theorem dX9_takesItem_2 : decode cX9_takesItem 2 = .ok (.bipush 116, 2) := by decide +kernel
theorem dX9_takesItem_4 : decode cX9_takesItem 4 = .ok (.bipush 97, 2) := by decide +kernel
theorem dX9_takesItem_6 : decode cX9_takesItem 6 = .ok (.bipush 108, 2) := by decide +kernel
theorem dX9_takesItem_8 : decode cX9_takesItem 8 = .ok (.bipush 101, 2) := by decide +kernel
theorem dX9_takesItem_10 : decode cX9_takesItem 10 = .ok (.iconst 0, 1) := by decide +kernel
theorem dX9_takesItem_11 : decode cX9_takesItem 11 = .ok (.invokevirtual 276, 3) := by decide +kernel
theorem dX9_takesItem_14 : decode cX9_takesItem 14 = .ok (.ifCond .eq 8, 3) := by decide +kernel
theorem dX9_takesItem_17 : decode cX9_takesItem 17 = .ok (.aload_n 0, 1) := by decide +kernel
theorem dX9_takesItem_18 : decode cX9_takesItem 18 = .ok (.invokevirtual 280, 3) := by decide +kernel
theorem dX9_takesItem_21 : decode cX9_takesItem 21 = .ok (.ireturn, 1) := by decide +kernel
theorem dX9_takesItem_22 : decode cX9_takesItem 22 = .ok (.aload_n 0, 1) := by decide +kernel
theorem dX9_takesItem_23 : decode cX9_takesItem 23 = .ok (.iconst 4, 1) := by decide +kernel
theorem dX9_takesItem_24 : decode cX9_takesItem 24 = .ok (.bipush 104, 2) := by decide +kernel
theorem dX9_takesItem_26 : decode cX9_takesItem 26 = .ok (.bipush 97, 2) := by decide +kernel
theorem dX9_takesItem_28 : decode cX9_takesItem 28 = .ok (.bipush 110, 2) := by decide +kernel
theorem dX9_takesItem_30 : decode cX9_takesItem 30 = .ok (.bipush 100, 2) := by decide +kernel
theorem dX9_takesItem_32 : decode cX9_takesItem 32 = .ok (.iconst 0, 1) := by decide +kernel
theorem dX9_takesItem_33 : decode cX9_takesItem 33 = .ok (.invokevirtual 276, 3) := by decide +kernel
theorem dX9_takesItem_36 : decode cX9_takesItem 36 = .ok (.ifCond .eq 14, 3) := by decide +kernel
theorem dX9_takesItem_39 : decode cX9_takesItem 39 = .ok (.aload_n 0, 1) := by decide +kernel
theorem dX9_takesItem_40 : decode cX9_takesItem 40 = .ok (.invokevirtual 284, 3) := by decide +kernel
theorem dX9_takesItem_43 : decode cX9_takesItem 43 = .ok (.ifCond .eq 7, 3) := by decide +kernel
theorem dX9_takesItem_46 : decode cX9_takesItem 46 = .ok (.iconst 1, 1) := by decide +kernel
theorem dX9_takesItem_47 : decode cX9_takesItem 47 = .ok (.goto 4, 3) := by decide +kernel
theorem dX9_takesItem_50 : decode cX9_takesItem 50 = .ok (.iconst 0, 1) := by decide +kernel
theorem dX9_takesItem_51 : decode cX9_takesItem 51 = .ok (.ireturn, 1) := by decide +kernel
set_option maxRecDepth 20000 in
theorem ggX9_read_X9_lookAt : GoodIn wsX9_read wsX9_lookAt := goodIn_r _ [11, 1, 12, 13, 14, 2, 15, 16, 17, 10, 18, 19, 20, 21, 22, 23, 24, 25, 26, 27, 28, 93, 94, 95, 96, 97, 98, 99, 100, 101, 102, 103, 104, 105, 106, 107, 108, 109, 110, 111, 112, 113, 114, 115, 116, 117, 118, 119] (by decide +kernel) (by decide +kernel)
set_option maxRecDepth 20000 in
theorem gX9_read_X9_lookAt : GoodIn wsX9_read (wsV RX9 266 RX9 yX9_lookAt wsX9_lookAt) := goodIn_app (goodIn_of _ (by decide +kernel)) ggX9_read_X9_lookAt
set_option maxRecDepth 20000 in
theorem ggX9_read_X9_isWord : GoodIn wsX9_read wsX9_isWord := goodIn_r _ [32, 2, 14, 13, 1, 93, 94, 95, 96, 97, 98, 99, 100, 101, 102, 103, 104, 105, 106, 107, 108, 109, 110, 111, 112, 113, 114, 115, 116, 117, 118, 119] (by decide +kernel) (by decide +kernel)
set_option maxRecDepth 20000 in
theorem gX9_read_X9_isWord : GoodIn wsX9_read (wsV RX9 276 RX9 yX9_isWord wsX9_isWord) := goodIn_app (goodIn_of _ (by decide +kernel)) ggX9_read_X9_isWord
set_option maxRecDepth 20000 in
theorem ggX9_read_X9_goBehind : GoodIn wsX9_read wsX9_goBehind := goodIn_r _ [36, 1, 14, 7, 8, 9, 10, 11, 12, 13, 2, 15, 16, 17, 18, 19, 20, 21, 22, 23, 24, 25, 26, 27, 28, 93, 94, 95, 96, 97, 98, 99, 100, 101, 102, 103, 104, 105, 106, 107, 108, 109, 110, 111, 112, 113, 114, 115, 116, 117, 118, 119] (by decide +kernel) (by decide +kernel)
set_option maxRecDepth 20000 in
theorem gX9_read_X9_goBehind : GoodIn wsX9_read (wsV RX9 270 RX9 yX9_goBehind wsX9_goBehind) := goodIn_app (goodIn_of _ (by decide +kernel)) ggX9_read_X9_goBehind
set_option maxRecDepth 20000 in
theorem ggX9_read_X9_takesItem : GoodIn wsX9_read wsX9_takesItem := goodIn_r _ [40, 29, 30, 31, 10, 32, 2, 14, 13, 1, 41, 42, 43, 44, 45, 3, 4, 33, 34, 35, 36, 7, 8, 9, 11, 12, 15, 16, 17, 18, 19, 20, 21, 22, 23, 24, 25, 26, 27, 28, 46, 47, 48, 49, 50, 51, 52, 53, 54, 55, 56, 57, 58, 59, 60, 61, 62, 63, 64, 65, 66, 67, 68, 69, 70, 71, 72, 73, 74, 75, 76, 77, 78, 79, 80, 81, 82, 83, 84, 85, 86, 93, 94, 95, 96, 97, 98, 99, 100, 101, 102, 103, 104, 105, 106, 107, 108, 109, 110, 111, 112, 113, 114, 115, 116, 117, 118, 119] (by decide +kernel) (by decide +kernel)
set_option maxRecDepth 20000 in
theorem gX9_read_X9_takesItem : GoodIn wsX9_read (wsV RX9 287 RX9 yX9_takesItem wsX9_takesItem) := goodIn_app (goodIn_of _ (by decide +kernel)) ggX9_read_X9_takesItem
set_option maxRecDepth 20000 in
theorem ggX9_read_X9_begin : GoodIn wsX9_read wsX9_begin := goodIn_r _ [90, 5, 6, 91, 92, 93, 94, 95, 96, 97, 98, 99, 100, 101, 102, 103, 104, 105, 106, 107, 108, 109, 110, 111, 112, 113, 114, 115, 116, 117, 118, 119] (by decide +kernel) (by decide +kernel)
set_option maxRecDepth 20000 in
theorem gX9_read_X9_begin : GoodIn wsX9_read (wsV RX9 67 RX9 yX9_begin wsX9_begin) := goodIn_app (goodIn_of _ (by decide +kernel)) ggX9_read_X9_begin
theorem dX9_read_0 : decode cX9_read 0 = .ok (.aload_n 0, 1) := by decide +kernel
theorem dX9_read_1 : decode cX9_read 1 = .ok (.iconst 0, 1) := by decide +kernel
theorem dX9_read_2 : decode cX9_read 2 = .ok (.invokevirtual 266, 3) := by decide +kernel
theorem dX9_read_5 : decode cX9_read 5 = .ok (.aload_n 0, 1) := by decide +kernel
theorem dX9_read_6 : decode cX9_read 6 = .ok (.iconst 5, 1) := by decide +kernel
theorem dX9_read_7 : decode cX9_read 7 = .ok (.bipush 104, 2) := by decide +kernel
theorem dX9_read_9 : decode cX9_read 9 = .ok (.bipush 111, 2) := by decide +kernel
theorem dX9_read_11 : decode cX9_read 11 = .ok (.bipush 117, 2) := by decide +kernel
theorem dX9_read_13 : decode cX9_read 13 = .ok (.bipush 115, 2) := by decide +kernel
theorem dX9_read_15 : decode cX9_read 15 = .ok (.bipush 101, 2) := by decide +kernel
theorem dX9_read_17 : decode cX9_read 17 = .ok (.invokevirtual 276, 3) := by decide +kernel
theorem dX9_read_20 : decode cX9_read 20 = .ok (.ifCond .ne 11, 3) := by decide +kernel
theorem dX9_read_23 : decode cX9_read 23 = .ok (.bipush (-10), 2) := by decide +kernel
theorem dX9_read_25 : decode cX9_read 25 = .ok (.aload_n 0, 1) := by decide +kernel
theorem dX9_read_26 : decode cX9_read 26 = .ok (.getfield 248, 3) := by decide +kernel
theorem dX9_read_29 : decode cX9_read 29 = .ok (.isub, 1) := by decide +kernel
theorem dX9_read_30 : decode cX9_read 30 = .ok (.ireturn, 1) := by decide +kernel
theorem dX9_read_31 : decode cX9_read 31 = .ok (.aload_n 0, 1) := by decide +kernel
theorem dX9_read_32 : decode cX9_read 32 = .ok (.invokevirtual 270, 3) := by decide +kernel
theorem dX9_read_35 : decode cX9_read 35 = .ok (.aload_n 0, 1) := by decide +kernel
theorem dX9_read_36 : decode cX9_read 36 = .ok (.getfield 254, 3) := by decide +kernel
theorem dX9_read_39 : decode cX9_read 39 = .ok (.iconst 3, 1) := by decide +kernel
theorem dX9_read_40 : decode cX9_read 40 = .ok (.if_icmp .eq 11, 3) := by decide +kernel
theorem dX9_read_43 : decode cX9_read 43 = .ok (.bipush (-10), 2) := by decide +kernel
theorem dX9_read_45 : decode cX9_read 45 = .ok (.aload_n 0, 1) := by decide +kernel
theorem dX9_read_46 : decode cX9_read 46 = .ok (.getfield 248, 3) := by decide +kernel
theorem dX9_read_49 : decode cX9_read 49 = .ok (.isub, 1) := by decide +kernel
theorem dX9_read_50 : decode cX9_read 50 = .ok (.ireturn, 1) := by decide +kernel
theorem dX9_read_51 : decode cX9_read 51 = .ok (.aload_n 0, 1) := by decide +kernel
theorem dX9_read_52 : decode cX9_read 52 = .ok (.invokevirtual 270, 3) := by decide +kernel
theorem dX9_read_55 : decode cX9_read 55 = .ok (.iconst 0, 1) := by decide +kernel
theorem dX9_read_56 : decode cX9_read 56 = .ok (.istore_n 1, 1) := by decide +kernel
theorem dX9_read_57 : decode cX9_read 57 = .ok (.iload_n 1, 1) := by decide +kernel
theorem dX9_read_58 : decode cX9_read 58 = .ok (.bipush 8, 2) := by decide +kernel
theorem dX9_read_60 : decode cX9_read 60 = .ok (.if_icmp .ge 23, 3) := by decide +kernel
theorem dX9_read_63 : decode cX9_read 63 = .ok (.aload_n 0, 1) := by decide +kernel
theorem dX9_read_64 : decode cX9_read 64 = .ok (.getfield 58, 3) := by decide +kernel
theorem dX9_read_67 : decode cX9_read 67 = .ok (.iload_n 1, 1) := by decide +kernel
theorem dX9_read_68 : decode cX9_read 68 = .ok (.lconst 0, 1) := by decide +kernel
theorem dX9_read_69 : decode cX9_read 69 = .ok (.lastore, 1) := by decide +kernel
theorem dX9_read_70 : decode cX9_read 70 = .ok (.aload_n 0, 1) := by decide +kernel
theorem dX9_read_71 : decode cX9_read 71 = .ok (.getfield 61, 3) := by decide +kernel
theorem dX9_read_74 : decode cX9_read 74 = .ok (.iload_n 1, 1) := by decide +kernel
theorem dX9_read_75 : decode cX9_read 75 = .ok (.iconst (-1), 1) := by decide +kernel
theorem dX9_read_76 : decode cX9_read 76 = .ok (.iastore, 1) := by decide +kernel
theorem dX9_read_77 : decode cX9_read 77 = .ok (.iinc 1 1, 3) := by decide +kernel
theorem dX9_read_80 : decode cX9_read 80 = .ok (.goto (-23), 3) := by decide +kernel
theorem dX9_read_83 : decode cX9_read 83 = .ok (.iconst 1, 1) := by decide +kernel
theorem dX9_read_84 : decode cX9_read 84 = .ok (.istore_n 1, 1) := by decide +kernel
theorem dX9_read_85 : decode cX9_read 85 = .ok (.aload_n 0, 1) := by decide +kernel
theorem dX9_read_86 : decode cX9_read 86 = .ok (.getfield 254, 3) := by decide +kernel
theorem dX9_read_89 : decode cX9_read 89 = .ok (.ifCond .eq 36, 3) := by decide +kernel
theorem dX9_read_92 : decode cX9_read 92 = .ok (.aload_n 0, 1) := by decide +kernel
theorem dX9_read_93 : decode cX9_read 93 = .ok (.invokevirtual 287, 3) := by decide +kernel
theorem dX9_read_96 : decode cX9_read 96 = .ok (.ifCond .eq 11, 3) := by decide +kernel
theorem dX9_read_99 : decode cX9_read 99 = .ok (.aload_n 0, 1) := by decide +kernel
theorem dX9_read_100 : decode cX9_read 100 = .ok (.getfield 254, 3) := by decide +kernel
theorem dX9_read_103 : decode cX9_read 103 = .ok (.iconst 3, 1) := by decide +kernel
theorem dX9_read_104 : decode cX9_read 104 = .ok (.if_icmp .eq 11, 3) := by decide +kernel
theorem dX9_read_107 : decode cX9_read 107 = .ok (.bipush (-10), 2) := by decide +kernel
theorem dX9_read_109 : decode cX9_read 109 = .ok (.aload_n 0, 1) := by decide +kernel
theorem dX9_read_110 : decode cX9_read 110 = .ok (.getfield 248, 3) := by decide +kernel
theorem dX9_read_113 : decode cX9_read 113 = .ok (.isub, 1) := by decide +kernel
theorem dX9_read_114 : decode cX9_read 114 = .ok (.ireturn, 1) := by decide +kernel
theorem dX9_read_115 : decode cX9_read 115 = .ok (.aload_n 0, 1) := by decide +kernel
theorem dX9_read_116 : decode cX9_read 116 = .ok (.invokevirtual 270, 3) := by decide +kernel
theorem dX9_read_119 : decode cX9_read 119 = .ok (.iinc 1 1, 3) := by decide +kernel
theorem dX9_read_122 : decode cX9_read 122 = .ok (.goto (-37), 3) := by decide +kernel
theorem dX9_read_125 : decode cX9_read 125 = .ok (.aload_n 0, 1) := by decide +kernel
theorem dX9_read_126 : decode cX9_read 126 = .ok (.invokevirtual 67, 3) := by decide +kernel
theorem dX9_read_129 : decode cX9_read 129 = .ok (.iconst 0, 1) := by decide +kernel
theorem dX9_read_130 : decode cX9_read 130 = .ok (.istore_n 2, 1) := by decide +kernel
theorem dX9_read_131 : decode cX9_read 131 = .ok (.iload_n 2, 1) := by decide +kernel
theorem dX9_read_132 : decode cX9_read 132 = .ok (.bipush 8, 2) := by decide +kernel
theorem dX9_read_134 : decode cX9_read 134 = .ok (.if_icmp .ge 33, 3) := by decide +kernel
theorem dX9_read_137 : decode cX9_read 137 = .ok (.aload_n 0, 1) := by decide +kernel
theorem dX9_read_138 : decode cX9_read 138 = .ok (.getfield 7, 3) := by decide +kernel
theorem dX9_read_141 : decode cX9_read 141 = .ok (.iload_n 2, 1) := by decide +kernel
theorem dX9_read_142 : decode cX9_read 142 = .ok (.aload_n 0, 1) := by decide +kernel
theorem dX9_read_143 : decode cX9_read 143 = .ok (.getfield 58, 3) := by decide +kernel
theorem dX9_read_146 : decode cX9_read 146 = .ok (.iload_n 2, 1) := by decide +kernel
theorem dX9_read_147 : decode cX9_read 147 = .ok (.laload, 1) := by decide +kernel
theorem dX9_read_148 : decode cX9_read 148 = .ok (.lastore, 1) := by decide +kernel
theorem dX9_read_149 : decode cX9_read 149 = .ok (.aload_n 0, 1) := by decide +kernel
theorem dX9_read_150 : decode cX9_read 150 = .ok (.getfield 13, 3) := by decide +kernel
theorem dX9_read_153 : decode cX9_read 153 = .ok (.iload_n 2, 1) := by decide +kernel
theorem dX9_read_154 : decode cX9_read 154 = .ok (.aload_n 0, 1) := by decide +kernel
theorem dX9_read_155 : decode cX9_read 155 = .ok (.getfield 61, 3) := by decide +kernel
theorem dX9_read_158 : decode cX9_read 158 = .ok (.iload_n 2, 1) := by decide +kernel
theorem dX9_read_159 : decode cX9_read 159 = .ok (.iaload, 1) := by decide +kernel
theorem dX9_read_160 : decode cX9_read 160 = .ok (.iastore, 1) := by decide +kernel
theorem dX9_read_161 : decode cX9_read 161 = .ok (.iinc 2 1, 3) := by decide +kernel
theorem dX9_read_164 : decode cX9_read 164 = .ok (.goto (-33), 3) := by decide +kernel
theorem dX9_read_167 : decode cX9_read 167 = .ok (.iload_n 1, 1) := by decide +kernel
theorem dX9_read_168 : decode cX9_read 168 = .ok (.ireturn, 1) := by decide +kernel
set_option maxRecDepth 20000 in
theorem ggX9_part_X9_bad : GoodIn wsX9_part wsX9_bad := goodIn_r _ [7, 8, 9, 10, 11, 12, 13, 14, 15, 16, 17, 18, 19, 20, 21, 22, 23, 24, 25, 26, 27, 28, 29, 30, 31, 32, 33, 34, 35] (by decide +kernel) (by decide +kernel)
set_option maxRecDepth 20000 in
theorem gX9_part_X9_bad : GoodIn wsX9_part (wsV RX9 126 RX9 yX9_bad wsX9_bad) := goodIn_app (goodIn_of _ (by decide +kernel)) ggX9_part_X9_bad
theorem dX9_part_0 : decode cX9_part 0 = .ok (.iload_n 1, 1) := by decide +kernel
theorem dX9_part_1 : decode cX9_part 1 = .ok (.ifCond .ne 10, 3) := by decide +kernel
theorem dX9_part_4 : decode cX9_part 4 = .ok (.aload_n 0, 1) := by decide +kernel
theorem dX9_part_5 : decode cX9_part 5 = .ok (.getfield 198, 3) := by decide +kernel
theorem dX9_part_8 : decode cX9_part 8 = .ok (.goto 22, 3) := by decide +kernel
theorem dX9_part_11 : decode cX9_part 11 = .ok (.iload_n 1, 1) := by decide +kernel
theorem dX9_part_12 : decode cX9_part 12 = .ok (.iconst 1, 1) := by decide +kernel
theorem dX9_part_13 : decode cX9_part 13 = .ok (.if_icmp .ne 10, 3) := by decide +kernel
theorem dX9_part_16 : decode cX9_part 16 = .ok (.aload_n 0, 1) := by decide +kernel
theorem dX9_part_17 : decode cX9_part 17 = .ok (.getfield 48, 3) := by decide +kernel
theorem dX9_part_20 : decode cX9_part 20 = .ok (.goto 10, 3) := by decide +kernel
theorem dX9_part_23 : decode cX9_part 23 = .ok (.aload_n 0, 1) := by decide +kernel
theorem dX9_part_24 : decode cX9_part 24 = .ok (.bipush (-2), 2) := by decide +kernel
theorem dX9_part_26 : decode cX9_part 26 = .ok (.invokevirtual 126, 3) := by decide +kernel
theorem dX9_part_29 : decode cX9_part 29 = .ok (.i2l, 1) := by decide +kernel
theorem dX9_part_30 : decode cX9_part 30 = .ok (.lreturn, 1) := by decide +kernel
set_option maxRecDepth 20000 in
theorem ggX9_image_X9_in : GoodIn wsX9_image wsX9_in := goodIn_r _ [17] (by decide +kernel) (by decide +kernel)
set_option maxRecDepth 20000 in
theorem gX9_image_X9_in : GoodIn wsX9_image (va_wsS RX9 72 yX9_in wsX9_in) := goodIn_app (goodIn_of _ (by decide +kernel)) ggX9_image_X9_in
set_option maxRecDepth 20000 in
theorem ggX9_image_X9_bad : GoodIn wsX9_image wsX9_bad := goodIn_r _ [21, 22, 23, 24, 25, 26, 27, 28, 29, 30, 31, 32, 33, 34, 35, 36, 37, 38, 39, 40, 41, 42, 43, 44, 45, 46, 47, 48, 49] (by decide +kernel) (by decide +kernel)
set_option maxRecDepth 20000 in
theorem gX9_image_X9_bad : GoodIn wsX9_image (wsV RX9 126 RX9 yX9_bad wsX9_bad) := goodIn_app (goodIn_of _ (by decide +kernel)) ggX9_image_X9_bad
theorem dX9_image_0 : decode cX9_image 0 = .ok (.iload_n 1, 1) := by decide +kernel
theorem dX9_image_1 : decode cX9_image 1 = .ok (.i2l, 1) := by decide +kernel
theorem dX9_image_2 : decode cX9_image 2 = .ok (.lconst 0, 1) := by decide +kernel
theorem dX9_image_3 : decode cX9_image 3 = .ok (.lconst 1, 1) := by decide +kernel
theorem dX9_image_4 : decode cX9_image 4 = .ok (.invokestatic 72, 3) := by decide +kernel
theorem dX9_image_7 : decode cX9_image 7 = .ok (.ifCond .ne 10, 3) := by decide +kernel
theorem dX9_image_10 : decode cX9_image 10 = .ok (.aload_n 0, 1) := by decide +kernel
theorem dX9_image_11 : decode cX9_image 11 = .ok (.bipush (-2), 2) := by decide +kernel
theorem dX9_image_13 : decode cX9_image 13 = .ok (.invokevirtual 126, 3) := by decide +kernel
theorem dX9_image_16 : decode cX9_image 16 = .ok (.ireturn, 1) := by decide +kernel
theorem dX9_image_17 : decode cX9_image 17 = .ok (.iconst 0, 1) := by decide +kernel
theorem dX9_image_18 : decode cX9_image 18 = .ok (.istore_n 2, 1) := by decide +kernel
theorem dX9_image_19 : decode cX9_image 19 = .ok (.iload_n 2, 1) := by decide +kernel
theorem dX9_image_20 : decode cX9_image 20 = .ok (.bipush 9, 2) := by decide +kernel
theorem dX9_image_22 : decode cX9_image 22 = .ok (.if_icmp .ge 26, 3) := by decide +kernel
theorem dX9_image_25 : decode cX9_image 25 = .ok (.aload_n 0, 1) := by decide +kernel
theorem dX9_image_26 : decode cX9_image 26 = .ok (.getfield 26, 3) := by decide +kernel
theorem dX9_image_29 : decode cX9_image 29 = .ok (.bipush 9, 2) := by decide +kernel
theorem dX9_image_31 : decode cX9_image 31 = .ok (.iload_n 1, 1) := by decide +kernel
theorem dX9_image_32 : decode cX9_image 32 = .ok (.imul, 1) := by decide +kernel
theorem dX9_image_33 : decode cX9_image 33 = .ok (.iload_n 2, 1) := by decide +kernel
theorem dX9_image_34 : decode cX9_image 34 = .ok (.iadd, 1) := by decide +kernel
theorem dX9_image_35 : decode cX9_image 35 = .ok (.aload_n 0, 1) := by decide +kernel
theorem dX9_image_36 : decode cX9_image 36 = .ok (.getfield 7, 3) := by decide +kernel
theorem dX9_image_39 : decode cX9_image 39 = .ok (.iload_n 2, 1) := by decide +kernel
theorem dX9_image_40 : decode cX9_image 40 = .ok (.laload, 1) := by decide +kernel
theorem dX9_image_41 : decode cX9_image 41 = .ok (.lastore, 1) := by decide +kernel
theorem dX9_image_42 : decode cX9_image 42 = .ok (.iinc 2 1, 3) := by decide +kernel
theorem dX9_image_45 : decode cX9_image 45 = .ok (.goto (-26), 3) := by decide +kernel
theorem dX9_image_48 : decode cX9_image 48 = .ok (.iconst 0, 1) := by decide +kernel
theorem dX9_image_49 : decode cX9_image 49 = .ok (.istore_n 2, 1) := by decide +kernel
theorem dX9_image_50 : decode cX9_image 50 = .ok (.iload_n 2, 1) := by decide +kernel
theorem dX9_image_51 : decode cX9_image 51 = .ok (.bipush 8, 2) := by decide +kernel
theorem dX9_image_53 : decode cX9_image 53 = .ok (.if_icmp .ge 26, 3) := by decide +kernel
theorem dX9_image_56 : decode cX9_image 56 = .ok (.aload_n 0, 1) := by decide +kernel
theorem dX9_image_57 : decode cX9_image 57 = .ok (.getfield 29, 3) := by decide +kernel
theorem dX9_image_60 : decode cX9_image 60 = .ok (.bipush 8, 2) := by decide +kernel
theorem dX9_image_62 : decode cX9_image 62 = .ok (.iload_n 1, 1) := by decide +kernel
theorem dX9_image_63 : decode cX9_image 63 = .ok (.imul, 1) := by decide +kernel
theorem dX9_image_64 : decode cX9_image 64 = .ok (.iload_n 2, 1) := by decide +kernel
theorem dX9_image_65 : decode cX9_image 65 = .ok (.iadd, 1) := by decide +kernel
theorem dX9_image_66 : decode cX9_image 66 = .ok (.aload_n 0, 1) := by decide +kernel
theorem dX9_image_67 : decode cX9_image 67 = .ok (.getfield 13, 3) := by decide +kernel
theorem dX9_image_70 : decode cX9_image 70 = .ok (.iload_n 2, 1) := by decide +kernel
theorem dX9_image_71 : decode cX9_image 71 = .ok (.iaload, 1) := by decide +kernel
theorem dX9_image_72 : decode cX9_image 72 = .ok (.iastore, 1) := by decide +kernel
theorem dX9_image_73 : decode cX9_image 73 = .ok (.iinc 2 1, 3) := by decide +kernel
theorem dX9_image_76 : decode cX9_image 76 = .ok (.goto (-26), 3) := by decide +kernel
theorem dX9_image_79 : decode cX9_image 79 = .ok (.aload_n 0, 1) := by decide +kernel
theorem dX9_image_80 : decode cX9_image 80 = .ok (.getfield 32, 3) := by decide +kernel
theorem dX9_image_83 : decode cX9_image 83 = .ok (.bipush 14, 2) := by decide +kernel
theorem dX9_image_85 : decode cX9_image 85 = .ok (.iload_n 1, 1) := by decide +kernel
theorem dX9_image_86 : decode cX9_image 86 = .ok (.imul, 1) := by decide +kernel
theorem dX9_image_87 : decode cX9_image 87 = .ok (.aload_n 0, 1) := by decide +kernel
theorem dX9_image_88 : decode cX9_image 88 = .ok (.getfield 111, 3) := by decide +kernel
theorem dX9_image_91 : decode cX9_image 91 = .ok (.iastore, 1) := by decide +kernel
theorem dX9_image_92 : decode cX9_image 92 = .ok (.aload_n 0, 1) := by decide +kernel
theorem dX9_image_93 : decode cX9_image 93 = .ok (.getfield 32, 3) := by decide +kernel
theorem dX9_image_96 : decode cX9_image 96 = .ok (.bipush 14, 2) := by decide +kernel
theorem dX9_image_98 : decode cX9_image 98 = .ok (.iload_n 1, 1) := by decide +kernel
theorem dX9_image_99 : decode cX9_image 99 = .ok (.imul, 1) := by decide +kernel
theorem dX9_image_100 : decode cX9_image 100 = .ok (.iconst 1, 1) := by decide +kernel
theorem dX9_image_101 : decode cX9_image 101 = .ok (.iadd, 1) := by decide +kernel
theorem dX9_image_102 : decode cX9_image 102 = .ok (.aload_n 0, 1) := by decide +kernel
theorem dX9_image_103 : decode cX9_image 103 = .ok (.getfield 115, 3) := by decide +kernel
theorem dX9_image_106 : decode cX9_image 106 = .ok (.iastore, 1) := by decide +kernel
theorem dX9_image_107 : decode cX9_image 107 = .ok (.iconst 0, 1) := by decide +kernel
theorem dX9_image_108 : decode cX9_image 108 = .ok (.istore_n 2, 1) := by decide +kernel
theorem dX9_image_109 : decode cX9_image 109 = .ok (.iload_n 2, 1) := by decide +kernel
theorem dX9_image_110 : decode cX9_image 110 = .ok (.bipush 12, 2) := by decide +kernel
theorem dX9_image_112 : decode cX9_image 112 = .ok (.if_icmp .ge 28, 3) := by decide +kernel
theorem dX9_image_115 : decode cX9_image 115 = .ok (.aload_n 0, 1) := by decide +kernel
theorem dX9_image_116 : decode cX9_image 116 = .ok (.getfield 32, 3) := by decide +kernel
theorem dX9_image_119 : decode cX9_image 119 = .ok (.bipush 14, 2) := by decide +kernel
theorem dX9_image_121 : decode cX9_image 121 = .ok (.iload_n 1, 1) := by decide +kernel
theorem dX9_image_122 : decode cX9_image 122 = .ok (.imul, 1) := by decide +kernel
theorem dX9_image_123 : decode cX9_image 123 = .ok (.iconst 2, 1) := by decide +kernel
theorem dX9_image_124 : decode cX9_image 124 = .ok (.iadd, 1) := by decide +kernel
theorem dX9_image_125 : decode cX9_image 125 = .ok (.iload_n 2, 1) := by decide +kernel
theorem dX9_image_126 : decode cX9_image 126 = .ok (.iadd, 1) := by decide +kernel
theorem dX9_image_127 : decode cX9_image 127 = .ok (.aload_n 0, 1) := by decide +kernel
theorem dX9_image_128 : decode cX9_image 128 = .ok (.getfield 17, 3) := by decide +kernel
theorem dX9_image_131 : decode cX9_image 131 = .ok (.iload_n 2, 1) := by decide +kernel
theorem dX9_image_132 : decode cX9_image 132 = .ok (.iaload, 1) := by decide +kernel
theorem dX9_image_133 : decode cX9_image 133 = .ok (.iastore, 1) := by decide +kernel
theorem dX9_image_134 : decode cX9_image 134 = .ok (.iinc 2 1, 3) := by decide +kernel
theorem dX9_image_137 : decode cX9_image 137 = .ok (.goto (-28), 3) := by decide +kernel
theorem dX9_image_140 : decode cX9_image 140 = .ok (.iconst 0, 1) := by decide +kernel
theorem dX9_image_141 : decode cX9_image 141 = .ok (.istore_n 2, 1) := by decide +kernel
theorem dX9_image_142 : decode cX9_image 142 = .ok (.iload_n 2, 1) := by decide +kernel
theorem dX9_image_143 : decode cX9_image 143 = .ok (.bipush 64, 2) := by decide +kernel
theorem dX9_image_145 : decode cX9_image 145 = .ok (.if_icmp .ge 43, 3) := by decide +kernel
theorem dX9_image_148 : decode cX9_image 148 = .ok (.aload_n 0, 1) := by decide +kernel
theorem dX9_image_149 : decode cX9_image 149 = .ok (.getfield 35, 3) := by decide +kernel
theorem dX9_image_152 : decode cX9_image 152 = .ok (.bipush 64, 2) := by decide +kernel
theorem dX9_image_154 : decode cX9_image 154 = .ok (.iload_n 1, 1) := by decide +kernel
theorem dX9_image_155 : decode cX9_image 155 = .ok (.imul, 1) := by decide +kernel
theorem dX9_image_156 : decode cX9_image 156 = .ok (.iload_n 2, 1) := by decide +kernel
theorem dX9_image_157 : decode cX9_image 157 = .ok (.iadd, 1) := by decide +kernel
theorem dX9_image_158 : decode cX9_image 158 = .ok (.aload_n 0, 1) := by decide +kernel
theorem dX9_image_159 : decode cX9_image 159 = .ok (.getfield 20, 3) := by decide +kernel
theorem dX9_image_162 : decode cX9_image 162 = .ok (.iload_n 2, 1) := by decide +kernel
theorem dX9_image_163 : decode cX9_image 163 = .ok (.laload, 1) := by decide +kernel
theorem dX9_image_164 : decode cX9_image 164 = .ok (.lastore, 1) := by decide +kernel
theorem dX9_image_165 : decode cX9_image 165 = .ok (.aload_n 0, 1) := by decide +kernel
theorem dX9_image_166 : decode cX9_image 166 = .ok (.getfield 38, 3) := by decide +kernel
theorem dX9_image_169 : decode cX9_image 169 = .ok (.bipush 64, 2) := by decide +kernel
theorem dX9_image_171 : decode cX9_image 171 = .ok (.iload_n 1, 1) := by decide +kernel
theorem dX9_image_172 : decode cX9_image 172 = .ok (.imul, 1) := by decide +kernel
theorem dX9_image_173 : decode cX9_image 173 = .ok (.iload_n 2, 1) := by decide +kernel
theorem dX9_image_174 : decode cX9_image 174 = .ok (.iadd, 1) := by decide +kernel
theorem dX9_image_175 : decode cX9_image 175 = .ok (.aload_n 0, 1) := by decide +kernel
theorem dX9_image_176 : decode cX9_image 176 = .ok (.getfield 23, 3) := by decide +kernel
theorem dX9_image_179 : decode cX9_image 179 = .ok (.iload_n 2, 1) := by decide +kernel
theorem dX9_image_180 : decode cX9_image 180 = .ok (.iaload, 1) := by decide +kernel
theorem dX9_image_181 : decode cX9_image 181 = .ok (.iastore, 1) := by decide +kernel
theorem dX9_image_182 : decode cX9_image 182 = .ok (.iinc 2 1, 3) := by decide +kernel
theorem dX9_image_185 : decode cX9_image 185 = .ok (.goto (-43), 3) := by decide +kernel
theorem dX9_image_188 : decode cX9_image 188 = .ok (.aload_n 0, 1) := by decide +kernel
theorem dX9_image_189 : decode cX9_image 189 = .ok (.getfield 41, 3) := by decide +kernel
theorem dX9_image_192 : decode cX9_image 192 = .ok (.iload_n 1, 1) := by decide +kernel
theorem dX9_image_193 : decode cX9_image 193 = .ok (.iconst 1, 1) := by decide +kernel
theorem dX9_image_194 : decode cX9_image 194 = .ok (.bastore, 1) := by decide +kernel
theorem dX9_image_195 : decode cX9_image 195 = .ok (.iconst 1, 1) := by decide +kernel
theorem dX9_image_196 : decode cX9_image 196 = .ok (.ireturn, 1) := by decide +kernel
set_option maxRecDepth 20000 in
theorem ggX9_from_X9_in : GoodIn wsX9_from wsX9_in := goodIn_r _ [17] (by decide +kernel) (by decide +kernel)
set_option maxRecDepth 20000 in
theorem gX9_from_X9_in : GoodIn wsX9_from (va_wsS RX9 72 yX9_in wsX9_in) := goodIn_app (goodIn_of _ (by decide +kernel)) ggX9_from_X9_in
set_option maxRecDepth 20000 in
theorem ggX9_from_X9_bad : GoodIn wsX9_from wsX9_bad := goodIn_r _ [21, 22, 27, 28, 29, 30, 31, 32, 33, 34, 35, 36, 37, 38, 39, 40, 41, 42, 43, 44, 45, 46, 47, 48, 49, 50, 51, 52, 53] (by decide +kernel) (by decide +kernel)
set_option maxRecDepth 20000 in
theorem gX9_from_X9_bad : GoodIn wsX9_from (wsV RX9 126 RX9 yX9_bad wsX9_bad) := goodIn_app (goodIn_of _ (by decide +kernel)) ggX9_from_X9_bad
set_option maxRecDepth 20000 in
theorem ggX9_from_X9_no : GoodIn wsX9_from wsX9_no := goodIn_r _ [26, 22, 27, 28, 29, 30, 31, 32, 33, 34, 35, 36, 37, 38, 39, 40, 41, 42, 43, 44, 45, 46, 47, 48, 49, 50, 51, 52, 53] (by decide +kernel) (by decide +kernel)
set_option maxRecDepth 20000 in
theorem gX9_from_X9_no : GoodIn wsX9_from (wsV RX9 152 RX9 yX9_no wsX9_no) := goodIn_app (goodIn_of _ (by decide +kernel)) ggX9_from_X9_no
theorem dX9_from_0 : decode cX9_from 0 = .ok (.iload_n 1, 1) := by decide +kernel
theorem dX9_from_1 : decode cX9_from 1 = .ok (.i2l, 1) := by decide +kernel
theorem dX9_from_2 : decode cX9_from 2 = .ok (.lconst 0, 1) := by decide +kernel
theorem dX9_from_3 : decode cX9_from 3 = .ok (.lconst 1, 1) := by decide +kernel
theorem dX9_from_4 : decode cX9_from 4 = .ok (.invokestatic 72, 3) := by decide +kernel
theorem dX9_from_7 : decode cX9_from 7 = .ok (.ifCond .ne 10, 3) := by decide +kernel
theorem dX9_from_10 : decode cX9_from 10 = .ok (.aload_n 0, 1) := by decide +kernel
theorem dX9_from_11 : decode cX9_from 11 = .ok (.bipush (-2), 2) := by decide +kernel
theorem dX9_from_13 : decode cX9_from 13 = .ok (.invokevirtual 126, 3) := by decide +kernel
theorem dX9_from_16 : decode cX9_from 16 = .ok (.ireturn, 1) := by decide +kernel
theorem dX9_from_17 : decode cX9_from 17 = .ok (.aload_n 0, 1) := by decide +kernel
theorem dX9_from_18 : decode cX9_from 18 = .ok (.getfield 41, 3) := by decide +kernel
theorem dX9_from_21 : decode cX9_from 21 = .ok (.iload_n 1, 1) := by decide +kernel
theorem dX9_from_22 : decode cX9_from 22 = .ok (.baload, 1) := by decide +kernel
theorem dX9_from_23 : decode cX9_from 23 = .ok (.ifCond .ne 8, 3) := by decide +kernel
theorem dX9_from_26 : decode cX9_from 26 = .ok (.aload_n 0, 1) := by decide +kernel
theorem dX9_from_27 : decode cX9_from 27 = .ok (.invokevirtual 152, 3) := by decide +kernel
theorem dX9_from_30 : decode cX9_from 30 = .ok (.ireturn, 1) := by decide +kernel
theorem dX9_from_31 : decode cX9_from 31 = .ok (.iconst 0, 1) := by decide +kernel
theorem dX9_from_32 : decode cX9_from 32 = .ok (.istore_n 2, 1) := by decide +kernel
theorem dX9_from_33 : decode cX9_from 33 = .ok (.iload_n 2, 1) := by decide +kernel
theorem dX9_from_34 : decode cX9_from 34 = .ok (.bipush 9, 2) := by decide +kernel
theorem dX9_from_36 : decode cX9_from 36 = .ok (.if_icmp .ge 26, 3) := by decide +kernel
theorem dX9_from_39 : decode cX9_from 39 = .ok (.aload_n 0, 1) := by decide +kernel
theorem dX9_from_40 : decode cX9_from 40 = .ok (.getfield 7, 3) := by decide +kernel
theorem dX9_from_43 : decode cX9_from 43 = .ok (.iload_n 2, 1) := by decide +kernel
theorem dX9_from_44 : decode cX9_from 44 = .ok (.aload_n 0, 1) := by decide +kernel
theorem dX9_from_45 : decode cX9_from 45 = .ok (.getfield 26, 3) := by decide +kernel
theorem dX9_from_48 : decode cX9_from 48 = .ok (.bipush 9, 2) := by decide +kernel
theorem dX9_from_50 : decode cX9_from 50 = .ok (.iload_n 1, 1) := by decide +kernel
theorem dX9_from_51 : decode cX9_from 51 = .ok (.imul, 1) := by decide +kernel
theorem dX9_from_52 : decode cX9_from 52 = .ok (.iload_n 2, 1) := by decide +kernel
theorem dX9_from_53 : decode cX9_from 53 = .ok (.iadd, 1) := by decide +kernel
theorem dX9_from_54 : decode cX9_from 54 = .ok (.laload, 1) := by decide +kernel
theorem dX9_from_55 : decode cX9_from 55 = .ok (.lastore, 1) := by decide +kernel
theorem dX9_from_56 : decode cX9_from 56 = .ok (.iinc 2 1, 3) := by decide +kernel
theorem dX9_from_59 : decode cX9_from 59 = .ok (.goto (-26), 3) := by decide +kernel
theorem dX9_from_62 : decode cX9_from 62 = .ok (.iconst 0, 1) := by decide +kernel
theorem dX9_from_63 : decode cX9_from 63 = .ok (.istore_n 2, 1) := by decide +kernel
theorem dX9_from_64 : decode cX9_from 64 = .ok (.iload_n 2, 1) := by decide +kernel
theorem dX9_from_65 : decode cX9_from 65 = .ok (.bipush 8, 2) := by decide +kernel
theorem dX9_from_67 : decode cX9_from 67 = .ok (.if_icmp .ge 26, 3) := by decide +kernel
theorem dX9_from_70 : decode cX9_from 70 = .ok (.aload_n 0, 1) := by decide +kernel
theorem dX9_from_71 : decode cX9_from 71 = .ok (.getfield 13, 3) := by decide +kernel
theorem dX9_from_74 : decode cX9_from 74 = .ok (.iload_n 2, 1) := by decide +kernel
theorem dX9_from_75 : decode cX9_from 75 = .ok (.aload_n 0, 1) := by decide +kernel
theorem dX9_from_76 : decode cX9_from 76 = .ok (.getfield 29, 3) := by decide +kernel
theorem dX9_from_79 : decode cX9_from 79 = .ok (.bipush 8, 2) := by decide +kernel
theorem dX9_from_81 : decode cX9_from 81 = .ok (.iload_n 1, 1) := by decide +kernel
theorem dX9_from_82 : decode cX9_from 82 = .ok (.imul, 1) := by decide +kernel
theorem dX9_from_83 : decode cX9_from 83 = .ok (.iload_n 2, 1) := by decide +kernel
theorem dX9_from_84 : decode cX9_from 84 = .ok (.iadd, 1) := by decide +kernel
theorem dX9_from_85 : decode cX9_from 85 = .ok (.iaload, 1) := by decide +kernel
theorem dX9_from_86 : decode cX9_from 86 = .ok (.iastore, 1) := by decide +kernel
theorem dX9_from_87 : decode cX9_from 87 = .ok (.iinc 2 1, 3) := by decide +kernel
theorem dX9_from_90 : decode cX9_from 90 = .ok (.goto (-26), 3) := by decide +kernel
theorem dX9_from_93 : decode cX9_from 93 = .ok (.aload_n 0, 1) := by decide +kernel
theorem dX9_from_94 : decode cX9_from 94 = .ok (.aload_n 0, 1) := by decide +kernel
theorem dX9_from_95 : decode cX9_from 95 = .ok (.getfield 32, 3) := by decide +kernel
theorem dX9_from_98 : decode cX9_from 98 = .ok (.bipush 14, 2) := by decide +kernel
theorem dX9_from_100 : decode cX9_from 100 = .ok (.iload_n 1, 1) := by decide +kernel
theorem dX9_from_101 : decode cX9_from 101 = .ok (.imul, 1) := by decide +kernel
theorem dX9_from_102 : decode cX9_from 102 = .ok (.iaload, 1) := by decide +kernel
theorem dX9_from_103 : decode cX9_from 103 = .ok (.putfield 111, 3) := by decide +kernel
theorem dX9_from_106 : decode cX9_from 106 = .ok (.aload_n 0, 1) := by decide +kernel
theorem dX9_from_107 : decode cX9_from 107 = .ok (.aload_n 0, 1) := by decide +kernel
theorem dX9_from_108 : decode cX9_from 108 = .ok (.getfield 32, 3) := by decide +kernel
theorem dX9_from_111 : decode cX9_from 111 = .ok (.bipush 14, 2) := by decide +kernel
theorem dX9_from_113 : decode cX9_from 113 = .ok (.iload_n 1, 1) := by decide +kernel
theorem dX9_from_114 : decode cX9_from 114 = .ok (.imul, 1) := by decide +kernel
theorem dX9_from_115 : decode cX9_from 115 = .ok (.iconst 1, 1) := by decide +kernel
theorem dX9_from_116 : decode cX9_from 116 = .ok (.iadd, 1) := by decide +kernel
theorem dX9_from_117 : decode cX9_from 117 = .ok (.iaload, 1) := by decide +kernel
theorem dX9_from_118 : decode cX9_from 118 = .ok (.putfield 115, 3) := by decide +kernel
theorem dX9_from_121 : decode cX9_from 121 = .ok (.iconst 0, 1) := by decide +kernel
theorem dX9_from_122 : decode cX9_from 122 = .ok (.istore_n 2, 1) := by decide +kernel
theorem dX9_from_123 : decode cX9_from 123 = .ok (.iload_n 2, 1) := by decide +kernel
theorem dX9_from_124 : decode cX9_from 124 = .ok (.bipush 12, 2) := by decide +kernel
theorem dX9_from_126 : decode cX9_from 126 = .ok (.if_icmp .ge 28, 3) := by decide +kernel
theorem dX9_from_129 : decode cX9_from 129 = .ok (.aload_n 0, 1) := by decide +kernel
theorem dX9_from_130 : decode cX9_from 130 = .ok (.getfield 17, 3) := by decide +kernel
theorem dX9_from_133 : decode cX9_from 133 = .ok (.iload_n 2, 1) := by decide +kernel
theorem dX9_from_134 : decode cX9_from 134 = .ok (.aload_n 0, 1) := by decide +kernel
theorem dX9_from_135 : decode cX9_from 135 = .ok (.getfield 32, 3) := by decide +kernel
theorem dX9_from_138 : decode cX9_from 138 = .ok (.bipush 14, 2) := by decide +kernel
theorem dX9_from_140 : decode cX9_from 140 = .ok (.iload_n 1, 1) := by decide +kernel
theorem dX9_from_141 : decode cX9_from 141 = .ok (.imul, 1) := by decide +kernel
theorem dX9_from_142 : decode cX9_from 142 = .ok (.iconst 2, 1) := by decide +kernel
theorem dX9_from_143 : decode cX9_from 143 = .ok (.iadd, 1) := by decide +kernel
theorem dX9_from_144 : decode cX9_from 144 = .ok (.iload_n 2, 1) := by decide +kernel
theorem dX9_from_145 : decode cX9_from 145 = .ok (.iadd, 1) := by decide +kernel
theorem dX9_from_146 : decode cX9_from 146 = .ok (.iaload, 1) := by decide +kernel
theorem dX9_from_147 : decode cX9_from 147 = .ok (.iastore, 1) := by decide +kernel
theorem dX9_from_148 : decode cX9_from 148 = .ok (.iinc 2 1, 3) := by decide +kernel
theorem dX9_from_151 : decode cX9_from 151 = .ok (.goto (-28), 3) := by decide +kernel
theorem dX9_from_154 : decode cX9_from 154 = .ok (.iconst 0, 1) := by decide +kernel
theorem dX9_from_155 : decode cX9_from 155 = .ok (.istore_n 2, 1) := by decide +kernel
theorem dX9_from_156 : decode cX9_from 156 = .ok (.iload_n 2, 1) := by decide +kernel
theorem dX9_from_157 : decode cX9_from 157 = .ok (.bipush 64, 2) := by decide +kernel
theorem dX9_from_159 : decode cX9_from 159 = .ok (.if_icmp .ge 43, 3) := by decide +kernel
theorem dX9_from_162 : decode cX9_from 162 = .ok (.aload_n 0, 1) := by decide +kernel
theorem dX9_from_163 : decode cX9_from 163 = .ok (.getfield 20, 3) := by decide +kernel
theorem dX9_from_166 : decode cX9_from 166 = .ok (.iload_n 2, 1) := by decide +kernel
theorem dX9_from_167 : decode cX9_from 167 = .ok (.aload_n 0, 1) := by decide +kernel
theorem dX9_from_168 : decode cX9_from 168 = .ok (.getfield 35, 3) := by decide +kernel
theorem dX9_from_171 : decode cX9_from 171 = .ok (.bipush 64, 2) := by decide +kernel
theorem dX9_from_173 : decode cX9_from 173 = .ok (.iload_n 1, 1) := by decide +kernel
theorem dX9_from_174 : decode cX9_from 174 = .ok (.imul, 1) := by decide +kernel
theorem dX9_from_175 : decode cX9_from 175 = .ok (.iload_n 2, 1) := by decide +kernel
theorem dX9_from_176 : decode cX9_from 176 = .ok (.iadd, 1) := by decide +kernel
theorem dX9_from_177 : decode cX9_from 177 = .ok (.laload, 1) := by decide +kernel
theorem dX9_from_178 : decode cX9_from 178 = .ok (.lastore, 1) := by decide +kernel
theorem dX9_from_179 : decode cX9_from 179 = .ok (.aload_n 0, 1) := by decide +kernel
theorem dX9_from_180 : decode cX9_from 180 = .ok (.getfield 23, 3) := by decide +kernel
theorem dX9_from_183 : decode cX9_from 183 = .ok (.iload_n 2, 1) := by decide +kernel
theorem dX9_from_184 : decode cX9_from 184 = .ok (.aload_n 0, 1) := by decide +kernel
theorem dX9_from_185 : decode cX9_from 185 = .ok (.getfield 38, 3) := by decide +kernel
theorem dX9_from_188 : decode cX9_from 188 = .ok (.bipush 64, 2) := by decide +kernel
theorem dX9_from_190 : decode cX9_from 190 = .ok (.iload_n 1, 1) := by decide +kernel
theorem dX9_from_191 : decode cX9_from 191 = .ok (.imul, 1) := by decide +kernel
theorem dX9_from_192 : decode cX9_from 192 = .ok (.iload_n 2, 1) := by decide +kernel
theorem dX9_from_193 : decode cX9_from 193 = .ok (.iadd, 1) := by decide +kernel
theorem dX9_from_194 : decode cX9_from 194 = .ok (.iaload, 1) := by decide +kernel
theorem dX9_from_195 : decode cX9_from 195 = .ok (.iastore, 1) := by decide +kernel
theorem dX9_from_196 : decode cX9_from 196 = .ok (.iinc 2 1, 3) := by decide +kernel
theorem dX9_from_199 : decode cX9_from 199 = .ok (.goto (-43), 3) := by decide +kernel
theorem dX9_from_202 : decode cX9_from 202 = .ok (.iconst 1, 1) := by decide +kernel
theorem dX9_from_203 : decode cX9_from 203 = .ok (.ireturn, 1) := by decide +kernel
set_option maxRecDepth 20000 in
theorem ggX9_status_X9_in : GoodIn wsX9_status wsX9_in := goodIn_r _ [6] (by decide +kernel) (by decide +kernel)
set_option maxRecDepth 20000 in
theorem gX9_status_X9_in : GoodIn wsX9_status (va_wsS RX9 72 yX9_in wsX9_in) := goodIn_app (goodIn_of _ (by decide +kernel)) ggX9_status_X9_in
set_option maxRecDepth 20000 in
theorem ggX9_status_X9_bad : GoodIn wsX9_status wsX9_bad := goodIn_r _ [10, 2, 11, 12, 13, 14, 15, 16, 17, 18, 19, 20, 21, 22, 23, 24, 25, 26, 27, 28, 29, 30, 31, 32, 33, 34, 35, 36, 37] (by decide +kernel) (by decide +kernel)
set_option maxRecDepth 20000 in
theorem gX9_status_X9_bad : GoodIn wsX9_status (wsV RX9 126 RX9 yX9_bad wsX9_bad) := goodIn_app (goodIn_of _ (by decide +kernel)) ggX9_status_X9_bad
theorem dX9_status_0 : decode cX9_status 0 = .ok (.iload_n 1, 1) := by decide +kernel
theorem dX9_status_1 : decode cX9_status 1 = .ok (.i2l, 1) := by decide +kernel
theorem dX9_status_2 : decode cX9_status 2 = .ok (.lconst 0, 1) := by decide +kernel
theorem dX9_status_3 : decode cX9_status 3 = .ok (.ldc2_w 290, 3) := by decide +kernel
theorem dX9_status_6 : decode cX9_status 6 = .ok (.invokestatic 72, 3) := by decide +kernel
theorem dX9_status_9 : decode cX9_status 9 = .ok (.ifCond .eq 12, 3) := by decide +kernel
theorem dX9_status_12 : decode cX9_status 12 = .ok (.aload_n 0, 1) := by decide +kernel
theorem dX9_status_13 : decode cX9_status 13 = .ok (.getfield 45, 3) := by decide +kernel
theorem dX9_status_16 : decode cX9_status 16 = .ok (.iload_n 1, 1) := by decide +kernel
theorem dX9_status_17 : decode cX9_status 17 = .ok (.iaload, 1) := by decide +kernel
theorem dX9_status_18 : decode cX9_status 18 = .ok (.goto 8, 3) := by decide +kernel
theorem dX9_status_21 : decode cX9_status 21 = .ok (.aload_n 0, 1) := by decide +kernel
theorem dX9_status_22 : decode cX9_status 22 = .ok (.iconst (-1), 1) := by decide +kernel
theorem dX9_status_23 : decode cX9_status 23 = .ok (.invokevirtual 126, 3) := by decide +kernel
theorem dX9_status_26 : decode cX9_status 26 = .ok (.ireturn, 1) := by decide +kernel
set_option maxRecDepth 20000 in
theorem ggX9_allParts_X9_many : GoodIn wsX9_allParts wsX9_many := goodIn_r _ [5] (by decide +kernel) (by decide +kernel)
set_option maxRecDepth 20000 in
theorem gX9_allParts_X9_many : GoodIn wsX9_allParts (va_wsS RX9 82 yX9_many wsX9_many) := goodIn_app (goodIn_of _ (by decide +kernel)) ggX9_allParts_X9_many
theorem dX9_allParts_0 : decode cX9_allParts 0 = .ok (.iconst 0, 1) := by decide +kernel
theorem dX9_allParts_1 : decode cX9_allParts 1 = .ok (.istore_n 1, 1) := by decide +kernel
theorem dX9_allParts_2 : decode cX9_allParts 2 = .ok (.iconst 0, 1) := by decide +kernel
theorem dX9_allParts_3 : decode cX9_allParts 3 = .ok (.istore_n 2, 1) := by decide +kernel
theorem dX9_allParts_4 : decode cX9_allParts 4 = .ok (.iload_n 2, 1) := by decide +kernel
theorem dX9_allParts_5 : decode cX9_allParts 5 = .ok (.bipush 8, 2) := by decide +kernel
theorem dX9_allParts_7 : decode cX9_allParts 7 = .ok (.if_icmp .ge 21, 3) := by decide +kernel
theorem dX9_allParts_10 : decode cX9_allParts 10 = .ok (.iload_n 1, 1) := by decide +kernel
theorem dX9_allParts_11 : decode cX9_allParts 11 = .ok (.aload_n 0, 1) := by decide +kernel
theorem dX9_allParts_12 : decode cX9_allParts 12 = .ok (.getfield 7, 3) := by decide +kernel
theorem dX9_allParts_15 : decode cX9_allParts 15 = .ok (.iload_n 2, 1) := by decide +kernel
theorem dX9_allParts_16 : decode cX9_allParts 16 = .ok (.laload, 1) := by decide +kernel
theorem dX9_allParts_17 : decode cX9_allParts 17 = .ok (.invokestatic 82, 3) := by decide +kernel
theorem dX9_allParts_20 : decode cX9_allParts 20 = .ok (.iadd, 1) := by decide +kernel
theorem dX9_allParts_21 : decode cX9_allParts 21 = .ok (.istore_n 1, 1) := by decide +kernel
theorem dX9_allParts_22 : decode cX9_allParts 22 = .ok (.iinc 2 1, 3) := by decide +kernel
theorem dX9_allParts_25 : decode cX9_allParts 25 = .ok (.goto (-21), 3) := by decide +kernel
theorem dX9_allParts_28 : decode cX9_allParts 28 = .ok (.iload_n 1, 1) := by decide +kernel
theorem dX9_allParts_29 : decode cX9_allParts 29 = .ok (.ireturn, 1) := by decide +kernel
set_option maxRecDepth 20000 in
theorem ggX9_counted_X9_told : GoodIn wsX9_counted wsX9_told := goodIn_r _ [8, 9, 21, 22, 23, 24, 25, 26, 27, 28, 29, 30, 31, 32, 33, 34, 35, 36, 37, 38, 39, 40, 41, 42, 43, 44, 45, 46, 47] (by decide +kernel) (by decide +kernel)
set_option maxRecDepth 20000 in
theorem gX9_counted_X9_told : GoodIn wsX9_counted (wsV RX9 118 RX9 yX9_told wsX9_told) := goodIn_app (goodIn_of _ (by decide +kernel)) ggX9_counted_X9_told
set_option maxRecDepth 20000 in
theorem ggX9_counted_X9_allParts : GoodIn wsX9_counted wsX9_allParts := goodIn_r _ [13, 9, 14, 15, 7, 16, 21, 22, 23, 24, 25, 26, 27, 28, 29, 30, 31, 32, 33, 34, 35, 36, 37, 38, 39, 40, 41, 42, 43, 44, 45, 46, 47] (by decide +kernel) (by decide +kernel)
set_option maxRecDepth 20000 in
theorem gX9_counted_X9_allParts : GoodIn wsX9_counted (wsV RX9 292 RX9 yX9_allParts wsX9_allParts) := goodIn_app (goodIn_of _ (by decide +kernel)) ggX9_counted_X9_allParts
set_option maxRecDepth 20000 in
theorem ggX9_counted_X9_rowMany : GoodIn wsX9_counted wsX9_rowMany := goodIn_r _ [20, 9, 14, 15, 7, 16, 21, 22, 23, 24, 25, 26, 27, 28, 29, 30, 31, 32, 33, 34, 35, 36, 37, 38, 39, 40, 41, 42, 43, 44, 45, 46, 47] (by decide +kernel) (by decide +kernel)
set_option maxRecDepth 20000 in
theorem gX9_counted_X9_rowMany : GoodIn wsX9_counted (wsV RX9 130 RX9 yX9_rowMany wsX9_rowMany) := goodIn_app (goodIn_of _ (by decide +kernel)) ggX9_counted_X9_rowMany
theorem dX9_counted_0 : decode cX9_counted 0 = .ok (.iload_n 1, 1) := by decide +kernel
theorem dX9_counted_1 : decode cX9_counted 1 = .ok (.tableswitch 60 0 4 #[35, 40, 45, 50, 55], 35) := by decide +kernel
theorem dX9_counted_36 : decode cX9_counted 36 = .ok (.aload_n 0, 1) := by decide +kernel
theorem dX9_counted_37 : decode cX9_counted 37 = .ok (.invokevirtual 118, 3) := by decide +kernel
theorem dX9_counted_40 : decode cX9_counted 40 = .ok (.ireturn, 1) := by decide +kernel
theorem dX9_counted_41 : decode cX9_counted 41 = .ok (.aload_n 0, 1) := by decide +kernel
theorem dX9_counted_42 : decode cX9_counted 42 = .ok (.invokevirtual 292, 3) := by decide +kernel
theorem dX9_counted_45 : decode cX9_counted 45 = .ok (.ireturn, 1) := by decide +kernel
theorem dX9_counted_46 : decode cX9_counted 46 = .ok (.aload_n 0, 1) := by decide +kernel
theorem dX9_counted_47 : decode cX9_counted 47 = .ok (.invokevirtual 130, 3) := by decide +kernel
theorem dX9_counted_50 : decode cX9_counted 50 = .ok (.ireturn, 1) := by decide +kernel
theorem dX9_counted_51 : decode cX9_counted 51 = .ok (.aload_n 0, 1) := by decide +kernel
theorem dX9_counted_52 : decode cX9_counted 52 = .ok (.getfield 111, 3) := by decide +kernel
theorem dX9_counted_55 : decode cX9_counted 55 = .ok (.ireturn, 1) := by decide +kernel
theorem dX9_counted_56 : decode cX9_counted 56 = .ok (.aload_n 0, 1) := by decide +kernel
theorem dX9_counted_57 : decode cX9_counted 57 = .ok (.getfield 115, 3) := by decide +kernel
theorem dX9_counted_60 : decode cX9_counted 60 = .ok (.ireturn, 1) := by decide +kernel
theorem dX9_counted_61 : decode cX9_counted 61 = .ok (.aload_n 0, 1) := by decide +kernel
theorem dX9_counted_62 : decode cX9_counted 62 = .ok (.getfield 237, 3) := by decide +kernel
theorem dX9_counted_65 : decode cX9_counted 65 = .ok (.ireturn, 1) := by decide +kernel
set_option maxRecDepth 20000 in
theorem ggX9_count_X9_in : GoodIn wsX9_count wsX9_in := goodIn_r _ [5] (by decide +kernel) (by decide +kernel)
set_option maxRecDepth 20000 in
theorem gX9_count_X9_in : GoodIn wsX9_count (va_wsS RX9 72 yX9_in wsX9_in) := goodIn_app (goodIn_of _ (by decide +kernel)) ggX9_count_X9_in
set_option maxRecDepth 20000 in
theorem ggX9_count_X9_counted : GoodIn wsX9_count wsX9_counted := goodIn_r _ [9, 10, 11, 12, 13, 14, 15, 4, 16, 17, 18, 19, 20, 21, 22, 23, 24, 25, 26, 27, 28, 34, 35, 36, 37, 38, 39, 40, 41, 42, 43, 44, 45, 46, 47, 48, 49, 50, 51, 52, 53, 54, 55, 56, 57, 58, 59, 60] (by decide +kernel) (by decide +kernel)
set_option maxRecDepth 20000 in
theorem gX9_count_X9_counted : GoodIn wsX9_count (wsV RX9 295 RX9 yX9_counted wsX9_counted) := goodIn_app (goodIn_of _ (by decide +kernel)) ggX9_count_X9_counted
set_option maxRecDepth 20000 in
theorem ggX9_count_X9_bad : GoodIn wsX9_count wsX9_bad := goodIn_r _ [32, 33, 34, 35, 36, 37, 38, 39, 40, 41, 42, 43, 44, 45, 46, 47, 48, 49, 50, 51, 52, 53, 54, 55, 56, 57, 58, 59, 60] (by decide +kernel) (by decide +kernel)
set_option maxRecDepth 20000 in
theorem gX9_count_X9_bad : GoodIn wsX9_count (wsV RX9 126 RX9 yX9_bad wsX9_bad) := goodIn_app (goodIn_of _ (by decide +kernel)) ggX9_count_X9_bad
theorem dX9_count_0 : decode cX9_count 0 = .ok (.iload_n 1, 1) := by decide +kernel
theorem dX9_count_1 : decode cX9_count 1 = .ok (.i2l, 1) := by decide +kernel
theorem dX9_count_2 : decode cX9_count 2 = .ok (.lconst 0, 1) := by decide +kernel
theorem dX9_count_3 : decode cX9_count 3 = .ok (.ldc2_w 146, 3) := by decide +kernel
theorem dX9_count_6 : decode cX9_count 6 = .ok (.invokestatic 72, 3) := by decide +kernel
theorem dX9_count_9 : decode cX9_count 9 = .ok (.ifCond .eq 11, 3) := by decide +kernel
theorem dX9_count_12 : decode cX9_count 12 = .ok (.aload_n 0, 1) := by decide +kernel
theorem dX9_count_13 : decode cX9_count 13 = .ok (.iload_n 1, 1) := by decide +kernel
theorem dX9_count_14 : decode cX9_count 14 = .ok (.invokevirtual 295, 3) := by decide +kernel
theorem dX9_count_17 : decode cX9_count 17 = .ok (.goto 9, 3) := by decide +kernel
theorem dX9_count_20 : decode cX9_count 20 = .ok (.aload_n 0, 1) := by decide +kernel
theorem dX9_count_21 : decode cX9_count 21 = .ok (.bipush (-2), 2) := by decide +kernel
theorem dX9_count_23 : decode cX9_count 23 = .ok (.invokevirtual 126, 3) := by decide +kernel
theorem dX9_count_26 : decode cX9_count 26 = .ok (.ireturn, 1) := by decide +kernel
set_option maxRecDepth 20000 in
theorem ggX9_partsIn_X9_many : GoodIn wsX9_partsIn wsX9_many := goodIn_r _ [5] (by decide +kernel) (by decide +kernel)
set_option maxRecDepth 20000 in
theorem gX9_partsIn_X9_many : GoodIn wsX9_partsIn (va_wsS RX9 82 yX9_many wsX9_many) := goodIn_app (goodIn_of _ (by decide +kernel)) ggX9_partsIn_X9_many
set_option maxRecDepth 20000 in
theorem ggX9_partsIn_X9_partOf : GoodIn wsX9_partsIn wsX9_partOf := goodIn_r _ [8, 9] (by decide +kernel) (by decide +kernel)
set_option maxRecDepth 20000 in
theorem gX9_partsIn_X9_partOf : GoodIn wsX9_partsIn (va_wsS RX9 86 yX9_partOf wsX9_partOf) := goodIn_app (goodIn_of _ (by decide +kernel)) ggX9_partsIn_X9_partOf
theorem dX9_partsIn_0 : decode cX9_partsIn 0 = .ok (.lload_n 0, 1) := by decide +kernel
theorem dX9_partsIn_1 : decode cX9_partsIn 1 = .ok (.lstore 4, 2) := by decide +kernel
theorem dX9_partsIn_3 : decode cX9_partsIn 3 = .ok (.iconst 0, 1) := by decide +kernel
theorem dX9_partsIn_4 : decode cX9_partsIn 4 = .ok (.istore 6, 2) := by decide +kernel
theorem dX9_partsIn_6 : decode cX9_partsIn 6 = .ok (.iload 6, 2) := by decide +kernel
theorem dX9_partsIn_8 : decode cX9_partsIn 8 = .ok (.lload_n 2, 1) := by decide +kernel
theorem dX9_partsIn_9 : decode cX9_partsIn 9 = .ok (.invokestatic 82, 3) := by decide +kernel
theorem dX9_partsIn_12 : decode cX9_partsIn 12 = .ok (.if_icmp .ge 25, 3) := by decide +kernel
theorem dX9_partsIn_15 : decode cX9_partsIn 15 = .ok (.ldc2_w 298, 3) := by decide +kernel
theorem dX9_partsIn_18 : decode cX9_partsIn 18 = .ok (.lload 4, 2) := by decide +kernel
theorem dX9_partsIn_20 : decode cX9_partsIn 20 = .ok (.lmul, 1) := by decide +kernel
theorem dX9_partsIn_21 : decode cX9_partsIn 21 = .ok (.lload_n 2, 1) := by decide +kernel
theorem dX9_partsIn_22 : decode cX9_partsIn 22 = .ok (.iload 6, 2) := by decide +kernel
theorem dX9_partsIn_24 : decode cX9_partsIn 24 = .ok (.invokestatic 86, 3) := by decide +kernel
theorem dX9_partsIn_27 : decode cX9_partsIn 27 = .ok (.i2l, 1) := by decide +kernel
theorem dX9_partsIn_28 : decode cX9_partsIn 28 = .ok (.ladd, 1) := by decide +kernel
theorem dX9_partsIn_29 : decode cX9_partsIn 29 = .ok (.lstore 4, 2) := by decide +kernel
theorem dX9_partsIn_31 : decode cX9_partsIn 31 = .ok (.iinc 6 1, 3) := by decide +kernel
theorem dX9_partsIn_34 : decode cX9_partsIn 34 = .ok (.goto (-28), 3) := by decide +kernel
theorem dX9_partsIn_37 : decode cX9_partsIn 37 = .ok (.lload 4, 2) := by decide +kernel
theorem dX9_partsIn_39 : decode cX9_partsIn 39 = .ok (.lreturn, 1) := by decide +kernel
set_option maxRecDepth 20000 in
theorem ggX9_digest_X9_counted : GoodIn wsX9_digest wsX9_counted := goodIn_r _ [13, 5, 14, 15, 16, 17, 18, 12, 19, 3, 20, 21, 22, 23, 24, 25, 26, 27, 28, 29, 30, 38, 39, 40, 41, 42, 43, 44, 45, 46, 47, 48, 49, 50, 51, 52, 53, 54, 55, 56, 57, 58, 59, 60, 61, 62, 63, 64] (by decide +kernel) (by decide +kernel)
set_option maxRecDepth 20000 in
theorem gX9_digest_X9_counted : GoodIn wsX9_digest (wsV RX9 295 RX9 yX9_counted wsX9_counted) := goodIn_app (goodIn_of _ (by decide +kernel)) ggX9_digest_X9_counted
set_option maxRecDepth 20000 in
theorem ggX9_digest_X9_many : GoodIn wsX9_digest wsX9_many := goodIn_r _ [26] (by decide +kernel) (by decide +kernel)
set_option maxRecDepth 20000 in
theorem gX9_digest_X9_many : GoodIn wsX9_digest (va_wsS RX9 82 yX9_many wsX9_many) := goodIn_app (goodIn_of _ (by decide +kernel)) ggX9_digest_X9_many
set_option maxRecDepth 20000 in
theorem ggX9_digest_X9_partsIn : GoodIn wsX9_digest wsX9_partsIn := goodIn_r _ [33, 2, 24, 25, 12, 26, 34, 35, 36, 37] (by decide +kernel) (by decide +kernel)
set_option maxRecDepth 20000 in
theorem gX9_digest_X9_partsIn : GoodIn wsX9_digest (va_wsS RX9 302 yX9_partsIn wsX9_partsIn) := goodIn_app (goodIn_of _ (by decide +kernel)) ggX9_digest_X9_partsIn
theorem dX9_digest_0 : decode cX9_digest 0 = .ok (.ldc2_w 300, 3) := by decide +kernel
theorem dX9_digest_3 : decode cX9_digest 3 = .ok (.lstore_n 1, 1) := by decide +kernel
theorem dX9_digest_4 : decode cX9_digest 4 = .ok (.iconst 0, 1) := by decide +kernel
theorem dX9_digest_5 : decode cX9_digest 5 = .ok (.istore_n 3, 1) := by decide +kernel
theorem dX9_digest_6 : decode cX9_digest 6 = .ok (.iload_n 3, 1) := by decide +kernel
theorem dX9_digest_7 : decode cX9_digest 7 = .ok (.bipush 6, 2) := by decide +kernel
theorem dX9_digest_9 : decode cX9_digest 9 = .ok (.if_icmp .ge 22, 3) := by decide +kernel
theorem dX9_digest_12 : decode cX9_digest 12 = .ok (.ldc2_w 298, 3) := by decide +kernel
theorem dX9_digest_15 : decode cX9_digest 15 = .ok (.lload_n 1, 1) := by decide +kernel
theorem dX9_digest_16 : decode cX9_digest 16 = .ok (.lmul, 1) := by decide +kernel
theorem dX9_digest_17 : decode cX9_digest 17 = .ok (.aload_n 0, 1) := by decide +kernel
theorem dX9_digest_18 : decode cX9_digest 18 = .ok (.iload_n 3, 1) := by decide +kernel
theorem dX9_digest_19 : decode cX9_digest 19 = .ok (.invokevirtual 295, 3) := by decide +kernel
theorem dX9_digest_22 : decode cX9_digest 22 = .ok (.i2l, 1) := by decide +kernel
theorem dX9_digest_23 : decode cX9_digest 23 = .ok (.ladd, 1) := by decide +kernel
theorem dX9_digest_24 : decode cX9_digest 24 = .ok (.lstore_n 1, 1) := by decide +kernel
theorem dX9_digest_25 : decode cX9_digest 25 = .ok (.iinc 3 1, 3) := by decide +kernel
theorem dX9_digest_28 : decode cX9_digest 28 = .ok (.goto (-22), 3) := by decide +kernel
theorem dX9_digest_31 : decode cX9_digest 31 = .ok (.iconst 0, 1) := by decide +kernel
theorem dX9_digest_32 : decode cX9_digest 32 = .ok (.istore_n 3, 1) := by decide +kernel
theorem dX9_digest_33 : decode cX9_digest 33 = .ok (.iload_n 3, 1) := by decide +kernel
theorem dX9_digest_34 : decode cX9_digest 34 = .ok (.bipush 8, 2) := by decide +kernel
theorem dX9_digest_36 : decode cX9_digest 36 = .ok (.if_icmp .ge 47, 3) := by decide +kernel
theorem dX9_digest_39 : decode cX9_digest 39 = .ok (.ldc2_w 298, 3) := by decide +kernel
theorem dX9_digest_42 : decode cX9_digest 42 = .ok (.ldc2_w 298, 3) := by decide +kernel
theorem dX9_digest_45 : decode cX9_digest 45 = .ok (.lload_n 1, 1) := by decide +kernel
theorem dX9_digest_46 : decode cX9_digest 46 = .ok (.lmul, 1) := by decide +kernel
theorem dX9_digest_47 : decode cX9_digest 47 = .ok (.aload_n 0, 1) := by decide +kernel
theorem dX9_digest_48 : decode cX9_digest 48 = .ok (.getfield 7, 3) := by decide +kernel
theorem dX9_digest_51 : decode cX9_digest 51 = .ok (.iload_n 3, 1) := by decide +kernel
theorem dX9_digest_52 : decode cX9_digest 52 = .ok (.laload, 1) := by decide +kernel
theorem dX9_digest_53 : decode cX9_digest 53 = .ok (.invokestatic 82, 3) := by decide +kernel
theorem dX9_digest_56 : decode cX9_digest 56 = .ok (.i2l, 1) := by decide +kernel
theorem dX9_digest_57 : decode cX9_digest 57 = .ok (.ladd, 1) := by decide +kernel
theorem dX9_digest_58 : decode cX9_digest 58 = .ok (.aload_n 0, 1) := by decide +kernel
theorem dX9_digest_59 : decode cX9_digest 59 = .ok (.getfield 7, 3) := by decide +kernel
theorem dX9_digest_62 : decode cX9_digest 62 = .ok (.iload_n 3, 1) := by decide +kernel
theorem dX9_digest_63 : decode cX9_digest 63 = .ok (.laload, 1) := by decide +kernel
theorem dX9_digest_64 : decode cX9_digest 64 = .ok (.invokestatic 302, 3) := by decide +kernel
theorem dX9_digest_67 : decode cX9_digest 67 = .ok (.lmul, 1) := by decide +kernel
theorem dX9_digest_68 : decode cX9_digest 68 = .ok (.aload_n 0, 1) := by decide +kernel
theorem dX9_digest_69 : decode cX9_digest 69 = .ok (.getfield 13, 3) := by decide +kernel
theorem dX9_digest_72 : decode cX9_digest 72 = .ok (.iload_n 3, 1) := by decide +kernel
theorem dX9_digest_73 : decode cX9_digest 73 = .ok (.iaload, 1) := by decide +kernel
theorem dX9_digest_74 : decode cX9_digest 74 = .ok (.i2l, 1) := by decide +kernel
theorem dX9_digest_75 : decode cX9_digest 75 = .ok (.ladd, 1) := by decide +kernel
theorem dX9_digest_76 : decode cX9_digest 76 = .ok (.lstore_n 1, 1) := by decide +kernel
theorem dX9_digest_77 : decode cX9_digest 77 = .ok (.iinc 3 1, 3) := by decide +kernel
theorem dX9_digest_80 : decode cX9_digest 80 = .ok (.goto (-47), 3) := by decide +kernel
theorem dX9_digest_83 : decode cX9_digest 83 = .ok (.lload_n 1, 1) := by decide +kernel
theorem dX9_digest_84 : decode cX9_digest 84 = .ok (.aload_n 0, 1) := by decide +kernel
theorem dX9_digest_85 : decode cX9_digest 85 = .ok (.getfield 7, 3) := by decide +kernel
theorem dX9_digest_88 : decode cX9_digest 88 = .ok (.bipush 8, 2) := by decide +kernel
theorem dX9_digest_90 : decode cX9_digest 90 = .ok (.laload, 1) := by decide +kernel
theorem dX9_digest_91 : decode cX9_digest 91 = .ok (.invokestatic 302, 3) := by decide +kernel
theorem dX9_digest_94 : decode cX9_digest 94 = .ok (.lstore_n 1, 1) := by decide +kernel
theorem dX9_digest_95 : decode cX9_digest 95 = .ok (.iconst 0, 1) := by decide +kernel
theorem dX9_digest_96 : decode cX9_digest 96 = .ok (.istore_n 3, 1) := by decide +kernel
theorem dX9_digest_97 : decode cX9_digest 97 = .ok (.iload_n 3, 1) := by decide +kernel
theorem dX9_digest_98 : decode cX9_digest 98 = .ok (.iconst 2, 1) := by decide +kernel
theorem dX9_digest_99 : decode cX9_digest 99 = .ok (.aload_n 0, 1) := by decide +kernel
theorem dX9_digest_100 : decode cX9_digest 100 = .ok (.getfield 111, 3) := by decide +kernel
theorem dX9_digest_103 : decode cX9_digest 103 = .ok (.imul, 1) := by decide +kernel
theorem dX9_digest_104 : decode cX9_digest 104 = .ok (.if_icmp .ge 23, 3) := by decide +kernel
theorem dX9_digest_107 : decode cX9_digest 107 = .ok (.ldc2_w 298, 3) := by decide +kernel
theorem dX9_digest_110 : decode cX9_digest 110 = .ok (.lload_n 1, 1) := by decide +kernel
theorem dX9_digest_111 : decode cX9_digest 111 = .ok (.lmul, 1) := by decide +kernel
theorem dX9_digest_112 : decode cX9_digest 112 = .ok (.aload_n 0, 1) := by decide +kernel
theorem dX9_digest_113 : decode cX9_digest 113 = .ok (.getfield 17, 3) := by decide +kernel
theorem dX9_digest_116 : decode cX9_digest 116 = .ok (.iload_n 3, 1) := by decide +kernel
theorem dX9_digest_117 : decode cX9_digest 117 = .ok (.iaload, 1) := by decide +kernel
theorem dX9_digest_118 : decode cX9_digest 118 = .ok (.i2l, 1) := by decide +kernel
theorem dX9_digest_119 : decode cX9_digest 119 = .ok (.ladd, 1) := by decide +kernel
theorem dX9_digest_120 : decode cX9_digest 120 = .ok (.lstore_n 1, 1) := by decide +kernel
theorem dX9_digest_121 : decode cX9_digest 121 = .ok (.iinc 3 1, 3) := by decide +kernel
theorem dX9_digest_124 : decode cX9_digest 124 = .ok (.goto (-27), 3) := by decide +kernel
theorem dX9_digest_127 : decode cX9_digest 127 = .ok (.ldc2_w 298, 3) := by decide +kernel
theorem dX9_digest_130 : decode cX9_digest 130 = .ok (.ldc2_w 298, 3) := by decide +kernel
theorem dX9_digest_133 : decode cX9_digest 133 = .ok (.lload_n 1, 1) := by decide +kernel
theorem dX9_digest_134 : decode cX9_digest 134 = .ok (.lmul, 1) := by decide +kernel
theorem dX9_digest_135 : decode cX9_digest 135 = .ok (.aload_n 0, 1) := by decide +kernel
theorem dX9_digest_136 : decode cX9_digest 136 = .ok (.getfield 198, 3) := by decide +kernel
theorem dX9_digest_139 : decode cX9_digest 139 = .ok (.ladd, 1) := by decide +kernel
theorem dX9_digest_140 : decode cX9_digest 140 = .ok (.lmul, 1) := by decide +kernel
theorem dX9_digest_141 : decode cX9_digest 141 = .ok (.aload_n 0, 1) := by decide +kernel
