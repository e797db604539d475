theorem dX8_slipsFromOthers_36 : decode cX8_slipsFromOthers 36 = .ok (.aload_n 0, 1) := by decide +kernel
theorem dX8_slipsFromOthers_37 : decode cX8_slipsFromOthers 37 = .ok (.getfield 10, 3) := by decide +kernel
theorem dX8_slipsFromOthers_40 : decode cX8_slipsFromOthers 40 = .ok (.iload 5, 2) := by decide +kernel
theorem dX8_slipsFromOthers_42 : decode cX8_slipsFromOthers 42 = .ok (.invokevirtual 97, 3) := by decide +kernel
theorem dX8_slipsFromOthers_45 : decode cX8_slipsFromOthers 45 = .ok (.lconst 0, 1) := by decide +kernel
theorem dX8_slipsFromOthers_46 : decode cX8_slipsFromOthers 46 = .ok (.lcmp, 1) := by decide +kernel
theorem dX8_slipsFromOthers_47 : decode cX8_slipsFromOthers 47 = .ok (.ifCond .eq 25, 3) := by decide +kernel
theorem dX8_slipsFromOthers_50 : decode cX8_slipsFromOthers 50 = .ok (.iload 4, 2) := by decide +kernel
theorem dX8_slipsFromOthers_52 : decode cX8_slipsFromOthers 52 = .ok (.aload_n 0, 1) := by decide +kernel
theorem dX8_slipsFromOthers_53 : decode cX8_slipsFromOthers 53 = .ok (.getfield 35, 3) := by decide +kernel
theorem dX8_slipsFromOthers_56 : decode cX8_slipsFromOthers 56 = .ok (.lload_n 2, 1) := by decide +kernel
theorem dX8_slipsFromOthers_57 : decode cX8_slipsFromOthers 57 = .ok (.aload_n 0, 1) := by decide +kernel
theorem dX8_slipsFromOthers_58 : decode cX8_slipsFromOthers 58 = .ok (.getfield 10, 3) := by decide +kernel
theorem dX8_slipsFromOthers_61 : decode cX8_slipsFromOthers 61 = .ok (.iload 5, 2) := by decide +kernel
theorem dX8_slipsFromOthers_63 : decode cX8_slipsFromOthers 63 = .ok (.invokevirtual 97, 3) := by decide +kernel
theorem dX8_slipsFromOthers_66 : decode cX8_slipsFromOthers 66 = .ok (.invokevirtual 141, 3) := by decide +kernel
theorem dX8_slipsFromOthers_69 : decode cX8_slipsFromOthers 69 = .ok (.iadd, 1) := by decide +kernel
theorem dX8_slipsFromOthers_70 : decode cX8_slipsFromOthers 70 = .ok (.istore 4, 2) := by decide +kernel
theorem dX8_slipsFromOthers_72 : decode cX8_slipsFromOthers 72 = .ok (.iinc 5 1, 3) := by decide +kernel
theorem dX8_slipsFromOthers_75 : decode cX8_slipsFromOthers 75 = .ok (.goto (-52), 3) := by decide +kernel
theorem dX8_slipsFromOthers_78 : decode cX8_slipsFromOthers 78 = .ok (.iload 4, 2) := by decide +kernel
theorem dX8_slipsFromOthers_80 : decode cX8_slipsFromOthers 80 = .ok (.ireturn, 1) := by decide +kernel
set_option maxRecDepth 20000 in
theorem ggX9_init_X9_begin : GoodIn wsX9_init wsX9_begin := goodIn_r _ [29, 5, 7, 30, 31, 32, 33, 34, 35, 36, 37, 38, 39, 40, 41, 42, 43, 44, 45, 46, 47, 48, 49, 50, 51, 52, 53, 54, 55, 56, 57, 58] (by decide +kernel) (by decide +kernel)
set_option maxRecDepth 20000 in
theorem gX9_init_X9_begin : GoodIn wsX9_init (wsV RX9 67 RX9 yX9_begin wsX9_begin) := goodIn_app (goodIn_of _ (by decide +kernel)) ggX9_init_X9_begin
theorem dX9_init_0 : decode cX9_init 0 = .ok (.aload_n 0, 1) := by decide +kernel
theorem dX9_init_1 : decode cX9_init 1 = .ok (.invokespecial 1, 3) := by decide +kernel
theorem dX9_init_4 : decode cX9_init 4 = .ok (.aload_n 0, 1) := by decide +kernel
theorem dX9_init_5 : decode cX9_init 5 = .ok (.bipush 9, 2) := by decide +kernel
theorem dX9_init_7 : decode cX9_init 7 = .ok (.newarray .long, 2) := by decide +kernel
theorem dX9_init_9 : decode cX9_init 9 = .ok (.putfield 7, 3) := by decide +kernel
theorem dX9_init_12 : decode cX9_init 12 = .ok (.aload_n 0, 1) := by decide +kernel
theorem dX9_init_13 : decode cX9_init 13 = .ok (.bipush 8, 2) := by decide +kernel
theorem dX9_init_15 : decode cX9_init 15 = .ok (.newarray .int, 2) := by decide +kernel
theorem dX9_init_17 : decode cX9_init 17 = .ok (.putfield 13, 3) := by decide +kernel
theorem dX9_init_20 : decode cX9_init 20 = .ok (.aload_n 0, 1) := by decide +kernel
theorem dX9_init_21 : decode cX9_init 21 = .ok (.bipush 12, 2) := by decide +kernel
theorem dX9_init_23 : decode cX9_init 23 = .ok (.newarray .int, 2) := by decide +kernel
theorem dX9_init_25 : decode cX9_init 25 = .ok (.putfield 17, 3) := by decide +kernel
theorem dX9_init_28 : decode cX9_init 28 = .ok (.aload_n 0, 1) := by decide +kernel
theorem dX9_init_29 : decode cX9_init 29 = .ok (.bipush 64, 2) := by decide +kernel
theorem dX9_init_31 : decode cX9_init 31 = .ok (.newarray .long, 2) := by decide +kernel
theorem dX9_init_33 : decode cX9_init 33 = .ok (.putfield 20, 3) := by decide +kernel
theorem dX9_init_36 : decode cX9_init 36 = .ok (.aload_n 0, 1) := by decide +kernel
theorem dX9_init_37 : decode cX9_init 37 = .ok (.bipush 64, 2) := by decide +kernel
theorem dX9_init_39 : decode cX9_init 39 = .ok (.newarray .int, 2) := by decide +kernel
theorem dX9_init_41 : decode cX9_init 41 = .ok (.putfield 23, 3) := by decide +kernel
theorem dX9_init_44 : decode cX9_init 44 = .ok (.aload_n 0, 1) := by decide +kernel
theorem dX9_init_45 : decode cX9_init 45 = .ok (.bipush 18, 2) := by decide +kernel
theorem dX9_init_47 : decode cX9_init 47 = .ok (.newarray .long, 2) := by decide +kernel
theorem dX9_init_49 : decode cX9_init 49 = .ok (.putfield 26, 3) := by decide +kernel
theorem dX9_init_52 : decode cX9_init 52 = .ok (.aload_n 0, 1) := by decide +kernel
theorem dX9_init_53 : decode cX9_init 53 = .ok (.bipush 16, 2) := by decide +kernel
theorem dX9_init_55 : decode cX9_init 55 = .ok (.newarray .int, 2) := by decide +kernel
theorem dX9_init_57 : decode cX9_init 57 = .ok (.putfield 29, 3) := by decide +kernel
theorem dX9_init_60 : decode cX9_init 60 = .ok (.aload_n 0, 1) := by decide +kernel
theorem dX9_init_61 : decode cX9_init 61 = .ok (.bipush 28, 2) := by decide +kernel
theorem dX9_init_63 : decode cX9_init 63 = .ok (.newarray .int, 2) := by decide +kernel
theorem dX9_init_65 : decode cX9_init 65 = .ok (.putfield 32, 3) := by decide +kernel
theorem dX9_init_68 : decode cX9_init 68 = .ok (.aload_n 0, 1) := by decide +kernel
theorem dX9_init_69 : decode cX9_init 69 = .ok (.sipush 128, 3) := by decide +kernel
theorem dX9_init_72 : decode cX9_init 72 = .ok (.newarray .long, 2) := by decide +kernel
theorem dX9_init_74 : decode cX9_init 74 = .ok (.putfield 35, 3) := by decide +kernel
theorem dX9_init_77 : decode cX9_init 77 = .ok (.aload_n 0, 1) := by decide +kernel
theorem dX9_init_78 : decode cX9_init 78 = .ok (.sipush 128, 3) := by decide +kernel
theorem dX9_init_81 : decode cX9_init 81 = .ok (.newarray .int, 2) := by decide +kernel
theorem dX9_init_83 : decode cX9_init 83 = .ok (.putfield 38, 3) := by decide +kernel
theorem dX9_init_86 : decode cX9_init 86 = .ok (.aload_n 0, 1) := by decide +kernel
theorem dX9_init_87 : decode cX9_init 87 = .ok (.iconst 2, 1) := by decide +kernel
theorem dX9_init_88 : decode cX9_init 88 = .ok (.newarray .boolean, 2) := by decide +kernel
theorem dX9_init_90 : decode cX9_init 90 = .ok (.putfield 41, 3) := by decide +kernel
theorem dX9_init_93 : decode cX9_init 93 = .ok (.aload_n 0, 1) := by decide +kernel
theorem dX9_init_94 : decode cX9_init 94 = .ok (.iconst 3, 1) := by decide +kernel
theorem dX9_init_95 : decode cX9_init 95 = .ok (.newarray .int, 2) := by decide +kernel
theorem dX9_init_97 : decode cX9_init 97 = .ok (.putfield 45, 3) := by decide +kernel
theorem dX9_init_100 : decode cX9_init 100 = .ok (.aload_n 0, 1) := by decide +kernel
theorem dX9_init_101 : decode cX9_init 101 = .ok (.lconst 1, 1) := by decide +kernel
theorem dX9_init_102 : decode cX9_init 102 = .ok (.putfield 48, 3) := by decide +kernel
theorem dX9_init_105 : decode cX9_init 105 = .ok (.aload_n 0, 1) := by decide +kernel
theorem dX9_init_106 : decode cX9_init 106 = .ok (.bipush 121, 2) := by decide +kernel
theorem dX9_init_108 : decode cX9_init 108 = .ok (.newarray .int, 2) := by decide +kernel
theorem dX9_init_110 : decode cX9_init 110 = .ok (.putfield 52, 3) := by decide +kernel
theorem dX9_init_113 : decode cX9_init 113 = .ok (.aload_n 0, 1) := by decide +kernel
theorem dX9_init_114 : decode cX9_init 114 = .ok (.sipush 150, 3) := by decide +kernel
theorem dX9_init_117 : decode cX9_init 117 = .ok (.newarray .int, 2) := by decide +kernel
theorem dX9_init_119 : decode cX9_init 119 = .ok (.putfield 55, 3) := by decide +kernel
theorem dX9_init_122 : decode cX9_init 122 = .ok (.aload_n 0, 1) := by decide +kernel
theorem dX9_init_123 : decode cX9_init 123 = .ok (.bipush 8, 2) := by decide +kernel
theorem dX9_init_125 : decode cX9_init 125 = .ok (.newarray .long, 2) := by decide +kernel
theorem dX9_init_127 : decode cX9_init 127 = .ok (.putfield 58, 3) := by decide +kernel
theorem dX9_init_130 : decode cX9_init 130 = .ok (.aload_n 0, 1) := by decide +kernel
theorem dX9_init_131 : decode cX9_init 131 = .ok (.bipush 8, 2) := by decide +kernel
theorem dX9_init_133 : decode cX9_init 133 = .ok (.newarray .int, 2) := by decide +kernel
theorem dX9_init_135 : decode cX9_init 135 = .ok (.putfield 61, 3) := by decide +kernel
theorem dX9_init_138 : decode cX9_init 138 = .ok (.aload_n 0, 1) := by decide +kernel
theorem dX9_init_139 : decode cX9_init 139 = .ok (.iconst 5, 1) := by decide +kernel
theorem dX9_init_140 : decode cX9_init 140 = .ok (.newarray .int, 2) := by decide +kernel
theorem dX9_init_142 : decode cX9_init 142 = .ok (.putfield 64, 3) := by decide +kernel
theorem dX9_init_145 : decode cX9_init 145 = .ok (.aload_n 0, 1) := by decide +kernel
theorem dX9_init_146 : decode cX9_init 146 = .ok (.invokevirtual 67, 3) := by decide +kernel
theorem dX9_init_149 : decode cX9_init 149 = .ok (.return_, 1) := by decide +kernel
theorem dX9_in_0 : decode cX9_in 0 = .ok (.lload_n 0, 1) := by decide +kernel
theorem dX9_in_1 : decode cX9_in 1 = .ok (.lload_n 2, 1) := by decide +kernel
theorem dX9_in_2 : decode cX9_in 2 = .ok (.lcmp, 1) := by decide +kernel
theorem dX9_in_3 : decode cX9_in 3 = .ok (.ifCond .lt 14, 3) := by decide +kernel
theorem dX9_in_6 : decode cX9_in 6 = .ok (.lload_n 0, 1) := by decide +kernel
theorem dX9_in_7 : decode cX9_in 7 = .ok (.lload 4, 2) := by decide +kernel
theorem dX9_in_9 : decode cX9_in 9 = .ok (.lcmp, 1) := by decide +kernel
theorem dX9_in_10 : decode cX9_in 10 = .ok (.ifCond .gt 7, 3) := by decide +kernel
theorem dX9_in_13 : decode cX9_in 13 = .ok (.iconst 1, 1) := by decide +kernel
theorem dX9_in_14 : decode cX9_in 14 = .ok (.goto 4, 3) := by decide +kernel
theorem dX9_in_17 : decode cX9_in 17 = .ok (.iconst 0, 1) := by decide +kernel
theorem dX9_in_18 : decode cX9_in 18 = .ok (.ireturn, 1) := by decide +kernel
theorem dX9_bad_0 : decode cX9_bad 0 = .ok (.aload_n 0, 1) := by decide +kernel
theorem dX9_bad_1 : decode cX9_bad 1 = .ok (.getfield 45, 3) := by decide +kernel
theorem dX9_bad_4 : decode cX9_bad 4 = .ok (.iconst 0, 1) := by decide +kernel
theorem dX9_bad_5 : decode cX9_bad 5 = .ok (.dup2, 1) := by decide +kernel
theorem dX9_bad_6 : decode cX9_bad 6 = .ok (.iaload, 1) := by decide +kernel
theorem dX9_bad_7 : decode cX9_bad 7 = .ok (.iconst 1, 1) := by decide +kernel
theorem dX9_bad_8 : decode cX9_bad 8 = .ok (.iadd, 1) := by decide +kernel
theorem dX9_bad_9 : decode cX9_bad 9 = .ok (.iastore, 1) := by decide +kernel
theorem dX9_bad_10 : decode cX9_bad 10 = .ok (.iload_n 1, 1) := by decide +kernel
theorem dX9_bad_11 : decode cX9_bad 11 = .ok (.ireturn, 1) := by decide +kernel
theorem dX9_no_0 : decode cX9_no 0 = .ok (.aload_n 0, 1) := by decide +kernel
theorem dX9_no_1 : decode cX9_no 1 = .ok (.getfield 45, 3) := by decide +kernel
theorem dX9_no_4 : decode cX9_no 4 = .ok (.iconst 1, 1) := by decide +kernel
theorem dX9_no_5 : decode cX9_no 5 = .ok (.dup2, 1) := by decide +kernel
theorem dX9_no_6 : decode cX9_no 6 = .ok (.iaload, 1) := by decide +kernel
theorem dX9_no_7 : decode cX9_no 7 = .ok (.iconst 1, 1) := by decide +kernel
theorem dX9_no_8 : decode cX9_no 8 = .ok (.iadd, 1) := by decide +kernel
theorem dX9_no_9 : decode cX9_no 9 = .ok (.iastore, 1) := by decide +kernel
theorem dX9_no_10 : decode cX9_no 10 = .ok (.bipush (-3), 2) := by decide +kernel
theorem dX9_no_12 : decode cX9_no 12 = .ok (.ireturn, 1) := by decide +kernel
theorem dX9_full_0 : decode cX9_full 0 = .ok (.aload_n 0, 1) := by decide +kernel
theorem dX9_full_1 : decode cX9_full 1 = .ok (.getfield 45, 3) := by decide +kernel
theorem dX9_full_4 : decode cX9_full 4 = .ok (.iconst 2, 1) := by decide +kernel
theorem dX9_full_5 : decode cX9_full 5 = .ok (.dup2, 1) := by decide +kernel
theorem dX9_full_6 : decode cX9_full 6 = .ok (.iaload, 1) := by decide +kernel
theorem dX9_full_7 : decode cX9_full 7 = .ok (.iconst 1, 1) := by decide +kernel
theorem dX9_full_8 : decode cX9_full 8 = .ok (.iadd, 1) := by decide +kernel
theorem dX9_full_9 : decode cX9_full 9 = .ok (.iastore, 1) := by decide +kernel
theorem dX9_full_10 : decode cX9_full 10 = .ok (.bipush (-4), 2) := by decide +kernel
theorem dX9_full_12 : decode cX9_full 12 = .ok (.ireturn, 1) := by decide +kernel
theorem dX9_bits_0 : decode cX9_bits 0 = .ok (.iconst 0, 1) := by decide +kernel
theorem dX9_bits_1 : decode cX9_bits 1 = .ok (.istore_n 1, 1) := by decide +kernel
theorem dX9_bits_2 : decode cX9_bits 2 = .ok (.iload_n 0, 1) := by decide +kernel
theorem dX9_bits_3 : decode cX9_bits 3 = .ok (.istore_n 2, 1) := by decide +kernel
theorem dX9_bits_4 : decode cX9_bits 4 = .ok (.iload_n 2, 1) := by decide +kernel
theorem dX9_bits_5 : decode cX9_bits 5 = .ok (.ifCond .le 16, 3) := by decide +kernel
theorem dX9_bits_8 : decode cX9_bits 8 = .ok (.iload_n 1, 1) := by decide +kernel
theorem dX9_bits_9 : decode cX9_bits 9 = .ok (.iload_n 2, 1) := by decide +kernel
theorem dX9_bits_10 : decode cX9_bits 10 = .ok (.iconst 1, 1) := by decide +kernel
theorem dX9_bits_11 : decode cX9_bits 11 = .ok (.iand, 1) := by decide +kernel
theorem dX9_bits_12 : decode cX9_bits 12 = .ok (.iadd, 1) := by decide +kernel
theorem dX9_bits_13 : decode cX9_bits 13 = .ok (.istore_n 1, 1) := by decide +kernel
theorem dX9_bits_14 : decode cX9_bits 14 = .ok (.iload_n 2, 1) := by decide +kernel
theorem dX9_bits_15 : decode cX9_bits 15 = .ok (.iconst 1, 1) := by decide +kernel
theorem dX9_bits_16 : decode cX9_bits 16 = .ok (.ishr, 1) := by decide +kernel
theorem dX9_bits_17 : decode cX9_bits 17 = .ok (.istore_n 2, 1) := by decide +kernel
theorem dX9_bits_18 : decode cX9_bits 18 = .ok (.goto (-14), 3) := by decide +kernel
theorem dX9_bits_21 : decode cX9_bits 21 = .ok (.iload_n 1, 1) := by decide +kernel
theorem dX9_bits_22 : decode cX9_bits 22 = .ok (.ireturn, 1) := by decide +kernel
set_option maxRecDepth 20000 in
theorem ggX9_isBranch_X9_in : GoodIn wsX9_isBranch wsX9_in := goodIn_r _ [5] (by decide +kernel) (by decide +kernel)
set_option maxRecDepth 20000 in
theorem gX9_isBranch_X9_in : GoodIn wsX9_isBranch (va_wsS RX9 72 yX9_in wsX9_in) := goodIn_app (goodIn_of _ (by decide +kernel)) ggX9_isBranch_X9_in
theorem dX9_isBranch_0 : decode cX9_isBranch 0 = .ok (.iload_n 0, 1) := by decide +kernel
theorem dX9_isBranch_1 : decode cX9_isBranch 1 = .ok (.i2l, 1) := by decide +kernel
theorem dX9_isBranch_2 : decode cX9_isBranch 2 = .ok (.lconst 0, 1) := by decide +kernel
theorem dX9_isBranch_3 : decode cX9_isBranch 3 = .ok (.ldc2_w 70, 3) := by decide +kernel
theorem dX9_isBranch_6 : decode cX9_isBranch 6 = .ok (.invokestatic 72, 3) := by decide +kernel
theorem dX9_isBranch_9 : decode cX9_isBranch 9 = .ok (.ireturn, 1) := by decide +kernel
set_option maxRecDepth 20000 in
theorem ggX9_isPart_X9_in : GoodIn wsX9_isPart wsX9_in := goodIn_r _ [5] (by decide +kernel) (by decide +kernel)
set_option maxRecDepth 20000 in
theorem gX9_isPart_X9_in : GoodIn wsX9_isPart (va_wsS RX9 72 yX9_in wsX9_in) := goodIn_app (goodIn_of _ (by decide +kernel)) ggX9_isPart_X9_in
theorem dX9_isPart_0 : decode cX9_isPart 0 = .ok (.iload_n 0, 1) := by decide +kernel
theorem dX9_isPart_1 : decode cX9_isPart 1 = .ok (.i2l, 1) := by decide +kernel
theorem dX9_isPart_2 : decode cX9_isPart 2 = .ok (.lconst 0, 1) := by decide +kernel
theorem dX9_isPart_3 : decode cX9_isPart 3 = .ok (.ldc2_w 76, 3) := by decide +kernel
theorem dX9_isPart_6 : decode cX9_isPart 6 = .ok (.invokestatic 72, 3) := by decide +kernel
theorem dX9_isPart_9 : decode cX9_isPart 9 = .ok (.ireturn, 1) := by decide +kernel
theorem dX9_many_0 : decode cX9_many 0 = .ok (.lload_n 0, 1) := by decide +kernel
theorem dX9_many_1 : decode cX9_many 1 = .ok (.bipush 44, 2) := by decide +kernel
theorem dX9_many_3 : decode cX9_many 3 = .ok (.lshr, 1) := by decide +kernel
theorem dX9_many_4 : decode cX9_many 4 = .ok (.l2i, 1) := by decide +kernel
theorem dX9_many_5 : decode cX9_many 5 = .ok (.ireturn, 1) := by decide +kernel
theorem dX9_partOf_0 : decode cX9_partOf 0 = .ok (.lload_n 0, 1) := by decide +kernel
theorem dX9_partOf_1 : decode cX9_partOf 1 = .ok (.iconst 4, 1) := by decide +kernel
theorem dX9_partOf_2 : decode cX9_partOf 2 = .ok (.iload_n 2, 1) := by decide +kernel
theorem dX9_partOf_3 : decode cX9_partOf 3 = .ok (.imul, 1) := by decide +kernel
theorem dX9_partOf_4 : decode cX9_partOf 4 = .ok (.lshr, 1) := by decide +kernel
theorem dX9_partOf_5 : decode cX9_partOf 5 = .ok (.ldc2_w 78, 3) := by decide +kernel
theorem dX9_partOf_8 : decode cX9_partOf 8 = .ok (.land, 1) := by decide +kernel
theorem dX9_partOf_9 : decode cX9_partOf 9 = .ok (.l2i, 1) := by decide +kernel
theorem dX9_partOf_10 : decode cX9_partOf 10 = .ok (.ireturn, 1) := by decide +kernel
set_option maxRecDepth 20000 in
theorem ggX9_behind_X9_many : GoodIn wsX9_behind wsX9_many := goodIn_r _ [5] (by decide +kernel) (by decide +kernel)
set_option maxRecDepth 20000 in
theorem gX9_behind_X9_many : GoodIn wsX9_behind (va_wsS RX9 82 yX9_many wsX9_many) := goodIn_app (goodIn_of _ (by decide +kernel)) ggX9_behind_X9_many
theorem dX9_behind_0 : decode cX9_behind 0 = .ok (.lload_n 0, 1) := by decide +kernel
theorem dX9_behind_1 : decode cX9_behind 1 = .ok (.ldc2_w 80, 3) := by decide +kernel
theorem dX9_behind_4 : decode cX9_behind 4 = .ok (.ladd, 1) := by decide +kernel
theorem dX9_behind_5 : decode cX9_behind 5 = .ok (.iload_n 2, 1) := by decide +kernel
theorem dX9_behind_6 : decode cX9_behind 6 = .ok (.i2l, 1) := by decide +kernel
theorem dX9_behind_7 : decode cX9_behind 7 = .ok (.iconst 4, 1) := by decide +kernel
theorem dX9_behind_8 : decode cX9_behind 8 = .ok (.lload_n 0, 1) := by decide +kernel
theorem dX9_behind_9 : decode cX9_behind 9 = .ok (.invokestatic 82, 3) := by decide +kernel
theorem dX9_behind_12 : decode cX9_behind 12 = .ok (.imul, 1) := by decide +kernel
theorem dX9_behind_13 : decode cX9_behind 13 = .ok (.lshl, 1) := by decide +kernel
theorem dX9_behind_14 : decode cX9_behind 14 = .ok (.ladd, 1) := by decide +kernel
theorem dX9_behind_15 : decode cX9_behind 15 = .ok (.lreturn, 1) := by decide +kernel
theorem dX9_firstOnes_0 : decode cX9_firstOnes 0 = .ok (.iload_n 2, 1) := by decide +kernel
theorem dX9_firstOnes_1 : decode cX9_firstOnes 1 = .ok (.i2l, 1) := by decide +kernel
theorem dX9_firstOnes_2 : decode cX9_firstOnes 2 = .ok (.bipush 44, 2) := by decide +kernel
theorem dX9_firstOnes_4 : decode cX9_firstOnes 4 = .ok (.lshl, 1) := by decide +kernel
theorem dX9_firstOnes_5 : decode cX9_firstOnes 5 = .ok (.lload_n 0, 1) := by decide +kernel
theorem dX9_firstOnes_6 : decode cX9_firstOnes 6 = .ok (.lconst 1, 1) := by decide +kernel
theorem dX9_firstOnes_7 : decode cX9_firstOnes 7 = .ok (.iconst 4, 1) := by decide +kernel
theorem dX9_firstOnes_8 : decode cX9_firstOnes 8 = .ok (.iload_n 2, 1) := by decide +kernel
theorem dX9_firstOnes_9 : decode cX9_firstOnes 9 = .ok (.imul, 1) := by decide +kernel
theorem dX9_firstOnes_10 : decode cX9_firstOnes 10 = .ok (.lshl, 1) := by decide +kernel
theorem dX9_firstOnes_11 : decode cX9_firstOnes 11 = .ok (.lconst 1, 1) := by decide +kernel
theorem dX9_firstOnes_12 : decode cX9_firstOnes 12 = .ok (.lsub, 1) := by decide +kernel
theorem dX9_firstOnes_13 : decode cX9_firstOnes 13 = .ok (.land, 1) := by decide +kernel
theorem dX9_firstOnes_14 : decode cX9_firstOnes 14 = .ok (.ladd, 1) := by decide +kernel
theorem dX9_firstOnes_15 : decode cX9_firstOnes 15 = .ok (.lreturn, 1) := by decide +kernel
set_option maxRecDepth 20000 in
theorem ggX9_has_X9_many : GoodIn wsX9_has wsX9_many := goodIn_r _ [4] (by decide +kernel) (by decide +kernel)
set_option maxRecDepth 20000 in
theorem gX9_has_X9_many : GoodIn wsX9_has (va_wsS RX9 82 yX9_many wsX9_many) := goodIn_app (goodIn_of _ (by decide +kernel)) ggX9_has_X9_many
set_option maxRecDepth 20000 in
theorem ggX9_has_X9_partOf : GoodIn wsX9_has wsX9_partOf := goodIn_r _ [7, 8] (by decide +kernel) (by decide +kernel)
set_option maxRecDepth 20000 in
theorem gX9_has_X9_partOf : GoodIn wsX9_has (va_wsS RX9 86 yX9_partOf wsX9_partOf) := goodIn_app (goodIn_of _ (by decide +kernel)) ggX9_has_X9_partOf
theorem dX9_has_0 : decode cX9_has 0 = .ok (.iconst 0, 1) := by decide +kernel
theorem dX9_has_1 : decode cX9_has 1 = .ok (.istore_n 3, 1) := by decide +kernel
theorem dX9_has_2 : decode cX9_has 2 = .ok (.iconst 0, 1) := by decide +kernel
theorem dX9_has_3 : decode cX9_has 3 = .ok (.istore 4, 2) := by decide +kernel
theorem dX9_has_5 : decode cX9_has 5 = .ok (.iload 4, 2) := by decide +kernel
theorem dX9_has_7 : decode cX9_has 7 = .ok (.lload_n 0, 1) := by decide +kernel
theorem dX9_has_8 : decode cX9_has 8 = .ok (.invokestatic 82, 3) := by decide +kernel
theorem dX9_has_11 : decode cX9_has 11 = .ok (.if_icmp .ge 29, 3) := by decide +kernel
theorem dX9_has_14 : decode cX9_has 14 = .ok (.iload_n 3, 1) := by decide +kernel
theorem dX9_has_15 : decode cX9_has 15 = .ok (.ifCond .ne 13, 3) := by decide +kernel
theorem dX9_has_18 : decode cX9_has 18 = .ok (.lload_n 0, 1) := by decide +kernel
theorem dX9_has_19 : decode cX9_has 19 = .ok (.iload 4, 2) := by decide +kernel
theorem dX9_has_21 : decode cX9_has 21 = .ok (.invokestatic 86, 3) := by decide +kernel
theorem dX9_has_24 : decode cX9_has 24 = .ok (.iload_n 2, 1) := by decide +kernel
theorem dX9_has_25 : decode cX9_has 25 = .ok (.if_icmp .ne 7, 3) := by decide +kernel
theorem dX9_has_28 : decode cX9_has 28 = .ok (.iconst 1, 1) := by decide +kernel
theorem dX9_has_29 : decode cX9_has 29 = .ok (.goto 4, 3) := by decide +kernel
theorem dX9_has_32 : decode cX9_has 32 = .ok (.iconst 0, 1) := by decide +kernel
theorem dX9_has_33 : decode cX9_has 33 = .ok (.istore_n 3, 1) := by decide +kernel
theorem dX9_has_34 : decode cX9_has 34 = .ok (.iinc 4 1, 3) := by decide +kernel
theorem dX9_has_37 : decode cX9_has 37 = .ok (.goto (-32), 3) := by decide +kernel
theorem dX9_has_40 : decode cX9_has 40 = .ok (.iload_n 3, 1) := by decide +kernel
theorem dX9_has_41 : decode cX9_has 41 = .ok (.ireturn, 1) := by decide +kernel
set_option maxRecDepth 20000 in
theorem ggX9_without_X9_many : GoodIn wsX9_without wsX9_many := goodIn_r _ [4] (by decide +kernel) (by decide +kernel)
set_option maxRecDepth 20000 in
theorem gX9_without_X9_many : GoodIn wsX9_without (va_wsS RX9 82 yX9_many wsX9_many) := goodIn_app (goodIn_of _ (by decide +kernel)) ggX9_without_X9_many
set_option maxRecDepth 20000 in
theorem ggX9_without_X9_partOf : GoodIn wsX9_without wsX9_partOf := goodIn_r _ [7, 8] (by decide +kernel) (by decide +kernel)
set_option maxRecDepth 20000 in
theorem gX9_without_X9_partOf : GoodIn wsX9_without (va_wsS RX9 86 yX9_partOf wsX9_partOf) := goodIn_app (goodIn_of _ (by decide +kernel)) ggX9_without_X9_partOf
set_option maxRecDepth 20000 in
theorem ggX9_without_X9_behind : GoodIn wsX9_without wsX9_behind := goodIn_r _ [11, 12, 1, 2, 3, 4] (by decide +kernel) (by decide +kernel)
set_option maxRecDepth 20000 in
theorem gX9_without_X9_behind : GoodIn wsX9_without (va_wsS RX9 90 yX9_behind wsX9_behind) := goodIn_app (goodIn_of _ (by decide +kernel)) ggX9_without_X9_behind
theorem dX9_without_0 : decode cX9_without 0 = .ok (.lconst 0, 1) := by decide +kernel
theorem dX9_without_1 : decode cX9_without 1 = .ok (.lstore_n 3, 1) := by decide +kernel
theorem dX9_without_2 : decode cX9_without 2 = .ok (.iconst 0, 1) := by decide +kernel
theorem dX9_without_3 : decode cX9_without 3 = .ok (.istore 5, 2) := by decide +kernel
theorem dX9_without_5 : decode cX9_without 5 = .ok (.iload 5, 2) := by decide +kernel
theorem dX9_without_7 : decode cX9_without 7 = .ok (.lload_n 0, 1) := by decide +kernel
theorem dX9_without_8 : decode cX9_without 8 = .ok (.invokestatic 82, 3) := by decide +kernel
theorem dX9_without_11 : decode cX9_without 11 = .ok (.if_icmp .ge 30, 3) := by decide +kernel
theorem dX9_without_14 : decode cX9_without 14 = .ok (.iload 5, 2) := by decide +kernel
theorem dX9_without_16 : decode cX9_without 16 = .ok (.iload_n 2, 1) := by decide +kernel
theorem dX9_without_17 : decode cX9_without 17 = .ok (.if_icmp .ne 7, 3) := by decide +kernel
theorem dX9_without_20 : decode cX9_without 20 = .ok (.lload_n 3, 1) := by decide +kernel
theorem dX9_without_21 : decode cX9_without 21 = .ok (.goto 13, 3) := by decide +kernel
theorem dX9_without_24 : decode cX9_without 24 = .ok (.lload_n 3, 1) := by decide +kernel
theorem dX9_without_25 : decode cX9_without 25 = .ok (.lload_n 0, 1) := by decide +kernel
theorem dX9_without_26 : decode cX9_without 26 = .ok (.iload 5, 2) := by decide +kernel
theorem dX9_without_28 : decode cX9_without 28 = .ok (.invokestatic 86, 3) := by decide +kernel
theorem dX9_without_31 : decode cX9_without 31 = .ok (.invokestatic 90, 3) := by decide +kernel
theorem dX9_without_34 : decode cX9_without 34 = .ok (.lstore_n 3, 1) := by decide +kernel
theorem dX9_without_35 : decode cX9_without 35 = .ok (.iinc 5 1, 3) := by decide +kernel
theorem dX9_without_38 : decode cX9_without 38 = .ok (.goto (-33), 3) := by decide +kernel
theorem dX9_without_41 : decode cX9_without 41 = .ok (.lload_n 3, 1) := by decide +kernel
theorem dX9_without_42 : decode cX9_without 42 = .ok (.lreturn, 1) := by decide +kernel
set_option maxRecDepth 20000 in
theorem ggX9_changed_X9_many : GoodIn wsX9_changed wsX9_many := goodIn_r _ [4] (by decide +kernel) (by decide +kernel)
set_option maxRecDepth 20000 in
theorem gX9_changed_X9_many : GoodIn wsX9_changed (va_wsS RX9 82 yX9_many wsX9_many) := goodIn_app (goodIn_of _ (by decide +kernel)) ggX9_changed_X9_many
set_option maxRecDepth 20000 in
theorem ggX9_changed_X9_partOf : GoodIn wsX9_changed wsX9_partOf := goodIn_r _ [7, 8] (by decide +kernel) (by decide +kernel)
set_option maxRecDepth 20000 in
theorem gX9_changed_X9_partOf : GoodIn wsX9_changed (va_wsS RX9 86 yX9_partOf wsX9_partOf) := goodIn_app (goodIn_of _ (by decide +kernel)) ggX9_changed_X9_partOf
set_option maxRecDepth 20000 in
theorem ggX9_changed_X9_behind : GoodIn wsX9_changed wsX9_behind := goodIn_r _ [11, 12, 1, 2, 3, 4] (by decide +kernel) (by decide +kernel)
set_option maxRecDepth 20000 in
theorem gX9_changed_X9_behind : GoodIn wsX9_changed (va_wsS RX9 90 yX9_behind wsX9_behind) := goodIn_app (goodIn_of _ (by decide +kernel)) ggX9_changed_X9_behind
theorem dX9_changed_0 : decode cX9_changed 0 = .ok (.lconst 0, 1) := by decide +kernel
theorem dX9_changed_1 : decode cX9_changed 1 = .ok (.lstore 4, 2) := by decide +kernel
theorem dX9_changed_3 : decode cX9_changed 3 = .ok (.iconst 0, 1) := by decide +kernel
theorem dX9_changed_4 : decode cX9_changed 4 = .ok (.istore 6, 2) := by decide +kernel
theorem dX9_changed_6 : decode cX9_changed 6 = .ok (.iload 6, 2) := by decide +kernel
theorem dX9_changed_8 : decode cX9_changed 8 = .ok (.lload_n 0, 1) := by decide +kernel
theorem dX9_changed_9 : decode cX9_changed 9 = .ok (.invokestatic 82, 3) := by decide +kernel
theorem dX9_changed_12 : decode cX9_changed 12 = .ok (.if_icmp .ge 32, 3) := by decide +kernel
theorem dX9_changed_15 : decode cX9_changed 15 = .ok (.lload 4, 2) := by decide +kernel
theorem dX9_changed_17 : decode cX9_changed 17 = .ok (.iload 6, 2) := by decide +kernel
theorem dX9_changed_19 : decode cX9_changed 19 = .ok (.iload_n 2, 1) := by decide +kernel
theorem dX9_changed_20 : decode cX9_changed 20 = .ok (.if_icmp .ne 7, 3) := by decide +kernel
theorem dX9_changed_23 : decode cX9_changed 23 = .ok (.iload_n 3, 1) := by decide +kernel
theorem dX9_changed_24 : decode cX9_changed 24 = .ok (.goto 9, 3) := by decide +kernel
theorem dX9_changed_27 : decode cX9_changed 27 = .ok (.lload_n 0, 1) := by decide +kernel
theorem dX9_changed_28 : decode cX9_changed 28 = .ok (.iload 6, 2) := by decide +kernel
theorem dX9_changed_30 : decode cX9_changed 30 = .ok (.invokestatic 86, 3) := by decide +kernel
theorem dX9_changed_33 : decode cX9_changed 33 = .ok (.invokestatic 90, 3) := by decide +kernel
theorem dX9_changed_36 : decode cX9_changed 36 = .ok (.lstore 4, 2) := by decide +kernel
theorem dX9_changed_38 : decode cX9_changed 38 = .ok (.iinc 6 1, 3) := by decide +kernel
theorem dX9_changed_41 : decode cX9_changed 41 = .ok (.goto (-35), 3) := by decide +kernel
theorem dX9_changed_44 : decode cX9_changed 44 = .ok (.lload 4, 2) := by decide +kernel
theorem dX9_changed_46 : decode cX9_changed 46 = .ok (.lreturn, 1) := by decide +kernel
set_option maxRecDepth 20000 in
theorem ggX9_turned_X9_many : GoodIn wsX9_turned wsX9_many := goodIn_r _ [4] (by decide +kernel) (by decide +kernel)
set_option maxRecDepth 20000 in
theorem gX9_turned_X9_many : GoodIn wsX9_turned (va_wsS RX9 82 yX9_many wsX9_many) := goodIn_app (goodIn_of _ (by decide +kernel)) ggX9_turned_X9_many
set_option maxRecDepth 20000 in
theorem ggX9_turned_X9_partOf : GoodIn wsX9_turned wsX9_partOf := goodIn_r _ [7, 8] (by decide +kernel) (by decide +kernel)
set_option maxRecDepth 20000 in
theorem gX9_turned_X9_partOf : GoodIn wsX9_turned (va_wsS RX9 86 yX9_partOf wsX9_partOf) := goodIn_app (goodIn_of _ (by decide +kernel)) ggX9_turned_X9_partOf
set_option maxRecDepth 20000 in
theorem ggX9_turned_X9_changed : GoodIn wsX9_turned wsX9_changed := goodIn_r _ [11, 1, 2, 3, 4, 5, 6, 7, 8, 12, 13, 14, 15] (by decide +kernel) (by decide +kernel)
set_option maxRecDepth 20000 in
theorem gX9_turned_X9_changed : GoodIn wsX9_turned (va_wsS RX9 94 yX9_changed wsX9_changed) := goodIn_app (goodIn_of _ (by decide +kernel)) ggX9_turned_X9_changed
theorem dX9_turned_0 : decode cX9_turned 0 = .ok (.lload_n 0, 1) := by decide +kernel
theorem dX9_turned_1 : decode cX9_turned 1 = .ok (.lstore_n 3, 1) := by decide +kernel
theorem dX9_turned_2 : decode cX9_turned 2 = .ok (.iload_n 2, 1) := by decide +kernel
theorem dX9_turned_3 : decode cX9_turned 3 = .ok (.iconst 1, 1) := by decide +kernel
theorem dX9_turned_4 : decode cX9_turned 4 = .ok (.iadd, 1) := by decide +kernel
theorem dX9_turned_5 : decode cX9_turned 5 = .ok (.lload_n 0, 1) := by decide +kernel
theorem dX9_turned_6 : decode cX9_turned 6 = .ok (.invokestatic 82, 3) := by decide +kernel
theorem dX9_turned_9 : decode cX9_turned 9 = .ok (.if_icmp .ge 27, 3) := by decide +kernel
theorem dX9_turned_12 : decode cX9_turned 12 = .ok (.lload_n 0, 1) := by decide +kernel
theorem dX9_turned_13 : decode cX9_turned 13 = .ok (.iload_n 2, 1) := by decide +kernel
theorem dX9_turned_14 : decode cX9_turned 14 = .ok (.lload_n 0, 1) := by decide +kernel
theorem dX9_turned_15 : decode cX9_turned 15 = .ok (.iload_n 2, 1) := by decide +kernel
theorem dX9_turned_16 : decode cX9_turned 16 = .ok (.iconst 1, 1) := by decide +kernel
theorem dX9_turned_17 : decode cX9_turned 17 = .ok (.iadd, 1) := by decide +kernel
theorem dX9_turned_18 : decode cX9_turned 18 = .ok (.invokestatic 86, 3) := by decide +kernel
theorem dX9_turned_21 : decode cX9_turned 21 = .ok (.invokestatic 94, 3) := by decide +kernel
theorem dX9_turned_24 : decode cX9_turned 24 = .ok (.iload_n 2, 1) := by decide +kernel
theorem dX9_turned_25 : decode cX9_turned 25 = .ok (.iconst 1, 1) := by decide +kernel
theorem dX9_turned_26 : decode cX9_turned 26 = .ok (.iadd, 1) := by decide +kernel
theorem dX9_turned_27 : decode cX9_turned 27 = .ok (.lload_n 0, 1) := by decide +kernel
theorem dX9_turned_28 : decode cX9_turned 28 = .ok (.iload_n 2, 1) := by decide +kernel
theorem dX9_turned_29 : decode cX9_turned 29 = .ok (.invokestatic 86, 3) := by decide +kernel
theorem dX9_turned_32 : decode cX9_turned 32 = .ok (.invokestatic 94, 3) := by decide +kernel
theorem dX9_turned_35 : decode cX9_turned 35 = .ok (.lstore_n 3, 1) := by decide +kernel
theorem dX9_turned_36 : decode cX9_turned 36 = .ok (.lload_n 3, 1) := by decide +kernel
theorem dX9_turned_37 : decode cX9_turned 37 = .ok (.lreturn, 1) := by decide +kernel
set_option maxRecDepth 20000 in
theorem ggX9_slips_X9_without : GoodIn wsX9_slips wsX9_without := goodIn_r _ [4, 5, 6, 3, 7, 8, 9, 10, 11, 12, 13, 14, 15] (by decide +kernel) (by decide +kernel)
set_option maxRecDepth 20000 in
theorem gX9_slips_X9_without : GoodIn wsX9_slips (va_wsS RX9 98 yX9_without wsX9_without) := goodIn_app (goodIn_of _ (by decide +kernel)) ggX9_slips_X9_without
set_option maxRecDepth 20000 in
theorem ggX9_slips_X9_changed : GoodIn wsX9_slips wsX9_changed := goodIn_r _ [18, 5, 6, 3, 7, 8, 9, 10, 11, 12, 13, 14, 15] (by decide +kernel) (by decide +kernel)
set_option maxRecDepth 20000 in
theorem gX9_slips_X9_changed : GoodIn wsX9_slips (va_wsS RX9 94 yX9_changed wsX9_changed) := goodIn_app (goodIn_of _ (by decide +kernel)) ggX9_slips_X9_changed
set_option maxRecDepth 20000 in
theorem ggX9_slips_X9_turned : GoodIn wsX9_slips wsX9_turned := goodIn_r _ [21, 5, 6, 3, 7, 8, 9, 10, 11, 16, 17, 18, 12, 13, 14, 15] (by decide +kernel) (by decide +kernel)
set_option maxRecDepth 20000 in
theorem gX9_slips_X9_turned : GoodIn wsX9_slips (va_wsS RX9 101 yX9_turned wsX9_turned) := goodIn_app (goodIn_of _ (by decide +kernel)) ggX9_slips_X9_turned
set_option maxRecDepth 20000 in
theorem ggX9_slips_X9_many : GoodIn wsX9_slips wsX9_many := goodIn_r _ [7] (by decide +kernel) (by decide +kernel)
set_option maxRecDepth 20000 in
theorem gX9_slips_X9_many : GoodIn wsX9_slips (va_wsS RX9 82 yX9_many wsX9_many) := goodIn_app (goodIn_of _ (by decide +kernel)) ggX9_slips_X9_many
set_option maxRecDepth 20000 in
theorem ggX9_slips_X9_firstOnes : GoodIn wsX9_slips wsX9_firstOnes := goodIn_r _ [24] (by decide +kernel) (by decide +kernel)
set_option maxRecDepth 20000 in
theorem gX9_slips_X9_firstOnes : GoodIn wsX9_slips (va_wsS RX9 104 yX9_firstOnes wsX9_firstOnes) := goodIn_app (goodIn_of _ (by decide +kernel)) ggX9_slips_X9_firstOnes
set_option maxRecDepth 20000 in
theorem ggX9_slips_X9_has : GoodIn wsX9_slips wsX9_has := goodIn_r _ [27, 5, 6, 3, 7, 8, 9, 10, 11] (by decide +kernel) (by decide +kernel)
set_option maxRecDepth 20000 in
theorem gX9_slips_X9_has : GoodIn wsX9_slips (va_wsS RX9 107 yX9_has wsX9_has) := goodIn_app (goodIn_of _ (by decide +kernel)) ggX9_slips_X9_has
set_option maxRecDepth 20000 in
theorem ggX9_slips_X9_behind : GoodIn wsX9_slips wsX9_behind := goodIn_r _ [14, 15, 5, 6, 3, 7] (by decide +kernel) (by decide +kernel)
set_option maxRecDepth 20000 in
theorem gX9_slips_X9_behind : GoodIn wsX9_slips (va_wsS RX9 90 yX9_behind wsX9_behind) := goodIn_app (goodIn_of _ (by decide +kernel)) ggX9_slips_X9_behind
theorem dX9_slips_0 : decode cX9_slips 0 = .ok (.lload_n 3, 1) := by decide +kernel
theorem dX9_slips_1 : decode cX9_slips 1 = .ok (.lstore 5, 2) := by decide +kernel
theorem dX9_slips_3 : decode cX9_slips 3 = .ok (.iload_n 0, 1) := by decide +kernel
theorem dX9_slips_4 : decode cX9_slips 4 = .ok (.tableswitch 114 1 5 #[36, 42, 49, 55, 73], 36) := by decide +kernel
theorem dX9_slips_40 : decode cX9_slips 40 = .ok (.lload_n 3, 1) := by decide +kernel
theorem dX9_slips_41 : decode cX9_slips 41 = .ok (.iload_n 1, 1) := by decide +kernel
theorem dX9_slips_42 : decode cX9_slips 42 = .ok (.invokestatic 98, 3) := by decide +kernel
theorem dX9_slips_45 : decode cX9_slips 45 = .ok (.lreturn, 1) := by decide +kernel
theorem dX9_slips_46 : decode cX9_slips 46 = .ok (.lload_n 3, 1) := by decide +kernel
theorem dX9_slips_47 : decode cX9_slips 47 = .ok (.iload_n 1, 1) := by decide +kernel
theorem dX9_slips_48 : decode cX9_slips 48 = .ok (.iload_n 2, 1) := by decide +kernel
theorem dX9_slips_49 : decode cX9_slips 49 = .ok (.invokestatic 94, 3) := by decide +kernel
theorem dX9_slips_52 : decode cX9_slips 52 = .ok (.lreturn, 1) := by decide +kernel
theorem dX9_slips_53 : decode cX9_slips 53 = .ok (.lload_n 3, 1) := by decide +kernel
theorem dX9_slips_54 : decode cX9_slips 54 = .ok (.iload_n 1, 1) := by decide +kernel
theorem dX9_slips_55 : decode cX9_slips 55 = .ok (.invokestatic 101, 3) := by decide +kernel
theorem dX9_slips_58 : decode cX9_slips 58 = .ok (.lreturn, 1) := by decide +kernel
theorem dX9_slips_59 : decode cX9_slips 59 = .ok (.iload_n 1, 1) := by decide +kernel
theorem dX9_slips_60 : decode cX9_slips 60 = .ok (.lload_n 3, 1) := by decide +kernel
theorem dX9_slips_61 : decode cX9_slips 61 = .ok (.invokestatic 82, 3) := by decide +kernel
theorem dX9_slips_64 : decode cX9_slips 64 = .ok (.if_icmp .ge 11, 3) := by decide +kernel
theorem dX9_slips_67 : decode cX9_slips 67 = .ok (.lload_n 3, 1) := by decide +kernel
theorem dX9_slips_68 : decode cX9_slips 68 = .ok (.iload_n 1, 1) := by decide +kernel
theorem dX9_slips_69 : decode cX9_slips 69 = .ok (.invokestatic 104, 3) := by decide +kernel
theorem dX9_slips_72 : decode cX9_slips 72 = .ok (.goto 4, 3) := by decide +kernel
theorem dX9_slips_75 : decode cX9_slips 75 = .ok (.lload_n 3, 1) := by decide +kernel
theorem dX9_slips_76 : decode cX9_slips 76 = .ok (.lreturn, 1) := by decide +kernel
theorem dX9_slips_77 : decode cX9_slips 77 = .ok (.lload_n 3, 1) := by decide +kernel
theorem dX9_slips_78 : decode cX9_slips 78 = .ok (.iload_n 1, 1) := by decide +kernel
theorem dX9_slips_79 : decode cX9_slips 79 = .ok (.iload_n 2, 1) := by decide +kernel
theorem dX9_slips_80 : decode cX9_slips 80 = .ok (.invokestatic 94, 3) := by decide +kernel
theorem dX9_slips_83 : decode cX9_slips 83 = .ok (.lstore 5, 2) := by decide +kernel
theorem dX9_slips_85 : decode cX9_slips 85 = .ok (.lload 5, 2) := by decide +kernel
theorem dX9_slips_87 : decode cX9_slips 87 = .ok (.bipush 9, 2) := by decide +kernel
theorem dX9_slips_89 : decode cX9_slips 89 = .ok (.invokestatic 107, 3) := by decide +kernel
theorem dX9_slips_92 : decode cX9_slips 92 = .ok (.ifCond .ne 13, 3) := by decide +kernel
theorem dX9_slips_95 : decode cX9_slips 95 = .ok (.lload 5, 2) := by decide +kernel
theorem dX9_slips_97 : decode cX9_slips 97 = .ok (.invokestatic 82, 3) := by decide +kernel
theorem dX9_slips_100 : decode cX9_slips 100 = .ok (.bipush 10, 2) := by decide +kernel
theorem dX9_slips_102 : decode cX9_slips 102 = .ok (.if_icmp .ne 8, 3) := by decide +kernel
theorem dX9_slips_105 : decode cX9_slips 105 = .ok (.lload 5, 2) := by decide +kernel
theorem dX9_slips_107 : decode cX9_slips 107 = .ok (.goto 10, 3) := by decide +kernel
theorem dX9_slips_110 : decode cX9_slips 110 = .ok (.lload 5, 2) := by decide +kernel
theorem dX9_slips_112 : decode cX9_slips 112 = .ok (.bipush 9, 2) := by decide +kernel
theorem dX9_slips_114 : decode cX9_slips 114 = .ok (.invokestatic 90, 3) := by decide +kernel
theorem dX9_slips_117 : decode cX9_slips 117 = .ok (.lreturn, 1) := by decide +kernel
theorem dX9_slips_118 : decode cX9_slips 118 = .ok (.lload 5, 2) := by decide +kernel
theorem dX9_slips_120 : decode cX9_slips 120 = .ok (.lreturn, 1) := by decide +kernel
theorem dX9_begin_0 : decode cX9_begin 0 = .ok (.iconst 0, 1) := by decide +kernel
theorem dX9_begin_1 : decode cX9_begin 1 = .ok (.istore_n 1, 1) := by decide +kernel
theorem dX9_begin_2 : decode cX9_begin 2 = .ok (.iload_n 1, 1) := by decide +kernel
theorem dX9_begin_3 : decode cX9_begin 3 = .ok (.bipush 8, 2) := by decide +kernel
theorem dX9_begin_5 : decode cX9_begin 5 = .ok (.if_icmp .ge 23, 3) := by decide +kernel
theorem dX9_begin_8 : decode cX9_begin 8 = .ok (.aload_n 0, 1) := by decide +kernel
theorem dX9_begin_9 : decode cX9_begin 9 = .ok (.getfield 7, 3) := by decide +kernel
theorem dX9_begin_12 : decode cX9_begin 12 = .ok (.iload_n 1, 1) := by decide +kernel
theorem dX9_begin_13 : decode cX9_begin 13 = .ok (.lconst 0, 1) := by decide +kernel
theorem dX9_begin_14 : decode cX9_begin 14 = .ok (.lastore, 1) := by decide +kernel
theorem dX9_begin_15 : decode cX9_begin 15 = .ok (.aload_n 0, 1) := by decide +kernel
theorem dX9_begin_16 : decode cX9_begin 16 = .ok (.getfield 13, 3) := by decide +kernel
theorem dX9_begin_19 : decode cX9_begin 19 = .ok (.iload_n 1, 1) := by decide +kernel
theorem dX9_begin_20 : decode cX9_begin 20 = .ok (.iconst (-1), 1) := by decide +kernel
theorem dX9_begin_21 : decode cX9_begin 21 = .ok (.iastore, 1) := by decide +kernel
theorem dX9_begin_22 : decode cX9_begin 22 = .ok (.iinc 1 1, 3) := by decide +kernel
theorem dX9_begin_25 : decode cX9_begin 25 = .ok (.goto (-23), 3) := by decide +kernel
theorem dX9_begin_28 : decode cX9_begin 28 = .ok (.aload_n 0, 1) := by decide +kernel
theorem dX9_begin_29 : decode cX9_begin 29 = .ok (.getfield 7, 3) := by decide +kernel
theorem dX9_begin_32 : decode cX9_begin 32 = .ok (.bipush 8, 2) := by decide +kernel
theorem dX9_begin_34 : decode cX9_begin 34 = .ok (.lconst 0, 1) := by decide +kernel
theorem dX9_begin_35 : decode cX9_begin 35 = .ok (.lastore, 1) := by decide +kernel
theorem dX9_begin_36 : decode cX9_begin 36 = .ok (.aload_n 0, 1) := by decide +kernel
theorem dX9_begin_37 : decode cX9_begin 37 = .ok (.iconst 0, 1) := by decide +kernel
theorem dX9_begin_38 : decode cX9_begin 38 = .ok (.putfield 111, 3) := by decide +kernel
theorem dX9_begin_41 : decode cX9_begin 41 = .ok (.aload_n 0, 1) := by decide +kernel
theorem dX9_begin_42 : decode cX9_begin 42 = .ok (.iconst 0, 1) := by decide +kernel
theorem dX9_begin_43 : decode cX9_begin 43 = .ok (.putfield 115, 3) := by decide +kernel
theorem dX9_begin_46 : decode cX9_begin 46 = .ok (.return_, 1) := by decide +kernel
theorem dX9_told_0 : decode cX9_told 0 = .ok (.iconst 0, 1) := by decide +kernel
theorem dX9_told_1 : decode cX9_told 1 = .ok (.istore_n 1, 1) := by decide +kernel
theorem dX9_told_2 : decode cX9_told 2 = .ok (.iconst 0, 1) := by decide +kernel
theorem dX9_told_3 : decode cX9_told 3 = .ok (.istore_n 2, 1) := by decide +kernel
theorem dX9_told_4 : decode cX9_told 4 = .ok (.iload_n 2, 1) := by decide +kernel
theorem dX9_told_5 : decode cX9_told 5 = .ok (.bipush 8, 2) := by decide +kernel
theorem dX9_told_7 : decode cX9_told 7 = .ok (.if_icmp .ge 28, 3) := by decide +kernel
theorem dX9_told_10 : decode cX9_told 10 = .ok (.iload_n 1, 1) := by decide +kernel
theorem dX9_told_11 : decode cX9_told 11 = .ok (.aload_n 0, 1) := by decide +kernel
theorem dX9_told_12 : decode cX9_told 12 = .ok (.getfield 7, 3) := by decide +kernel
theorem dX9_told_15 : decode cX9_told 15 = .ok (.iload_n 2, 1) := by decide +kernel
theorem dX9_told_16 : decode cX9_told 16 = .ok (.laload, 1) := by decide +kernel
theorem dX9_told_17 : decode cX9_told 17 = .ok (.lconst 0, 1) := by decide +kernel
theorem dX9_told_18 : decode cX9_told 18 = .ok (.lcmp, 1) := by decide +kernel
theorem dX9_told_19 : decode cX9_told 19 = .ok (.ifCond .ne 7, 3) := by decide +kernel
theorem dX9_told_22 : decode cX9_told 22 = .ok (.iconst 0, 1) := by decide +kernel
theorem dX9_told_23 : decode cX9_told 23 = .ok (.goto 4, 3) := by decide +kernel
theorem dX9_told_26 : decode cX9_told 26 = .ok (.iconst 1, 1) := by decide +kernel
theorem dX9_told_27 : decode cX9_told 27 = .ok (.iadd, 1) := by decide +kernel
theorem dX9_told_28 : decode cX9_told 28 = .ok (.istore_n 1, 1) := by decide +kernel
theorem dX9_told_29 : decode cX9_told 29 = .ok (.iinc 2 1, 3) := by decide +kernel
theorem dX9_told_32 : decode cX9_told 32 = .ok (.goto (-28), 3) := by decide +kernel
theorem dX9_told_35 : decode cX9_told 35 = .ok (.iload_n 1, 1) := by decide +kernel
theorem dX9_told_36 : decode cX9_told 36 = .ok (.ireturn, 1) := by decide +kernel
set_option maxRecDepth 20000 in
theorem ggX9_rowMany_X9_many : GoodIn wsX9_rowMany wsX9_many := goodIn_r _ [5] (by decide +kernel) (by decide +kernel)
set_option maxRecDepth 20000 in
theorem gX9_rowMany_X9_many : GoodIn wsX9_rowMany (va_wsS RX9 82 yX9_many wsX9_many) := goodIn_app (goodIn_of _ (by decide +kernel)) ggX9_rowMany_X9_many
theorem dX9_rowMany_0 : decode cX9_rowMany 0 = .ok (.aload_n 0, 1) := by decide +kernel
theorem dX9_rowMany_1 : decode cX9_rowMany 1 = .ok (.getfield 7, 3) := by decide +kernel
theorem dX9_rowMany_4 : decode cX9_rowMany 4 = .ok (.bipush 8, 2) := by decide +kernel
theorem dX9_rowMany_6 : decode cX9_rowMany 6 = .ok (.laload, 1) := by decide +kernel
theorem dX9_rowMany_7 : decode cX9_rowMany 7 = .ok (.invokestatic 82, 3) := by decide +kernel
theorem dX9_rowMany_10 : decode cX9_rowMany 10 = .ok (.ireturn, 1) := by decide +kernel
set_option maxRecDepth 20000 in
theorem ggX9_house_X9_told : GoodIn wsX9_house wsX9_told := goodIn_r _ [5, 6, 14, 15, 16, 17, 18, 19, 20, 21, 22, 23, 24, 25, 26, 27, 28, 29, 30, 31, 32, 33, 34, 35, 36, 37, 38, 39, 40] (by decide +kernel) (by decide +kernel)
set_option maxRecDepth 20000 in
theorem gX9_house_X9_told : GoodIn wsX9_house (wsV RX9 118 RX9 yX9_told wsX9_told) := goodIn_app (goodIn_of _ (by decide +kernel)) ggX9_house_X9_told
set_option maxRecDepth 20000 in
theorem ggX9_house_X9_begin : GoodIn wsX9_house wsX9_begin := goodIn_r _ [10, 6, 11, 12, 13, 14, 15, 16, 17, 18, 19, 20, 21, 22, 23, 24, 25, 26, 27, 28, 29, 30, 31, 32, 33, 34, 35, 36, 37, 38, 39, 40] (by decide +kernel) (by decide +kernel)
set_option maxRecDepth 20000 in
theorem gX9_house_X9_begin : GoodIn wsX9_house (wsV RX9 67 RX9 yX9_begin wsX9_begin) := goodIn_app (goodIn_of _ (by decide +kernel)) ggX9_house_X9_begin
theorem dX9_house_0 : decode cX9_house 0 = .ok (.aload_n 0, 1) := by decide +kernel
theorem dX9_house_1 : decode cX9_house 1 = .ok (.invokevirtual 118, 3) := by decide +kernel
theorem dX9_house_4 : decode cX9_house 4 = .ok (.istore_n 1, 1) := by decide +kernel
theorem dX9_house_5 : decode cX9_house 5 = .ok (.aload_n 0, 1) := by decide +kernel
theorem dX9_house_6 : decode cX9_house 6 = .ok (.invokevirtual 67, 3) := by decide +kernel
theorem dX9_house_9 : decode cX9_house 9 = .ok (.iload_n 1, 1) := by decide +kernel
theorem dX9_house_10 : decode cX9_house 10 = .ok (.ireturn, 1) := by decide +kernel
set_option maxRecDepth 20000 in
theorem ggX9_say_X9_isPart : GoodIn wsX9_say wsX9_isPart := goodIn_r _ [5, 6, 7, 8, 4, 9] (by decide +kernel) (by decide +kernel)
set_option maxRecDepth 20000 in
theorem gX9_say_X9_isPart : GoodIn wsX9_say (va_wsS RX9 122 yX9_isPart wsX9_isPart) := goodIn_app (goodIn_of _ (by decide +kernel)) ggX9_say_X9_isPart
set_option maxRecDepth 20000 in
theorem ggX9_say_X9_bad : GoodIn wsX9_say wsX9_bad := goodIn_r _ [13, 14, 30, 31, 32, 33, 34, 35, 36, 37, 38, 39, 40, 41, 42, 43, 44, 45, 46, 47, 48, 49, 50, 51, 52, 53, 54, 55, 56] (by decide +kernel) (by decide +kernel)
set_option maxRecDepth 20000 in
theorem gX9_say_X9_bad : GoodIn wsX9_say (wsV RX9 126 RX9 yX9_bad wsX9_bad) := goodIn_app (goodIn_of _ (by decide +kernel)) ggX9_say_X9_bad
set_option maxRecDepth 20000 in
theorem ggX9_say_X9_rowMany : GoodIn wsX9_say wsX9_rowMany := goodIn_r _ [18, 1, 19, 20, 4, 21, 30, 31, 32, 33, 34, 35, 36, 37, 38, 39, 40, 41, 42, 43, 44, 45, 46, 47, 48, 49, 50, 51, 52, 53, 54, 55, 56] (by decide +kernel) (by decide +kernel)
set_option maxRecDepth 20000 in
theorem gX9_say_X9_rowMany : GoodIn wsX9_say (wsV RX9 130 RX9 yX9_rowMany wsX9_rowMany) := goodIn_app (goodIn_of _ (by decide +kernel)) ggX9_say_X9_rowMany
set_option maxRecDepth 20000 in
theorem ggX9_say_X9_full : GoodIn wsX9_say wsX9_full := goodIn_r _ [25, 14, 30, 31, 32, 33, 34, 35, 36, 37, 38, 39, 40, 41, 42, 43, 44, 45, 46, 47, 48, 49, 50, 51, 52, 53, 54, 55, 56] (by decide +kernel) (by decide +kernel)
set_option maxRecDepth 20000 in
theorem gX9_say_X9_full : GoodIn wsX9_say (wsV RX9 133 RX9 yX9_full wsX9_full) := goodIn_app (goodIn_of _ (by decide +kernel)) ggX9_say_X9_full
set_option maxRecDepth 20000 in
theorem ggX9_say_X9_behind : GoodIn wsX9_say wsX9_behind := goodIn_r _ [28, 29, 19, 20, 4, 21] (by decide +kernel) (by decide +kernel)
set_option maxRecDepth 20000 in
theorem gX9_say_X9_behind : GoodIn wsX9_say (va_wsS RX9 90 yX9_behind wsX9_behind) := goodIn_app (goodIn_of _ (by decide +kernel)) ggX9_say_X9_behind
theorem dX9_say_0 : decode cX9_say 0 = .ok (.iload_n 1, 1) := by decide +kernel
theorem dX9_say_1 : decode cX9_say 1 = .ok (.invokestatic 122, 3) := by decide +kernel
theorem dX9_say_4 : decode cX9_say 4 = .ok (.ifCond .ne 10, 3) := by decide +kernel
theorem dX9_say_7 : decode cX9_say 7 = .ok (.aload_n 0, 1) := by decide +kernel
theorem dX9_say_8 : decode cX9_say 8 = .ok (.bipush (-2), 2) := by decide +kernel
theorem dX9_say_10 : decode cX9_say 10 = .ok (.invokevirtual 126, 3) := by decide +kernel
theorem dX9_say_13 : decode cX9_say 13 = .ok (.ireturn, 1) := by decide +kernel
theorem dX9_say_14 : decode cX9_say 14 = .ok (.aload_n 0, 1) := by decide +kernel
theorem dX9_say_15 : decode cX9_say 15 = .ok (.invokevirtual 130, 3) := by decide +kernel
theorem dX9_say_18 : decode cX9_say 18 = .ok (.bipush 10, 2) := by decide +kernel
theorem dX9_say_20 : decode cX9_say 20 = .ok (.if_icmp .ne 8, 3) := by decide +kernel
theorem dX9_say_23 : decode cX9_say 23 = .ok (.aload_n 0, 1) := by decide +kernel
theorem dX9_say_24 : decode cX9_say 24 = .ok (.invokevirtual 133, 3) := by decide +kernel
theorem dX9_say_27 : decode cX9_say 27 = .ok (.ireturn, 1) := by decide +kernel
theorem dX9_say_28 : decode cX9_say 28 = .ok (.aload_n 0, 1) := by decide +kernel
theorem dX9_say_29 : decode cX9_say 29 = .ok (.getfield 7, 3) := by decide +kernel
theorem dX9_say_32 : decode cX9_say 32 = .ok (.bipush 8, 2) := by decide +kernel
theorem dX9_say_34 : decode cX9_say 34 = .ok (.aload_n 0, 1) := by decide +kernel
theorem dX9_say_35 : decode cX9_say 35 = .ok (.getfield 7, 3) := by decide +kernel
theorem dX9_say_38 : decode cX9_say 38 = .ok (.bipush 8, 2) := by decide +kernel
theorem dX9_say_40 : decode cX9_say 40 = .ok (.laload, 1) := by decide +kernel
theorem dX9_say_41 : decode cX9_say 41 = .ok (.iload_n 1, 1) := by decide +kernel
theorem dX9_say_42 : decode cX9_say 42 = .ok (.invokestatic 90, 3) := by decide +kernel
theorem dX9_say_45 : decode cX9_say 45 = .ok (.lastore, 1) := by decide +kernel
theorem dX9_say_46 : decode cX9_say 46 = .ok (.aload_n 0, 1) := by decide +kernel
theorem dX9_say_47 : decode cX9_say 47 = .ok (.invokevirtual 130, 3) := by decide +kernel
theorem dX9_say_50 : decode cX9_say 50 = .ok (.ireturn, 1) := by decide +kernel
set_option maxRecDepth 20000 in
theorem ggX9_hush_X9_rowMany : GoodIn wsX9_hush wsX9_rowMany := goodIn_r _ [6, 1, 7, 8, 5, 9, 10, 11, 12, 13, 14, 15, 16, 17, 18, 19, 20, 21, 22, 23, 24, 25, 26, 27, 28, 29, 30, 31, 32, 33, 34, 35, 36] (by decide +kernel) (by decide +kernel)
set_option maxRecDepth 20000 in
theorem gX9_hush_X9_rowMany : GoodIn wsX9_hush (wsV RX9 130 RX9 yX9_rowMany wsX9_rowMany) := goodIn_app (goodIn_of _ (by decide +kernel)) ggX9_hush_X9_rowMany
theorem dX9_hush_0 : decode cX9_hush 0 = .ok (.aload_n 0, 1) := by decide +kernel
theorem dX9_hush_1 : decode cX9_hush 1 = .ok (.invokevirtual 130, 3) := by decide +kernel
theorem dX9_hush_4 : decode cX9_hush 4 = .ok (.istore_n 1, 1) := by decide +kernel
theorem dX9_hush_5 : decode cX9_hush 5 = .ok (.aload_n 0, 1) := by decide +kernel
theorem dX9_hush_6 : decode cX9_hush 6 = .ok (.getfield 7, 3) := by decide +kernel
theorem dX9_hush_9 : decode cX9_hush 9 = .ok (.bipush 8, 2) := by decide +kernel
theorem dX9_hush_11 : decode cX9_hush 11 = .ok (.lconst 0, 1) := by decide +kernel
theorem dX9_hush_12 : decode cX9_hush 12 = .ok (.lastore, 1) := by decide +kernel
theorem dX9_hush_13 : decode cX9_hush 13 = .ok (.iload_n 1, 1) := by decide +kernel
theorem dX9_hush_14 : decode cX9_hush 14 = .ok (.ireturn, 1) := by decide +kernel
theorem dX9_keep_0 : decode cX9_keep 0 = .ok (.aload_n 0, 1) := by decide +kernel
theorem dX9_keep_1 : decode cX9_keep 1 = .ok (.getfield 115, 3) := by decide +kernel
theorem dX9_keep_4 : decode cX9_keep 4 = .ok (.bipush 8, 2) := by decide +kernel
theorem dX9_keep_6 : decode cX9_keep 6 = .ok (.if_icmp .ne 53, 3) := by decide +kernel
theorem dX9_keep_9 : decode cX9_keep 9 = .ok (.iconst 0, 1) := by decide +kernel
theorem dX9_keep_10 : decode cX9_keep 10 = .ok (.istore_n 1, 1) := by decide +kernel
theorem dX9_keep_11 : decode cX9_keep 11 = .ok (.iload_n 1, 1) := by decide +kernel
theorem dX9_keep_12 : decode cX9_keep 12 = .ok (.bipush 56, 2) := by decide +kernel
theorem dX9_keep_14 : decode cX9_keep 14 = .ok (.if_icmp .ge 39, 3) := by decide +kernel
theorem dX9_keep_17 : decode cX9_keep 17 = .ok (.aload_n 0, 1) := by decide +kernel
theorem dX9_keep_18 : decode cX9_keep 18 = .ok (.getfield 20, 3) := by decide +kernel
theorem dX9_keep_21 : decode cX9_keep 21 = .ok (.iload_n 1, 1) := by decide +kernel
theorem dX9_keep_22 : decode cX9_keep 22 = .ok (.aload_n 0, 1) := by decide +kernel
theorem dX9_keep_23 : decode cX9_keep 23 = .ok (.getfield 20, 3) := by decide +kernel
theorem dX9_keep_26 : decode cX9_keep 26 = .ok (.iload_n 1, 1) := by decide +kernel
theorem dX9_keep_27 : decode cX9_keep 27 = .ok (.bipush 8, 2) := by decide +kernel
theorem dX9_keep_29 : decode cX9_keep 29 = .ok (.iadd, 1) := by decide +kernel
theorem dX9_keep_30 : decode cX9_keep 30 = .ok (.laload, 1) := by decide +kernel
theorem dX9_keep_31 : decode cX9_keep 31 = .ok (.lastore, 1) := by decide +kernel
theorem dX9_keep_32 : decode cX9_keep 32 = .ok (.aload_n 0, 1) := by decide +kernel
theorem dX9_keep_33 : decode cX9_keep 33 = .ok (.getfield 23, 3) := by decide +kernel
theorem dX9_keep_36 : decode cX9_keep 36 = .ok (.iload_n 1, 1) := by decide +kernel
theorem dX9_keep_37 : decode cX9_keep 37 = .ok (.aload_n 0, 1) := by decide +kernel
theorem dX9_keep_38 : decode cX9_keep 38 = .ok (.getfield 23, 3) := by decide +kernel
theorem dX9_keep_41 : decode cX9_keep 41 = .ok (.iload_n 1, 1) := by decide +kernel
theorem dX9_keep_42 : decode cX9_keep 42 = .ok (.bipush 8, 2) := by decide +kernel
theorem dX9_keep_44 : decode cX9_keep 44 = .ok (.iadd, 1) := by decide +kernel
theorem dX9_keep_45 : decode cX9_keep 45 = .ok (.iaload, 1) := by decide +kernel
theorem dX9_keep_46 : decode cX9_keep 46 = .ok (.iastore, 1) := by decide +kernel
theorem dX9_keep_47 : decode cX9_keep 47 = .ok (.iinc 1 1, 3) := by decide +kernel
theorem dX9_keep_50 : decode cX9_keep 50 = .ok (.goto (-39), 3) := by decide +kernel
theorem dX9_keep_53 : decode cX9_keep 53 = .ok (.aload_n 0, 1) := by decide +kernel
theorem dX9_keep_54 : decode cX9_keep 54 = .ok (.bipush 7, 2) := by decide +kernel
theorem dX9_keep_56 : decode cX9_keep 56 = .ok (.putfield 115, 3) := by decide +kernel
theorem dX9_keep_59 : decode cX9_keep 59 = .ok (.iconst 0, 1) := by decide +kernel
theorem dX9_keep_60 : decode cX9_keep 60 = .ok (.istore_n 1, 1) := by decide +kernel
theorem dX9_keep_61 : decode cX9_keep 61 = .ok (.iload_n 1, 1) := by decide +kernel
theorem dX9_keep_62 : decode cX9_keep 62 = .ok (.bipush 8, 2) := by decide +kernel
theorem dX9_keep_64 : decode cX9_keep 64 = .ok (.if_icmp .ge 49, 3) := by decide +kernel
theorem dX9_keep_67 : decode cX9_keep 67 = .ok (.aload_n 0, 1) := by decide +kernel
theorem dX9_keep_68 : decode cX9_keep 68 = .ok (.getfield 20, 3) := by decide +kernel
theorem dX9_keep_71 : decode cX9_keep 71 = .ok (.bipush 8, 2) := by decide +kernel
theorem dX9_keep_73 : decode cX9_keep 73 = .ok (.aload_n 0, 1) := by decide +kernel
theorem dX9_keep_74 : decode cX9_keep 74 = .ok (.getfield 115, 3) := by decide +kernel
theorem dX9_keep_77 : decode cX9_keep 77 = .ok (.imul, 1) := by decide +kernel
theorem dX9_keep_78 : decode cX9_keep 78 = .ok (.iload_n 1, 1) := by decide +kernel
theorem dX9_keep_79 : decode cX9_keep 79 = .ok (.iadd, 1) := by decide +kernel
theorem dX9_keep_80 : decode cX9_keep 80 = .ok (.aload_n 0, 1) := by decide +kernel
theorem dX9_keep_81 : decode cX9_keep 81 = .ok (.getfield 7, 3) := by decide +kernel
theorem dX9_keep_84 : decode cX9_keep 84 = .ok (.iload_n 1, 1) := by decide +kernel
theorem dX9_keep_85 : decode cX9_keep 85 = .ok (.laload, 1) := by decide +kernel
theorem dX9_keep_86 : decode cX9_keep 86 = .ok (.lastore, 1) := by decide +kernel
theorem dX9_keep_87 : decode cX9_keep 87 = .ok (.aload_n 0, 1) := by decide +kernel
theorem dX9_keep_88 : decode cX9_keep 88 = .ok (.getfield 23, 3) := by decide +kernel
theorem dX9_keep_91 : decode cX9_keep 91 = .ok (.bipush 8, 2) := by decide +kernel
theorem dX9_keep_93 : decode cX9_keep 93 = .ok (.aload_n 0, 1) := by decide +kernel
theorem dX9_keep_94 : decode cX9_keep 94 = .ok (.getfield 115, 3) := by decide +kernel
theorem dX9_keep_97 : decode cX9_keep 97 = .ok (.imul, 1) := by decide +kernel
theorem dX9_keep_98 : decode cX9_keep 98 = .ok (.iload_n 1, 1) := by decide +kernel
theorem dX9_keep_99 : decode cX9_keep 99 = .ok (.iadd, 1) := by decide +kernel
theorem dX9_keep_100 : decode cX9_keep 100 = .ok (.aload_n 0, 1) := by decide +kernel
theorem dX9_keep_101 : decode cX9_keep 101 = .ok (.getfield 13, 3) := by decide +kernel
theorem dX9_keep_104 : decode cX9_keep 104 = .ok (.iload_n 1, 1) := by decide +kernel
theorem dX9_keep_105 : decode cX9_keep 105 = .ok (.iaload, 1) := by decide +kernel
theorem dX9_keep_106 : decode cX9_keep 106 = .ok (.iastore, 1) := by decide +kernel
theorem dX9_keep_107 : decode cX9_keep 107 = .ok (.iinc 1 1, 3) := by decide +kernel
theorem dX9_keep_110 : decode cX9_keep 110 = .ok (.goto (-49), 3) := by decide +kernel
theorem dX9_keep_113 : decode cX9_keep 113 = .ok (.aload_n 0, 1) := by decide +kernel
theorem dX9_keep_114 : decode cX9_keep 114 = .ok (.dup, 1) := by decide +kernel
theorem dX9_keep_115 : decode cX9_keep 115 = .ok (.getfield 115, 3) := by decide +kernel
theorem dX9_keep_118 : decode cX9_keep 118 = .ok (.iconst 1, 1) := by decide +kernel
theorem dX9_keep_119 : decode cX9_keep 119 = .ok (.iadd, 1) := by decide +kernel
theorem dX9_keep_120 : decode cX9_keep 120 = .ok (.putfield 115, 3) := by decide +kernel
theorem dX9_keep_123 : decode cX9_keep 123 = .ok (.return_, 1) := by decide +kernel
set_option maxRecDepth 20000 in
theorem ggX9_becomes_X9_keep : GoodIn wsX9_becomes wsX9_keep := goodIn_r _ [7, 8, 9, 10, 1, 2, 14, 15, 16, 17, 18, 19, 20, 21, 22, 23, 24, 25, 26, 27, 28, 29, 30, 31, 32, 33, 34, 35, 36, 37, 38, 39, 40] (by decide +kernel) (by decide +kernel)
set_option maxRecDepth 20000 in
theorem gX9_becomes_X9_keep : GoodIn wsX9_becomes (wsV RX9 136 RX9 yX9_keep wsX9_keep) := goodIn_app (goodIn_of _ (by decide +kernel)) ggX9_becomes_X9_keep
set_option maxRecDepth 20000 in
theorem ggX9_becomes_X9_many : GoodIn wsX9_becomes wsX9_many := goodIn_r _ [13] (by decide +kernel) (by decide +kernel)
set_option maxRecDepth 20000 in
theorem gX9_becomes_X9_many : GoodIn wsX9_becomes (va_wsS RX9 82 yX9_many wsX9_many) := goodIn_app (goodIn_of _ (by decide +kernel)) ggX9_becomes_X9_many
theorem dX9_becomes_0 : decode cX9_becomes 0 = .ok (.aload_n 0, 1) := by decide +kernel
theorem dX9_becomes_1 : decode cX9_becomes 1 = .ok (.invokevirtual 136, 3) := by decide +kernel
theorem dX9_becomes_4 : decode cX9_becomes 4 = .ok (.aload_n 0, 1) := by decide +kernel
theorem dX9_becomes_5 : decode cX9_becomes 5 = .ok (.getfield 7, 3) := by decide +kernel
theorem dX9_becomes_8 : decode cX9_becomes 8 = .ok (.iload_n 1, 1) := by decide +kernel
theorem dX9_becomes_9 : decode cX9_becomes 9 = .ok (.lload_n 2, 1) := by decide +kernel
theorem dX9_becomes_10 : decode cX9_becomes 10 = .ok (.lastore, 1) := by decide +kernel
theorem dX9_becomes_11 : decode cX9_becomes 11 = .ok (.aload_n 0, 1) := by decide +kernel
theorem dX9_becomes_12 : decode cX9_becomes 12 = .ok (.getfield 13, 3) := by decide +kernel
theorem dX9_becomes_15 : decode cX9_becomes 15 = .ok (.iload_n 1, 1) := by decide +kernel
theorem dX9_becomes_16 : decode cX9_becomes 16 = .ok (.iload 4, 2) := by decide +kernel
theorem dX9_becomes_18 : decode cX9_becomes 18 = .ok (.iastore, 1) := by decide +kernel
theorem dX9_becomes_19 : decode cX9_becomes 19 = .ok (.lload_n 2, 1) := by decide +kernel
theorem dX9_becomes_20 : decode cX9_becomes 20 = .ok (.invokestatic 82, 3) := by decide +kernel
theorem dX9_becomes_23 : decode cX9_becomes 23 = .ok (.ireturn, 1) := by decide +kernel
set_option maxRecDepth 20000 in
theorem ggX9_tale_X9_isBranch : GoodIn wsX9_tale wsX9_isBranch := goodIn_r _ [5, 6, 7, 8, 4, 9] (by decide +kernel) (by decide +kernel)
set_option maxRecDepth 20000 in
theorem gX9_tale_X9_isBranch : GoodIn wsX9_tale (va_wsS RX9 139 yX9_isBranch wsX9_isBranch) := goodIn_app (goodIn_of _ (by decide +kernel)) ggX9_tale_X9_isBranch
set_option maxRecDepth 20000 in
theorem ggX9_tale_X9_becomes : GoodIn wsX9_tale wsX9_becomes := goodIn_r _ [13, 1, 14, 15, 16, 17, 4, 18, 19, 20, 21, 22, 23, 24, 30, 31, 32, 33, 34, 35, 36, 37, 38, 39, 40, 41, 42, 43, 44, 45, 46, 47, 48, 49, 50, 51, 52, 53, 54, 55, 56] (by decide +kernel) (by decide +kernel)
set_option maxRecDepth 20000 in
theorem gX9_tale_X9_becomes : GoodIn wsX9_tale (wsV RX9 142 RX9 yX9_becomes wsX9_becomes) := goodIn_app (goodIn_of _ (by decide +kernel)) ggX9_tale_X9_becomes
set_option maxRecDepth 20000 in
theorem ggX9_tale_X9_bad : GoodIn wsX9_tale wsX9_bad := goodIn_r _ [28, 29, 30, 31, 32, 33, 34, 35, 36, 37, 38, 39, 40, 41, 42, 43, 44, 45, 46, 47, 48, 49, 50, 51, 52, 53, 54, 55, 56] (by decide +kernel) (by decide +kernel)
set_option maxRecDepth 20000 in
theorem gX9_tale_X9_bad : GoodIn wsX9_tale (wsV RX9 126 RX9 yX9_bad wsX9_bad) := goodIn_app (goodIn_of _ (by decide +kernel)) ggX9_tale_X9_bad
theorem dX9_tale_0 : decode cX9_tale 0 = .ok (.iload_n 1, 1) := by decide +kernel
theorem dX9_tale_1 : decode cX9_tale 1 = .ok (.invokestatic 139, 3) := by decide +kernel
theorem dX9_tale_4 : decode cX9_tale 4 = .ok (.ifCond .eq 19, 3) := by decide +kernel
theorem dX9_tale_7 : decode cX9_tale 7 = .ok (.aload_n 0, 1) := by decide +kernel
theorem dX9_tale_8 : decode cX9_tale 8 = .ok (.iload_n 1, 1) := by decide +kernel
theorem dX9_tale_9 : decode cX9_tale 9 = .ok (.aload_n 0, 1) := by decide +kernel
theorem dX9_tale_10 : decode cX9_tale 10 = .ok (.getfield 7, 3) := by decide +kernel
theorem dX9_tale_13 : decode cX9_tale 13 = .ok (.bipush 8, 2) := by decide +kernel
theorem dX9_tale_15 : decode cX9_tale 15 = .ok (.laload, 1) := by decide +kernel
theorem dX9_tale_16 : decode cX9_tale 16 = .ok (.iconst (-1), 1) := by decide +kernel
theorem dX9_tale_17 : decode cX9_tale 17 = .ok (.invokevirtual 142, 3) := by decide +kernel
theorem dX9_tale_20 : decode cX9_tale 20 = .ok (.goto 9, 3) := by decide +kernel
theorem dX9_tale_23 : decode cX9_tale 23 = .ok (.aload_n 0, 1) := by decide +kernel
theorem dX9_tale_24 : decode cX9_tale 24 = .ok (.bipush (-2), 2) := by decide +kernel
theorem dX9_tale_26 : decode cX9_tale 26 = .ok (.invokevirtual 126, 3) := by decide +kernel
theorem dX9_tale_29 : decode cX9_tale 29 = .ok (.ireturn, 1) := by decide +kernel
set_option maxRecDepth 20000 in
theorem ggX9_isSlip_X9_in : GoodIn wsX9_isSlip wsX9_in := goodIn_r _ [6] (by decide +kernel) (by decide +kernel)
set_option maxRecDepth 20000 in
theorem gX9_isSlip_X9_in : GoodIn wsX9_isSlip (va_wsS RX9 72 yX9_in wsX9_in) := goodIn_app (goodIn_of _ (by decide +kernel)) ggX9_isSlip_X9_in
set_option maxRecDepth 20000 in
theorem ggX9_isSlip_X9_isPart : GoodIn wsX9_isSlip wsX9_isPart := goodIn_r _ [9, 2, 3, 4, 5, 6] (by decide +kernel) (by decide +kernel)
set_option maxRecDepth 20000 in
theorem gX9_isSlip_X9_isPart : GoodIn wsX9_isSlip (va_wsS RX9 122 yX9_isPart wsX9_isPart) := goodIn_app (goodIn_of _ (by decide +kernel)) ggX9_isSlip_X9_isPart
theorem dX9_isSlip_0 : decode cX9_isSlip 0 = .ok (.iload_n 0, 1) := by decide +kernel
theorem dX9_isSlip_1 : decode cX9_isSlip 1 = .ok (.i2l, 1) := by decide +kernel
theorem dX9_isSlip_2 : decode cX9_isSlip 2 = .ok (.lconst 0, 1) := by decide +kernel
theorem dX9_isSlip_3 : decode cX9_isSlip 3 = .ok (.ldc2_w 146, 3) := by decide +kernel
theorem dX9_isSlip_6 : decode cX9_isSlip 6 = .ok (.invokestatic 72, 3) := by decide +kernel
theorem dX9_isSlip_9 : decode cX9_isSlip 9 = .ok (.ifCond .eq 26, 3) := by decide +kernel
theorem dX9_isSlip_12 : decode cX9_isSlip 12 = .ok (.iload_n 1, 1) := by decide +kernel
theorem dX9_isSlip_13 : decode cX9_isSlip 13 = .ok (.i2l, 1) := by decide +kernel
theorem dX9_isSlip_14 : decode cX9_isSlip 14 = .ok (.lconst 0, 1) := by decide +kernel
theorem dX9_isSlip_15 : decode cX9_isSlip 15 = .ok (.ldc2_w 76, 3) := by decide +kernel
theorem dX9_isSlip_18 : decode cX9_isSlip 18 = .ok (.invokestatic 72, 3) := by decide +kernel
theorem dX9_isSlip_21 : decode cX9_isSlip 21 = .ok (.ifCond .eq 14, 3) := by decide +kernel
theorem dX9_isSlip_24 : decode cX9_isSlip 24 = .ok (.iload_n 2, 1) := by decide +kernel
theorem dX9_isSlip_25 : decode cX9_isSlip 25 = .ok (.invokestatic 122, 3) := by decide +kernel
theorem dX9_isSlip_28 : decode cX9_isSlip 28 = .ok (.ifCond .eq 7, 3) := by decide +kernel
theorem dX9_isSlip_31 : decode cX9_isSlip 31 = .ok (.iconst 1, 1) := by decide +kernel
theorem dX9_isSlip_32 : decode cX9_isSlip 32 = .ok (.goto 4, 3) := by decide +kernel
theorem dX9_isSlip_35 : decode cX9_isSlip 35 = .ok (.iconst 0, 1) := by decide +kernel
theorem dX9_isSlip_36 : decode cX9_isSlip 36 = .ok (.ireturn, 1) := by decide +kernel
set_option maxRecDepth 20000 in
theorem ggX9_hand_X9_isBranch : GoodIn wsX9_hand wsX9_isBranch := goodIn_r _ [5, 6, 7, 8, 4, 9] (by decide +kernel) (by decide +kernel)
set_option maxRecDepth 20000 in
theorem gX9_hand_X9_isBranch : GoodIn wsX9_hand (va_wsS RX9 139 yX9_isBranch wsX9_isBranch) := goodIn_app (goodIn_of _ (by decide +kernel)) ggX9_hand_X9_isBranch
set_option maxRecDepth 20000 in
theorem ggX9_hand_X9_isSlip : GoodIn wsX9_hand wsX9_isSlip := goodIn_r _ [12, 13, 14, 7, 8, 4, 9, 15, 16, 17] (by decide +kernel) (by decide +kernel)
set_option maxRecDepth 20000 in
theorem gX9_hand_X9_isSlip : GoodIn wsX9_hand (va_wsS RX9 148 yX9_isSlip wsX9_isSlip) := goodIn_app (goodIn_of _ (by decide +kernel)) ggX9_hand_X9_isSlip
set_option maxRecDepth 20000 in
theorem ggX9_hand_X9_bad : GoodIn wsX9_hand wsX9_bad := goodIn_r _ [21, 22, 68, 69, 70, 71, 72, 73, 74, 75, 76, 77, 78, 79, 80, 81, 82, 83, 84, 85, 86, 87, 88, 89, 90, 91, 92, 93, 94] (by decide +kernel) (by decide +kernel)
set_option maxRecDepth 20000 in
theorem gX9_hand_X9_bad : GoodIn wsX9_hand (wsV RX9 126 RX9 yX9_bad wsX9_bad) := goodIn_app (goodIn_of _ (by decide +kernel)) ggX9_hand_X9_bad
set_option maxRecDepth 20000 in
theorem ggX9_hand_X9_no : GoodIn wsX9_hand wsX9_no := goodIn_r _ [26, 22, 68, 69, 70, 71, 72, 73, 74, 75, 76, 77, 78, 79, 80, 81, 82, 83, 84, 85, 86, 87, 88, 89, 90, 91, 92, 93, 94] (by decide +kernel) (by decide +kernel)
set_option maxRecDepth 20000 in
theorem gX9_hand_X9_no : GoodIn wsX9_hand (wsV RX9 152 RX9 yX9_no wsX9_no) := goodIn_app (goodIn_of _ (by decide +kernel)) ggX9_hand_X9_no
set_option maxRecDepth 20000 in
theorem ggX9_hand_X9_slips : GoodIn wsX9_hand wsX9_slips := goodIn_r _ [29, 30, 31, 4, 32, 33, 34, 35, 36, 37, 38, 39, 40, 41, 42, 43, 44, 45, 46, 47, 48, 49, 50, 51, 52, 53, 54, 55] (by decide +kernel) (by decide +kernel)
set_option maxRecDepth 20000 in
theorem gX9_hand_X9_slips : GoodIn wsX9_hand (va_wsS RX9 155 yX9_slips wsX9_slips) := goodIn_app (goodIn_of _ (by decide +kernel)) ggX9_hand_X9_slips
set_option maxRecDepth 20000 in
theorem ggX9_hand_X9_becomes : GoodIn wsX9_hand wsX9_becomes := goodIn_r _ [59, 1, 60, 61, 62, 63, 4, 64, 65, 66, 67, 33, 34, 35, 68, 69, 70, 71, 72, 73, 74, 75, 76, 77, 78, 79, 80, 81, 82, 83, 84, 85, 86, 87, 88, 89, 90, 91, 92, 93, 94] (by decide +kernel) (by decide +kernel)
set_option maxRecDepth 20000 in
theorem gX9_hand_X9_becomes : GoodIn wsX9_hand (wsV RX9 142 RX9 yX9_becomes wsX9_becomes) := goodIn_app (goodIn_of _ (by decide +kernel)) ggX9_hand_X9_becomes
theorem dX9_hand_0 : decode cX9_hand 0 = .ok (.iload_n 1, 1) := by decide +kernel
theorem dX9_hand_1 : decode cX9_hand 1 = .ok (.invokestatic 139, 3) := by decide +kernel
theorem dX9_hand_4 : decode cX9_hand 4 = .ok (.ifCond .eq 26, 3) := by decide +kernel
theorem dX9_hand_7 : decode cX9_hand 7 = .ok (.iload_n 2, 1) := by decide +kernel
theorem dX9_hand_8 : decode cX9_hand 8 = .ok (.invokestatic 139, 3) := by decide +kernel
theorem dX9_hand_11 : decode cX9_hand 11 = .ok (.ifCond .eq 19, 3) := by decide +kernel
theorem dX9_hand_14 : decode cX9_hand 14 = .ok (.iload_n 2, 1) := by decide +kernel
theorem dX9_hand_15 : decode cX9_hand 15 = .ok (.iload_n 1, 1) := by decide +kernel
theorem dX9_hand_16 : decode cX9_hand 16 = .ok (.if_icmp .le 14, 3) := by decide +kernel
theorem dX9_hand_19 : decode cX9_hand 19 = .ok (.iload_n 3, 1) := by decide +kernel
theorem dX9_hand_20 : decode cX9_hand 20 = .ok (.iload 4, 2) := by decide +kernel
theorem dX9_hand_22 : decode cX9_hand 22 = .ok (.iload 5, 2) := by decide +kernel
theorem dX9_hand_24 : decode cX9_hand 24 = .ok (.invokestatic 148, 3) := by decide +kernel
theorem dX9_hand_27 : decode cX9_hand 27 = .ok (.ifCond .ne 10, 3) := by decide +kernel
theorem dX9_hand_30 : decode cX9_hand 30 = .ok (.aload_n 0, 1) := by decide +kernel
theorem dX9_hand_31 : decode cX9_hand 31 = .ok (.bipush (-2), 2) := by decide +kernel
theorem dX9_hand_33 : decode cX9_hand 33 = .ok (.invokevirtual 126, 3) := by decide +kernel
theorem dX9_hand_36 : decode cX9_hand 36 = .ok (.ireturn, 1) := by decide +kernel
theorem dX9_hand_37 : decode cX9_hand 37 = .ok (.aload_n 0, 1) := by decide +kernel
theorem dX9_hand_38 : decode cX9_hand 38 = .ok (.getfield 7, 3) := by decide +kernel
theorem dX9_hand_41 : decode cX9_hand 41 = .ok (.iload_n 1, 1) := by decide +kernel
theorem dX9_hand_42 : decode cX9_hand 42 = .ok (.laload, 1) := by decide +kernel
theorem dX9_hand_43 : decode cX9_hand 43 = .ok (.lconst 0, 1) := by decide +kernel
theorem dX9_hand_44 : decode cX9_hand 44 = .ok (.lcmp, 1) := by decide +kernel
theorem dX9_hand_45 : decode cX9_hand 45 = .ok (.ifCond .ne 10, 3) := by decide +kernel
theorem dX9_hand_48 : decode cX9_hand 48 = .ok (.aload_n 0, 1) := by decide +kernel
theorem dX9_hand_49 : decode cX9_hand 49 = .ok (.invokevirtual 152, 3) := by decide +kernel
theorem dX9_hand_52 : decode cX9_hand 52 = .ok (.goto 23, 3) := by decide +kernel
theorem dX9_hand_55 : decode cX9_hand 55 = .ok (.aload_n 0, 1) := by decide +kernel
theorem dX9_hand_56 : decode cX9_hand 56 = .ok (.iload_n 2, 1) := by decide +kernel
theorem dX9_hand_57 : decode cX9_hand 57 = .ok (.iload_n 3, 1) := by decide +kernel
theorem dX9_hand_58 : decode cX9_hand 58 = .ok (.iload 4, 2) := by decide +kernel
theorem dX9_hand_60 : decode cX9_hand 60 = .ok (.iload 5, 2) := by decide +kernel
theorem dX9_hand_62 : decode cX9_hand 62 = .ok (.aload_n 0, 1) := by decide +kernel
theorem dX9_hand_63 : decode cX9_hand 63 = .ok (.getfield 7, 3) := by decide +kernel
theorem dX9_hand_66 : decode cX9_hand 66 = .ok (.iload_n 1, 1) := by decide +kernel
theorem dX9_hand_67 : decode cX9_hand 67 = .ok (.laload, 1) := by decide +kernel
theorem dX9_hand_68 : decode cX9_hand 68 = .ok (.invokestatic 155, 3) := by decide +kernel
theorem dX9_hand_71 : decode cX9_hand 71 = .ok (.iload_n 1, 1) := by decide +kernel
theorem dX9_hand_72 : decode cX9_hand 72 = .ok (.invokevirtual 142, 3) := by decide +kernel
theorem dX9_hand_75 : decode cX9_hand 75 = .ok (.ireturn, 1) := by decide +kernel
set_option maxRecDepth 20000 in
theorem ggX9_undo_X9_no : GoodIn wsX9_undo wsX9_no := goodIn_r _ [10, 11, 16, 17, 18, 19, 20, 21, 22, 23, 24, 25, 26, 27, 28, 29, 30, 31, 32, 33, 34, 35, 36, 37, 38, 39, 40, 41, 42] (by decide +kernel) (by decide +kernel)
set_option maxRecDepth 20000 in
theorem gX9_undo_X9_no : GoodIn wsX9_undo (wsV RX9 152 RX9 yX9_no wsX9_no) := goodIn_app (goodIn_of _ (by decide +kernel)) ggX9_undo_X9_no
set_option maxRecDepth 20000 in
theorem ggX9_undo_X9_told : GoodIn wsX9_undo wsX9_told := goodIn_r _ [15, 2, 16, 17, 18, 19, 20, 21, 22, 23, 24, 25, 26, 27, 28, 29, 30, 31, 32, 33, 34, 35, 36, 37, 38, 39, 40, 41, 42] (by decide +kernel) (by decide +kernel)
set_option maxRecDepth 20000 in
theorem gX9_undo_X9_told : GoodIn wsX9_undo (wsV RX9 118 RX9 yX9_told wsX9_told) := goodIn_app (goodIn_of _ (by decide +kernel)) ggX9_undo_X9_told
theorem dX9_undo_0 : decode cX9_undo 0 = .ok (.aload_n 0, 1) := by decide +kernel
theorem dX9_undo_1 : decode cX9_undo 1 = .ok (.getfield 115, 3) := by decide +kernel
theorem dX9_undo_4 : decode cX9_undo 4 = .ok (.ifCond .ne 8, 3) := by decide +kernel
theorem dX9_undo_7 : decode cX9_undo 7 = .ok (.aload_n 0, 1) := by decide +kernel
theorem dX9_undo_8 : decode cX9_undo 8 = .ok (.invokevirtual 152, 3) := by decide +kernel
theorem dX9_undo_11 : decode cX9_undo 11 = .ok (.ireturn, 1) := by decide +kernel
theorem dX9_undo_12 : decode cX9_undo 12 = .ok (.aload_n 0, 1) := by decide +kernel
theorem dX9_undo_13 : decode cX9_undo 13 = .ok (.dup, 1) := by decide +kernel
theorem dX9_undo_14 : decode cX9_undo 14 = .ok (.getfield 115, 3) := by decide +kernel
theorem dX9_undo_17 : decode cX9_undo 17 = .ok (.iconst 1, 1) := by decide +kernel
theorem dX9_undo_18 : decode cX9_undo 18 = .ok (.isub, 1) := by decide +kernel
theorem dX9_undo_19 : decode cX9_undo 19 = .ok (.putfield 115, 3) := by decide +kernel
theorem dX9_undo_22 : decode cX9_undo 22 = .ok (.iconst 0, 1) := by decide +kernel
theorem dX9_undo_23 : decode cX9_undo 23 = .ok (.istore_n 1, 1) := by decide +kernel
theorem dX9_undo_24 : decode cX9_undo 24 = .ok (.iload_n 1, 1) := by decide +kernel
theorem dX9_undo_25 : decode cX9_undo 25 = .ok (.bipush 8, 2) := by decide +kernel
theorem dX9_undo_27 : decode cX9_undo 27 = .ok (.if_icmp .ge 49, 3) := by decide +kernel
theorem dX9_undo_30 : decode cX9_undo 30 = .ok (.aload_n 0, 1) := by decide +kernel
theorem dX9_undo_31 : decode cX9_undo 31 = .ok (.getfield 7, 3) := by decide +kernel
theorem dX9_undo_34 : decode cX9_undo 34 = .ok (.iload_n 1, 1) := by decide +kernel
theorem dX9_undo_35 : decode cX9_undo 35 = .ok (.aload_n 0, 1) := by decide +kernel
theorem dX9_undo_36 : decode cX9_undo 36 = .ok (.getfield 20, 3) := by decide +kernel
theorem dX9_undo_39 : decode cX9_undo 39 = .ok (.bipush 8, 2) := by decide +kernel
theorem dX9_undo_41 : decode cX9_undo 41 = .ok (.aload_n 0, 1) := by decide +kernel
theorem dX9_undo_42 : decode cX9_undo 42 = .ok (.getfield 115, 3) := by decide +kernel
theorem dX9_undo_45 : decode cX9_undo 45 = .ok (.imul, 1) := by decide +kernel
theorem dX9_undo_46 : decode cX9_undo 46 = .ok (.iload_n 1, 1) := by decide +kernel
theorem dX9_undo_47 : decode cX9_undo 47 = .ok (.iadd, 1) := by decide +kernel
theorem dX9_undo_48 : decode cX9_undo 48 = .ok (.laload, 1) := by decide +kernel
theorem dX9_undo_49 : decode cX9_undo 49 = .ok (.lastore, 1) := by decide +kernel
theorem dX9_undo_50 : decode cX9_undo 50 = .ok (.aload_n 0, 1) := by decide +kernel
theorem dX9_undo_51 : decode cX9_undo 51 = .ok (.getfield 13, 3) := by decide +kernel
theorem dX9_undo_54 : decode cX9_undo 54 = .ok (.iload_n 1, 1) := by decide +kernel
theorem dX9_undo_55 : decode cX9_undo 55 = .ok (.aload_n 0, 1) := by decide +kernel
theorem dX9_undo_56 : decode cX9_undo 56 = .ok (.getfield 23, 3) := by decide +kernel
theorem dX9_undo_59 : decode cX9_undo 59 = .ok (.bipush 8, 2) := by decide +kernel
theorem dX9_undo_61 : decode cX9_undo 61 = .ok (.aload_n 0, 1) := by decide +kernel
theorem dX9_undo_62 : decode cX9_undo 62 = .ok (.getfield 115, 3) := by decide +kernel
theorem dX9_undo_65 : decode cX9_undo 65 = .ok (.imul, 1) := by decide +kernel
theorem dX9_undo_66 : decode cX9_undo 66 = .ok (.iload_n 1, 1) := by decide +kernel
theorem dX9_undo_67 : decode cX9_undo 67 = .ok (.iadd, 1) := by decide +kernel
theorem dX9_undo_68 : decode cX9_undo 68 = .ok (.iaload, 1) := by decide +kernel
theorem dX9_undo_69 : decode cX9_undo 69 = .ok (.iastore, 1) := by decide +kernel
theorem dX9_undo_70 : decode cX9_undo 70 = .ok (.iinc 1 1, 3) := by decide +kernel
theorem dX9_undo_73 : decode cX9_undo 73 = .ok (.goto (-49), 3) := by decide +kernel
theorem dX9_undo_76 : decode cX9_undo 76 = .ok (.aload_n 0, 1) := by decide +kernel
theorem dX9_undo_77 : decode cX9_undo 77 = .ok (.invokevirtual 118, 3) := by decide +kernel
theorem dX9_undo_80 : decode cX9_undo 80 = .ok (.ireturn, 1) := by decide +kernel
set_option maxRecDepth 20000 in
theorem ggX9_at_X9_isBranch : GoodIn wsX9_at wsX9_isBranch := goodIn_r _ [5, 6, 7, 8, 4, 9] (by decide +kernel) (by decide +kernel)
set_option maxRecDepth 20000 in
theorem gX9_at_X9_isBranch : GoodIn wsX9_at (va_wsS RX9 139 yX9_isBranch wsX9_isBranch) := goodIn_app (goodIn_of _ (by decide +kernel)) ggX9_at_X9_isBranch
set_option maxRecDepth 20000 in
theorem ggX9_at_X9_bad : GoodIn wsX9_at wsX9_bad := goodIn_r _ [13, 14, 22, 23, 24, 25, 26, 27, 28, 29, 30, 31, 32, 33, 34, 35, 36, 37, 38, 39, 40, 41, 42, 43, 44, 45, 46, 47, 48] (by decide +kernel) (by decide +kernel)
set_option maxRecDepth 20000 in
theorem gX9_at_X9_bad : GoodIn wsX9_at (wsV RX9 126 RX9 yX9_bad wsX9_bad) := goodIn_app (goodIn_of _ (by decide +kernel)) ggX9_at_X9_bad
set_option maxRecDepth 20000 in
theorem ggX9_at_X9_many : GoodIn wsX9_at wsX9_many := goodIn_r _ [17] (by decide +kernel) (by decide +kernel)
set_option maxRecDepth 20000 in
theorem gX9_at_X9_many : GoodIn wsX9_at (va_wsS RX9 82 yX9_many wsX9_many) := goodIn_app (goodIn_of _ (by decide +kernel)) ggX9_at_X9_many
set_option maxRecDepth 20000 in
theorem ggX9_at_X9_partOf : GoodIn wsX9_at wsX9_partOf := goodIn_r _ [20, 21] (by decide +kernel) (by decide +kernel)
set_option maxRecDepth 20000 in
theorem gX9_at_X9_partOf : GoodIn wsX9_at (va_wsS RX9 86 yX9_partOf wsX9_partOf) := goodIn_app (goodIn_of _ (by decide +kernel)) ggX9_at_X9_partOf
theorem dX9_at_0 : decode cX9_at 0 = .ok (.iload_n 1, 1) := by decide +kernel
theorem dX9_at_1 : decode cX9_at 1 = .ok (.invokestatic 139, 3) := by decide +kernel
theorem dX9_at_4 : decode cX9_at 4 = .ok (.ifCond .eq 8, 3) := by decide +kernel
theorem dX9_at_7 : decode cX9_at 7 = .ok (.iload_n 2, 1) := by decide +kernel
theorem dX9_at_8 : decode cX9_at 8 = .ok (.iconst (-1), 1) := by decide +kernel
theorem dX9_at_9 : decode cX9_at 9 = .ok (.if_icmp .ge 10, 3) := by decide +kernel
theorem dX9_at_12 : decode cX9_at 12 = .ok (.aload_n 0, 1) := by decide +kernel
theorem dX9_at_13 : decode cX9_at 13 = .ok (.bipush (-10), 2) := by decide +kernel
theorem dX9_at_15 : decode cX9_at 15 = .ok (.invokevirtual 126, 3) := by decide +kernel
theorem dX9_at_18 : decode cX9_at 18 = .ok (.ireturn, 1) := by decide +kernel
theorem dX9_at_19 : decode cX9_at 19 = .ok (.aload_n 0, 1) := by decide +kernel
theorem dX9_at_20 : decode cX9_at 20 = .ok (.getfield 7, 3) := by decide +kernel
theorem dX9_at_23 : decode cX9_at 23 = .ok (.iload_n 1, 1) := by decide +kernel
theorem dX9_at_24 : decode cX9_at 24 = .ok (.laload, 1) := by decide +kernel
theorem dX9_at_25 : decode cX9_at 25 = .ok (.invokestatic 82, 3) := by decide +kernel
theorem dX9_at_28 : decode cX9_at 28 = .ok (.istore_n 3, 1) := by decide +kernel
theorem dX9_at_29 : decode cX9_at 29 = .ok (.iload_n 2, 1) := by decide +kernel
theorem dX9_at_30 : decode cX9_at 30 = .ok (.iconst (-1), 1) := by decide +kernel
theorem dX9_at_31 : decode cX9_at 31 = .ok (.if_icmp .ne 7, 3) := by decide +kernel
theorem dX9_at_34 : decode cX9_at 34 = .ok (.iload_n 3, 1) := by decide +kernel
theorem dX9_at_35 : decode cX9_at 35 = .ok (.goto 23, 3) := by decide +kernel
theorem dX9_at_38 : decode cX9_at 38 = .ok (.iload_n 2, 1) := by decide +kernel
theorem dX9_at_39 : decode cX9_at 39 = .ok (.iload_n 3, 1) := by decide +kernel
theorem dX9_at_40 : decode cX9_at 40 = .ok (.if_icmp .ge 16, 3) := by decide +kernel
theorem dX9_at_43 : decode cX9_at 43 = .ok (.aload_n 0, 1) := by decide +kernel
theorem dX9_at_44 : decode cX9_at 44 = .ok (.getfield 7, 3) := by decide +kernel
theorem dX9_at_47 : decode cX9_at 47 = .ok (.iload_n 1, 1) := by decide +kernel
theorem dX9_at_48 : decode cX9_at 48 = .ok (.laload, 1) := by decide +kernel
theorem dX9_at_49 : decode cX9_at 49 = .ok (.iload_n 2, 1) := by decide +kernel
theorem dX9_at_50 : decode cX9_at 50 = .ok (.invokestatic 86, 3) := by decide +kernel
theorem dX9_at_53 : decode cX9_at 53 = .ok (.goto 5, 3) := by decide +kernel
theorem dX9_at_56 : decode cX9_at 56 = .ok (.bipush (-5), 2) := by decide +kernel
theorem dX9_at_58 : decode cX9_at 58 = .ok (.ireturn, 1) := by decide +kernel
set_option maxRecDepth 20000 in
theorem ggX9_parent_X9_isBranch : GoodIn wsX9_parent wsX9_isBranch := goodIn_r _ [5, 6, 7, 8, 4, 9] (by decide +kernel) (by decide +kernel)
set_option maxRecDepth 20000 in
theorem gX9_parent_X9_isBranch : GoodIn wsX9_parent (va_wsS RX9 139 yX9_isBranch wsX9_isBranch) := goodIn_app (goodIn_of _ (by decide +kernel)) ggX9_parent_X9_isBranch
set_option maxRecDepth 20000 in
theorem ggX9_parent_X9_bad : GoodIn wsX9_parent wsX9_bad := goodIn_r _ [13, 14, 15, 16, 17, 18, 19, 20, 21, 22, 23, 24, 25, 26, 27, 28, 29, 30, 31, 32, 33, 34, 35, 36, 37, 38, 39, 40, 41] (by decide +kernel) (by decide +kernel)
set_option maxRecDepth 20000 in
theorem gX9_parent_X9_bad : GoodIn wsX9_parent (wsV RX9 126 RX9 yX9_bad wsX9_bad) := goodIn_app (goodIn_of _ (by decide +kernel)) ggX9_parent_X9_bad
theorem dX9_parent_0 : decode cX9_parent 0 = .ok (.iload_n 1, 1) := by decide +kernel
theorem dX9_parent_1 : decode cX9_parent 1 = .ok (.invokestatic 139, 3) := by decide +kernel
theorem dX9_parent_4 : decode cX9_parent 4 = .ok (.ifCond .eq 12, 3) := by decide +kernel
theorem dX9_parent_7 : decode cX9_parent 7 = .ok (.aload_n 0, 1) := by decide +kernel
theorem dX9_parent_8 : decode cX9_parent 8 = .ok (.getfield 13, 3) := by decide +kernel
theorem dX9_parent_11 : decode cX9_parent 11 = .ok (.iload_n 1, 1) := by decide +kernel
theorem dX9_parent_12 : decode cX9_parent 12 = .ok (.iaload, 1) := by decide +kernel
theorem dX9_parent_13 : decode cX9_parent 13 = .ok (.goto 9, 3) := by decide +kernel
theorem dX9_parent_16 : decode cX9_parent 16 = .ok (.aload_n 0, 1) := by decide +kernel
theorem dX9_parent_17 : decode cX9_parent 17 = .ok (.bipush (-2), 2) := by decide +kernel
theorem dX9_parent_19 : decode cX9_parent 19 = .ok (.invokevirtual 126, 3) := by decide +kernel
theorem dX9_parent_22 : decode cX9_parent 22 = .ok (.ireturn, 1) := by decide +kernel
set_option maxRecDepth 20000 in
theorem ggX9_pointless_X9_has : GoodIn wsX9_pointless wsX9_has := goodIn_r _ [5, 6, 7, 4, 8, 9, 10, 11, 12] (by decide +kernel) (by decide +kernel)
set_option maxRecDepth 20000 in
theorem gX9_pointless_X9_has : GoodIn wsX9_pointless (va_wsS RX9 107 yX9_has wsX9_has) := goodIn_app (goodIn_of _ (by decide +kernel)) ggX9_pointless_X9_has
theorem dX9_pointless_0 : decode cX9_pointless 0 = .ok (.iconst 0, 1) := by decide +kernel
theorem dX9_pointless_1 : decode cX9_pointless 1 = .ok (.istore_n 1, 1) := by decide +kernel
theorem dX9_pointless_2 : decode cX9_pointless 2 = .ok (.iload_n 1, 1) := by decide +kernel
theorem dX9_pointless_3 : decode cX9_pointless 3 = .ok (.bipush 8, 2) := by decide +kernel
theorem dX9_pointless_5 : decode cX9_pointless 5 = .ok (.if_icmp .ge 36, 3) := by decide +kernel
theorem dX9_pointless_8 : decode cX9_pointless 8 = .ok (.aload_n 0, 1) := by decide +kernel
theorem dX9_pointless_9 : decode cX9_pointless 9 = .ok (.getfield 7, 3) := by decide +kernel
theorem dX9_pointless_12 : decode cX9_pointless 12 = .ok (.iload_n 1, 1) := by decide +kernel
theorem dX9_pointless_13 : decode cX9_pointless 13 = .ok (.laload, 1) := by decide +kernel
theorem dX9_pointless_14 : decode cX9_pointless 14 = .ok (.lconst 0, 1) := by decide +kernel
theorem dX9_pointless_15 : decode cX9_pointless 15 = .ok (.lcmp, 1) := by decide +kernel
theorem dX9_pointless_16 : decode cX9_pointless 16 = .ok (.ifCond .eq 19, 3) := by decide +kernel
theorem dX9_pointless_19 : decode cX9_pointless 19 = .ok (.aload_n 0, 1) := by decide +kernel
theorem dX9_pointless_20 : decode cX9_pointless 20 = .ok (.getfield 7, 3) := by decide +kernel
theorem dX9_pointless_23 : decode cX9_pointless 23 = .ok (.iload_n 1, 1) := by decide +kernel
theorem dX9_pointless_24 : decode cX9_pointless 24 = .ok (.laload, 1) := by decide +kernel
theorem dX9_pointless_25 : decode cX9_pointless 25 = .ok (.bipush 9, 2) := by decide +kernel
theorem dX9_pointless_27 : decode cX9_pointless 27 = .ok (.invokestatic 107, 3) := by decide +kernel
theorem dX9_pointless_30 : decode cX9_pointless 30 = .ok (.ifCond .ne 5, 3) := by decide +kernel
theorem dX9_pointless_33 : decode cX9_pointless 33 = .ok (.iload_n 1, 1) := by decide +kernel
theorem dX9_pointless_34 : decode cX9_pointless 34 = .ok (.ireturn, 1) := by decide +kernel
theorem dX9_pointless_35 : decode cX9_pointless 35 = .ok (.iinc 1 1, 3) := by decide +kernel
theorem dX9_pointless_38 : decode cX9_pointless 38 = .ok (.goto (-36), 3) := by decide +kernel
theorem dX9_pointless_41 : decode cX9_pointless 41 = .ok (.iconst (-1), 1) := by decide +kernel
theorem dX9_pointless_42 : decode cX9_pointless 42 = .ok (.ireturn, 1) := by decide +kernel
theorem dX9_least_0 : decode cX9_least 0 = .ok (.iload_n 0, 1) := by decide +kernel
theorem dX9_least_1 : decode cX9_least 1 = .ok (.iload_n 1, 1) := by decide +kernel
theorem dX9_least_2 : decode cX9_least 2 = .ok (.if_icmp .ge 7, 3) := by decide +kernel
theorem dX9_least_5 : decode cX9_least 5 = .ok (.iload_n 0, 1) := by decide +kernel
theorem dX9_least_6 : decode cX9_least 6 = .ok (.goto 4, 3) := by decide +kernel
theorem dX9_least_9 : decode cX9_least 9 = .ok (.iload_n 1, 1) := by decide +kernel
theorem dX9_least_10 : decode cX9_least 10 = .ok (.ireturn, 1) := by decide +kernel
set_option maxRecDepth 20000 in
theorem ggX9_areTurned_X9_partOf : GoodIn wsX9_areTurned wsX9_partOf := goodIn_r _ [4, 5] (by decide +kernel) (by decide +kernel)
set_option maxRecDepth 20000 in
theorem gX9_areTurned_X9_partOf : GoodIn wsX9_areTurned (va_wsS RX9 86 yX9_partOf wsX9_partOf) := goodIn_app (goodIn_of _ (by decide +kernel)) ggX9_areTurned_X9_partOf
theorem dX9_areTurned_0 : decode cX9_areTurned 0 = .ok (.iload_n 2, 1) := by decide +kernel
theorem dX9_areTurned_1 : decode cX9_areTurned 1 = .ok (.iconst 1, 1) := by decide +kernel
theorem dX9_areTurned_2 : decode cX9_areTurned 2 = .ok (.if_icmp .le 49, 3) := by decide +kernel
theorem dX9_areTurned_5 : decode cX9_areTurned 5 = .ok (.iload 5, 2) := by decide +kernel
theorem dX9_areTurned_7 : decode cX9_areTurned 7 = .ok (.iconst 1, 1) := by decide +kernel
theorem dX9_areTurned_8 : decode cX9_areTurned 8 = .ok (.if_icmp .le 43, 3) := by decide +kernel
theorem dX9_areTurned_11 : decode cX9_areTurned 11 = .ok (.lload_n 0, 1) := by decide +kernel
theorem dX9_areTurned_12 : decode cX9_areTurned 12 = .ok (.iload_n 2, 1) := by decide +kernel
theorem dX9_areTurned_13 : decode cX9_areTurned 13 = .ok (.iconst 1, 1) := by decide +kernel
theorem dX9_areTurned_14 : decode cX9_areTurned 14 = .ok (.isub, 1) := by decide +kernel
theorem dX9_areTurned_15 : decode cX9_areTurned 15 = .ok (.invokestatic 86, 3) := by decide +kernel
theorem dX9_areTurned_18 : decode cX9_areTurned 18 = .ok (.lload_n 3, 1) := by decide +kernel
theorem dX9_areTurned_19 : decode cX9_areTurned 19 = .ok (.iload 5, 2) := by decide +kernel
theorem dX9_areTurned_21 : decode cX9_areTurned 21 = .ok (.iconst 2, 1) := by decide +kernel
theorem dX9_areTurned_22 : decode cX9_areTurned 22 = .ok (.isub, 1) := by decide +kernel
theorem dX9_areTurned_23 : decode cX9_areTurned 23 = .ok (.invokestatic 86, 3) := by decide +kernel
theorem dX9_areTurned_26 : decode cX9_areTurned 26 = .ok (.if_icmp .ne 25, 3) := by decide +kernel
theorem dX9_areTurned_29 : decode cX9_areTurned 29 = .ok (.lload_n 0, 1) := by decide +kernel
theorem dX9_areTurned_30 : decode cX9_areTurned 30 = .ok (.iload_n 2, 1) := by decide +kernel
theorem dX9_areTurned_31 : decode cX9_areTurned 31 = .ok (.iconst 2, 1) := by decide +kernel
theorem dX9_areTurned_32 : decode cX9_areTurned 32 = .ok (.isub, 1) := by decide +kernel
theorem dX9_areTurned_33 : decode cX9_areTurned 33 = .ok (.invokestatic 86, 3) := by decide +kernel
theorem dX9_areTurned_36 : decode cX9_areTurned 36 = .ok (.lload_n 3, 1) := by decide +kernel
theorem dX9_areTurned_37 : decode cX9_areTurned 37 = .ok (.iload 5, 2) := by decide +kernel
theorem dX9_areTurned_39 : decode cX9_areTurned 39 = .ok (.iconst 1, 1) := by decide +kernel
theorem dX9_areTurned_40 : decode cX9_areTurned 40 = .ok (.isub, 1) := by decide +kernel
theorem dX9_areTurned_41 : decode cX9_areTurned 41 = .ok (.invokestatic 86, 3) := by decide +kernel
theorem dX9_areTurned_44 : decode cX9_areTurned 44 = .ok (.if_icmp .ne 7, 3) := by decide +kernel
theorem dX9_areTurned_47 : decode cX9_areTurned 47 = .ok (.iconst 1, 1) := by decide +kernel
theorem dX9_areTurned_48 : decode cX9_areTurned 48 = .ok (.goto 4, 3) := by decide +kernel
theorem dX9_areTurned_51 : decode cX9_areTurned 51 = .ok (.iconst 0, 1) := by decide +kernel
theorem dX9_areTurned_52 : decode cX9_areTurned 52 = .ok (.ireturn, 1) := by decide +kernel
set_option maxRecDepth 20000 in
theorem ggX9_between_X9_many : GoodIn wsX9_between wsX9_many := goodIn_r _ [5] (by decide +kernel) (by decide +kernel)
set_option maxRecDepth 20000 in
theorem gX9_between_X9_many : GoodIn wsX9_between (va_wsS RX9 82 yX9_many wsX9_many) := goodIn_app (goodIn_of _ (by decide +kernel)) ggX9_between_X9_many
set_option maxRecDepth 20000 in
theorem ggX9_between_X9_least : GoodIn wsX9_between wsX9_least := goodIn_r _ [8] (by decide +kernel) (by decide +kernel)
set_option maxRecDepth 20000 in
theorem gX9_between_X9_least : GoodIn wsX9_between (va_wsS RX9 159 yX9_least wsX9_least) := goodIn_app (goodIn_of _ (by decide +kernel)) ggX9_between_X9_least
set_option maxRecDepth 20000 in
theorem ggX9_between_X9_partOf : GoodIn wsX9_between wsX9_partOf := goodIn_r _ [11, 12] (by decide +kernel) (by decide +kernel)
set_option maxRecDepth 20000 in
theorem gX9_between_X9_partOf : GoodIn wsX9_between (va_wsS RX9 86 yX9_partOf wsX9_partOf) := goodIn_app (goodIn_of _ (by decide +kernel)) ggX9_between_X9_partOf
set_option maxRecDepth 20000 in
theorem ggX9_between_X9_areTurned : GoodIn wsX9_between wsX9_areTurned := goodIn_r _ [15, 9, 10, 4, 11, 12] (by decide +kernel) (by decide +kernel)
set_option maxRecDepth 20000 in
theorem gX9_between_X9_areTurned : GoodIn wsX9_between (va_wsS RX9 163 yX9_areTurned wsX9_areTurned) := goodIn_app (goodIn_of _ (by decide +kernel)) ggX9_between_X9_areTurned
theorem dX9_between_0 : decode cX9_between 0 = .ok (.iconst 0, 1) := by decide +kernel
theorem dX9_between_1 : decode cX9_between 1 = .ok (.istore 5, 2) := by decide +kernel
theorem dX9_between_3 : decode cX9_between 3 = .ok (.iload 5, 2) := by decide +kernel
theorem dX9_between_5 : decode cX9_between 5 = .ok (.lload_n 1, 1) := by decide +kernel
theorem dX9_between_6 : decode cX9_between 6 = .ok (.invokestatic 82, 3) := by decide +kernel
theorem dX9_between_9 : decode cX9_between 9 = .ok (.if_icmp .gt 187, 3) := by decide +kernel
theorem dX9_between_12 : decode cX9_between 12 = .ok (.iconst 0, 1) := by decide +kernel
theorem dX9_between_13 : decode cX9_between 13 = .ok (.istore 6, 2) := by decide +kernel
theorem dX9_between_15 : decode cX9_between 15 = .ok (.iload 6, 2) := by decide +kernel
theorem dX9_between_17 : decode cX9_between 17 = .ok (.lload_n 3, 1) := by decide +kernel
theorem dX9_between_18 : decode cX9_between 18 = .ok (.invokestatic 82, 3) := by decide +kernel
theorem dX9_between_21 : decode cX9_between 21 = .ok (.if_icmp .gt 169, 3) := by decide +kernel
theorem dX9_between_24 : decode cX9_between 24 = .ok (.iload 5, 2) := by decide +kernel
theorem dX9_between_26 : decode cX9_between 26 = .ok (.iload 6, 2) := by decide +kernel
theorem dX9_between_28 : decode cX9_between 28 = .ok (.iadd, 1) := by decide +kernel
theorem dX9_between_29 : decode cX9_between 29 = .ok (.istore 7, 2) := by decide +kernel
theorem dX9_between_31 : decode cX9_between 31 = .ok (.iload 5, 2) := by decide +kernel
theorem dX9_between_33 : decode cX9_between 33 = .ok (.ifCond .le 136, 3) := by decide +kernel
theorem dX9_between_36 : decode cX9_between 36 = .ok (.iload 6, 2) := by decide +kernel
theorem dX9_between_38 : decode cX9_between 38 = .ok (.ifCond .le 131, 3) := by decide +kernel
theorem dX9_between_41 : decode cX9_between 41 = .ok (.aload_n 0, 1) := by decide +kernel
theorem dX9_between_42 : decode cX9_between 42 = .ok (.getfield 52, 3) := by decide +kernel
theorem dX9_between_45 : decode cX9_between 45 = .ok (.bipush 11, 2) := by decide +kernel
theorem dX9_between_47 : decode cX9_between 47 = .ok (.iload 5, 2) := by decide +kernel
theorem dX9_between_49 : decode cX9_between 49 = .ok (.imul, 1) := by decide +kernel
theorem dX9_between_50 : decode cX9_between 50 = .ok (.bipush 11, 2) := by decide +kernel
theorem dX9_between_52 : decode cX9_between 52 = .ok (.isub, 1) := by decide +kernel
theorem dX9_between_53 : decode cX9_between 53 = .ok (.iload 6, 2) := by decide +kernel
theorem dX9_between_55 : decode cX9_between 55 = .ok (.iadd, 1) := by decide +kernel
theorem dX9_between_56 : decode cX9_between 56 = .ok (.iaload, 1) := by decide +kernel
theorem dX9_between_57 : decode cX9_between 57 = .ok (.aload_n 0, 1) := by decide +kernel
theorem dX9_between_58 : decode cX9_between 58 = .ok (.getfield 52, 3) := by decide +kernel
theorem dX9_between_61 : decode cX9_between 61 = .ok (.bipush 11, 2) := by decide +kernel
theorem dX9_between_63 : decode cX9_between 63 = .ok (.iload 5, 2) := by decide +kernel
theorem dX9_between_65 : decode cX9_between 65 = .ok (.imul, 1) := by decide +kernel
theorem dX9_between_66 : decode cX9_between 66 = .ok (.iload 6, 2) := by decide +kernel
theorem dX9_between_68 : decode cX9_between 68 = .ok (.iadd, 1) := by decide +kernel
theorem dX9_between_69 : decode cX9_between 69 = .ok (.iconst 1, 1) := by decide +kernel
theorem dX9_between_70 : decode cX9_between 70 = .ok (.isub, 1) := by decide +kernel
theorem dX9_between_71 : decode cX9_between 71 = .ok (.iaload, 1) := by decide +kernel
theorem dX9_between_72 : decode cX9_between 72 = .ok (.invokestatic 159, 3) := by decide +kernel
theorem dX9_between_75 : decode cX9_between 75 = .ok (.iconst 1, 1) := by decide +kernel
theorem dX9_between_76 : decode cX9_between 76 = .ok (.iadd, 1) := by decide +kernel
theorem dX9_between_77 : decode cX9_between 77 = .ok (.istore 7, 2) := by decide +kernel
theorem dX9_between_79 : decode cX9_between 79 = .ok (.iload 7, 2) := by decide +kernel
theorem dX9_between_81 : decode cX9_between 81 = .ok (.aload_n 0, 1) := by decide +kernel
theorem dX9_between_82 : decode cX9_between 82 = .ok (.getfield 52, 3) := by decide +kernel
theorem dX9_between_85 : decode cX9_between 85 = .ok (.bipush 11, 2) := by decide +kernel
theorem dX9_between_87 : decode cX9_between 87 = .ok (.iload 5, 2) := by decide +kernel
theorem dX9_between_89 : decode cX9_between 89 = .ok (.imul, 1) := by decide +kernel
theorem dX9_between_90 : decode cX9_between 90 = .ok (.iload 6, 2) := by decide +kernel
theorem dX9_between_92 : decode cX9_between 92 = .ok (.iadd, 1) := by decide +kernel
theorem dX9_between_93 : decode cX9_between 93 = .ok (.bipush 12, 2) := by decide +kernel
theorem dX9_between_95 : decode cX9_between 95 = .ok (.isub, 1) := by decide +kernel
theorem dX9_between_96 : decode cX9_between 96 = .ok (.iaload, 1) := by decide +kernel
theorem dX9_between_97 : decode cX9_between 97 = .ok (.lload_n 1, 1) := by decide +kernel
theorem dX9_between_98 : decode cX9_between 98 = .ok (.iload 5, 2) := by decide +kernel
theorem dX9_between_100 : decode cX9_between 100 = .ok (.iconst 1, 1) := by decide +kernel
theorem dX9_between_101 : decode cX9_between 101 = .ok (.isub, 1) := by decide +kernel
theorem dX9_between_102 : decode cX9_between 102 = .ok (.invokestatic 86, 3) := by decide +kernel
theorem dX9_between_105 : decode cX9_between 105 = .ok (.lload_n 3, 1) := by decide +kernel
theorem dX9_between_106 : decode cX9_between 106 = .ok (.iload 6, 2) := by decide +kernel
theorem dX9_between_108 : decode cX9_between 108 = .ok (.iconst 1, 1) := by decide +kernel
theorem dX9_between_109 : decode cX9_between 109 = .ok (.isub, 1) := by decide +kernel
theorem dX9_between_110 : decode cX9_between 110 = .ok (.invokestatic 86, 3) := by decide +kernel
theorem dX9_between_113 : decode cX9_between 113 = .ok (.if_icmp .ne 7, 3) := by decide +kernel
theorem dX9_between_116 : decode cX9_between 116 = .ok (.iconst 0, 1) := by decide +kernel
theorem dX9_between_117 : decode cX9_between 117 = .ok (.goto 4, 3) := by decide +kernel
theorem dX9_between_120 : decode cX9_between 120 = .ok (.iconst 1, 1) := by decide +kernel
theorem dX9_between_121 : decode cX9_between 121 = .ok (.iadd, 1) := by decide +kernel
theorem dX9_between_122 : decode cX9_between 122 = .ok (.invokestatic 159, 3) := by decide +kernel
theorem dX9_between_125 : decode cX9_between 125 = .ok (.istore 7, 2) := by decide +kernel
theorem dX9_between_127 : decode cX9_between 127 = .ok (.lload_n 1, 1) := by decide +kernel
theorem dX9_between_128 : decode cX9_between 128 = .ok (.iload 5, 2) := by decide +kernel
theorem dX9_between_130 : decode cX9_between 130 = .ok (.lload_n 3, 1) := by decide +kernel
theorem dX9_between_131 : decode cX9_between 131 = .ok (.iload 6, 2) := by decide +kernel
theorem dX9_between_133 : decode cX9_between 133 = .ok (.invokestatic 163, 3) := by decide +kernel
theorem dX9_between_136 : decode cX9_between 136 = .ok (.ifCond .eq 29, 3) := by decide +kernel
theorem dX9_between_139 : decode cX9_between 139 = .ok (.iload 7, 2) := by decide +kernel
theorem dX9_between_141 : decode cX9_between 141 = .ok (.aload_n 0, 1) := by decide +kernel
theorem dX9_between_142 : decode cX9_between 142 = .ok (.getfield 52, 3) := by decide +kernel
theorem dX9_between_145 : decode cX9_between 145 = .ok (.bipush 11, 2) := by decide +kernel
theorem dX9_between_147 : decode cX9_between 147 = .ok (.iload 5, 2) := by decide +kernel
theorem dX9_between_149 : decode cX9_between 149 = .ok (.imul, 1) := by decide +kernel
theorem dX9_between_150 : decode cX9_between 150 = .ok (.iload 6, 2) := by decide +kernel
theorem dX9_between_152 : decode cX9_between 152 = .ok (.iadd, 1) := by decide +kernel
theorem dX9_between_153 : decode cX9_between 153 = .ok (.bipush 24, 2) := by decide +kernel
theorem dX9_between_155 : decode cX9_between 155 = .ok (.isub, 1) := by decide +kernel
theorem dX9_between_156 : decode cX9_between 156 = .ok (.iaload, 1) := by decide +kernel
theorem dX9_between_157 : decode cX9_between 157 = .ok (.iconst 1, 1) := by decide +kernel
theorem dX9_between_158 : decode cX9_between 158 = .ok (.iadd, 1) := by decide +kernel
theorem dX9_between_159 : decode cX9_between 159 = .ok (.invokestatic 159, 3) := by decide +kernel
theorem dX9_between_162 : decode cX9_between 162 = .ok (.goto 5, 3) := by decide +kernel
theorem dX9_between_165 : decode cX9_between 165 = .ok (.iload 7, 2) := by decide +kernel
theorem dX9_between_167 : decode cX9_between 167 = .ok (.istore 7, 2) := by decide +kernel
theorem dX9_between_169 : decode cX9_between 169 = .ok (.aload_n 0, 1) := by decide +kernel
theorem dX9_between_170 : decode cX9_between 170 = .ok (.getfield 52, 3) := by decide +kernel
theorem dX9_between_173 : decode cX9_between 173 = .ok (.bipush 11, 2) := by decide +kernel
theorem dX9_between_175 : decode cX9_between 175 = .ok (.iload 5, 2) := by decide +kernel
theorem dX9_between_177 : decode cX9_between 177 = .ok (.imul, 1) := by decide +kernel
theorem dX9_between_178 : decode cX9_between 178 = .ok (.iload 6, 2) := by decide +kernel
theorem dX9_between_180 : decode cX9_between 180 = .ok (.iadd, 1) := by decide +kernel
theorem dX9_between_181 : decode cX9_between 181 = .ok (.iload 7, 2) := by decide +kernel
theorem dX9_between_183 : decode cX9_between 183 = .ok (.iastore, 1) := by decide +kernel
theorem dX9_between_184 : decode cX9_between 184 = .ok (.iinc 6 1, 3) := by decide +kernel
theorem dX9_between_187 : decode cX9_between 187 = .ok (.goto (-172), 3) := by decide +kernel
theorem dX9_between_190 : decode cX9_between 190 = .ok (.iinc 5 1, 3) := by decide +kernel
theorem dX9_between_193 : decode cX9_between 193 = .ok (.goto (-190), 3) := by decide +kernel
theorem dX9_between_196 : decode cX9_between 196 = .ok (.aload_n 0, 1) := by decide +kernel
theorem dX9_between_197 : decode cX9_between 197 = .ok (.getfield 52, 3) := by decide +kernel
theorem dX9_between_200 : decode cX9_between 200 = .ok (.bipush 11, 2) := by decide +kernel
theorem dX9_between_202 : decode cX9_between 202 = .ok (.lload_n 1, 1) := by decide +kernel
theorem dX9_between_203 : decode cX9_between 203 = .ok (.invokestatic 82, 3) := by decide +kernel
theorem dX9_between_206 : decode cX9_between 206 = .ok (.imul, 1) := by decide +kernel
theorem dX9_between_207 : decode cX9_between 207 = .ok (.lload_n 3, 1) := by decide +kernel
theorem dX9_between_208 : decode cX9_between 208 = .ok (.invokestatic 82, 3) := by decide +kernel
theorem dX9_between_211 : decode cX9_between 211 = .ok (.iadd, 1) := by decide +kernel
theorem dX9_between_212 : decode cX9_between 212 = .ok (.iaload, 1) := by decide +kernel
theorem dX9_between_213 : decode cX9_between 213 = .ok (.ireturn, 1) := by decide +kernel
set_option maxRecDepth 20000 in
theorem ggX9_apart_X9_isBranch : GoodIn wsX9_apart wsX9_isBranch := goodIn_r _ [5, 6, 7, 8, 4, 9] (by decide +kernel) (by decide +kernel)
set_option maxRecDepth 20000 in
theorem gX9_apart_X9_isBranch : GoodIn wsX9_apart (va_wsS RX9 139 yX9_isBranch wsX9_isBranch) := goodIn_app (goodIn_of _ (by decide +kernel)) ggX9_apart_X9_isBranch
set_option maxRecDepth 20000 in
theorem ggX9_apart_X9_between : GoodIn wsX9_apart wsX9_between := goodIn_r _ [13, 14, 15, 16, 4, 17, 18, 19, 20, 21, 22, 23, 24, 25, 26, 27, 33, 34, 35, 36, 37, 38, 39, 40, 41, 42, 43, 44, 45, 46, 47, 48, 49, 50, 51, 52, 53, 54, 55, 56, 57, 58, 59] (by decide +kernel) (by decide +kernel)
set_option maxRecDepth 20000 in
theorem gX9_apart_X9_between : GoodIn wsX9_apart (wsV RX9 167 RX9 yX9_between wsX9_between) := goodIn_app (goodIn_of _ (by decide +kernel)) ggX9_apart_X9_between
set_option maxRecDepth 20000 in
theorem ggX9_apart_X9_bad : GoodIn wsX9_apart wsX9_bad := goodIn_r _ [31, 32, 33, 34, 35, 36, 37, 38, 39, 40, 41, 42, 43, 44, 45, 46, 47, 48, 49, 50, 51, 52, 53, 54, 55, 56, 57, 58, 59] (by decide +kernel) (by decide +kernel)
set_option maxRecDepth 20000 in
theorem gX9_apart_X9_bad : GoodIn wsX9_apart (wsV RX9 126 RX9 yX9_bad wsX9_bad) := goodIn_app (goodIn_of _ (by decide +kernel)) ggX9_apart_X9_bad
theorem dX9_apart_0 : decode cX9_apart 0 = .ok (.iload_n 1, 1) := by decide +kernel
theorem dX9_apart_1 : decode cX9_apart 1 = .ok (.invokestatic 139, 3) := by decide +kernel
theorem dX9_apart_4 : decode cX9_apart 4 = .ok (.ifCond .eq 29, 3) := by decide +kernel
theorem dX9_apart_7 : decode cX9_apart 7 = .ok (.iload_n 2, 1) := by decide +kernel
theorem dX9_apart_8 : decode cX9_apart 8 = .ok (.invokestatic 139, 3) := by decide +kernel
theorem dX9_apart_11 : decode cX9_apart 11 = .ok (.ifCond .eq 22, 3) := by decide +kernel
theorem dX9_apart_14 : decode cX9_apart 14 = .ok (.aload_n 0, 1) := by decide +kernel
theorem dX9_apart_15 : decode cX9_apart 15 = .ok (.aload_n 0, 1) := by decide +kernel
theorem dX9_apart_16 : decode cX9_apart 16 = .ok (.getfield 7, 3) := by decide +kernel
theorem dX9_apart_19 : decode cX9_apart 19 = .ok (.iload_n 1, 1) := by decide +kernel
theorem dX9_apart_20 : decode cX9_apart 20 = .ok (.laload, 1) := by decide +kernel
theorem dX9_apart_21 : decode cX9_apart 21 = .ok (.aload_n 0, 1) := by decide +kernel
theorem dX9_apart_22 : decode cX9_apart 22 = .ok (.getfield 7, 3) := by decide +kernel
theorem dX9_apart_25 : decode cX9_apart 25 = .ok (.iload_n 2, 1) := by decide +kernel
theorem dX9_apart_26 : decode cX9_apart 26 = .ok (.laload, 1) := by decide +kernel
theorem dX9_apart_27 : decode cX9_apart 27 = .ok (.invokevirtual 167, 3) := by decide +kernel
theorem dX9_apart_30 : decode cX9_apart 30 = .ok (.goto 9, 3) := by decide +kernel
theorem dX9_apart_33 : decode cX9_apart 33 = .ok (.aload_n 0, 1) := by decide +kernel
theorem dX9_apart_34 : decode cX9_apart 34 = .ok (.bipush (-2), 2) := by decide +kernel
theorem dX9_apart_36 : decode cX9_apart 36 = .ok (.invokevirtual 126, 3) := by decide +kernel
theorem dX9_apart_39 : decode cX9_apart 39 = .ok (.ireturn, 1) := by decide +kernel
set_option maxRecDepth 20000 in
theorem ggX9_first_X9_in : GoodIn wsX9_first wsX9_in := goodIn_r _ [6] (by decide +kernel) (by decide +kernel)
set_option maxRecDepth 20000 in
theorem gX9_first_X9_in : GoodIn wsX9_first (va_wsS RX9 72 yX9_in wsX9_in) := goodIn_app (goodIn_of _ (by decide +kernel)) ggX9_first_X9_in
set_option maxRecDepth 20000 in
theorem ggX9_first_X9_bad : GoodIn wsX9_first wsX9_bad := goodIn_r _ [10, 11, 30, 31, 32, 33, 34, 35, 36, 37, 38, 39, 40, 41, 42, 43, 44, 45, 46, 47, 48, 49, 50, 51, 52, 53, 54, 55, 56] (by decide +kernel) (by decide +kernel)
set_option maxRecDepth 20000 in
theorem gX9_first_X9_bad : GoodIn wsX9_first (wsV RX9 126 RX9 yX9_bad wsX9_bad) := goodIn_app (goodIn_of _ (by decide +kernel)) ggX9_first_X9_bad
set_option maxRecDepth 20000 in
theorem ggX9_first_X9_between : GoodIn wsX9_first wsX9_between := goodIn_r _ [15, 16, 17, 18, 5, 19, 20, 21, 22, 23, 24, 25, 26, 27, 28, 29, 30, 31, 32, 33, 34, 35, 36, 37, 38, 39, 40, 41, 42, 43, 44, 45, 46, 47, 48, 49, 50, 51, 52, 53, 54, 55, 56] (by decide +kernel) (by decide +kernel)
set_option maxRecDepth 20000 in
theorem gX9_first_X9_between : GoodIn wsX9_first (wsV RX9 167 RX9 yX9_between wsX9_between) := goodIn_app (goodIn_of _ (by decide +kernel)) ggX9_first_X9_between
theorem dX9_first_0 : decode cX9_first 0 = .ok (.iload_n 1, 1) := by decide +kernel
theorem dX9_first_1 : decode cX9_first 1 = .ok (.i2l, 1) := by decide +kernel
theorem dX9_first_2 : decode cX9_first 2 = .ok (.lconst 0, 1) := by decide +kernel
theorem dX9_first_3 : decode cX9_first 3 = .ok (.lconst 1, 1) := by decide +kernel
theorem dX9_first_4 : decode cX9_first 4 = .ok (.invokestatic 72, 3) := by decide +kernel
theorem dX9_first_7 : decode cX9_first 7 = .ok (.ifCond .ne 10, 3) := by decide +kernel
theorem dX9_first_10 : decode cX9_first 10 = .ok (.aload_n 0, 1) := by decide +kernel
theorem dX9_first_11 : decode cX9_first 11 = .ok (.bipush (-2), 2) := by decide +kernel
theorem dX9_first_13 : decode cX9_first 13 = .ok (.invokevirtual 126, 3) := by decide +kernel
theorem dX9_first_16 : decode cX9_first 16 = .ok (.ireturn, 1) := by decide +kernel
theorem dX9_first_17 : decode cX9_first 17 = .ok (.iconst (-1), 1) := by decide +kernel
theorem dX9_first_18 : decode cX9_first 18 = .ok (.istore_n 2, 1) := by decide +kernel
theorem dX9_first_19 : decode cX9_first 19 = .ok (.ldc 171, 2) := by decide +kernel
theorem dX9_first_21 : decode cX9_first 21 = .ok (.istore_n 3, 1) := by decide +kernel
theorem dX9_first_22 : decode cX9_first 22 = .ok (.iconst 0, 1) := by decide +kernel
theorem dX9_first_23 : decode cX9_first 23 = .ok (.istore 4, 2) := by decide +kernel
theorem dX9_first_25 : decode cX9_first 25 = .ok (.iload 4, 2) := by decide +kernel
theorem dX9_first_27 : decode cX9_first 27 = .ok (.bipush 8, 2) := by decide +kernel
theorem dX9_first_29 : decode cX9_first 29 = .ok (.if_icmp .ge 116, 3) := by decide +kernel
theorem dX9_first_32 : decode cX9_first 32 = .ok (.iconst 0, 1) := by decide +kernel
theorem dX9_first_33 : decode cX9_first 33 = .ok (.istore 5, 2) := by decide +kernel
theorem dX9_first_35 : decode cX9_first 35 = .ok (.iconst 0, 1) := by decide +kernel
theorem dX9_first_36 : decode cX9_first 36 = .ok (.istore 6, 2) := by decide +kernel
theorem dX9_first_38 : decode cX9_first 38 = .ok (.iload 6, 2) := by decide +kernel
theorem dX9_first_40 : decode cX9_first 40 = .ok (.bipush 8, 2) := by decide +kernel
theorem dX9_first_42 : decode cX9_first 42 = .ok (.if_icmp .ge 48, 3) := by decide +kernel
theorem dX9_first_45 : decode cX9_first 45 = .ok (.iload 5, 2) := by decide +kernel
theorem dX9_first_47 : decode cX9_first 47 = .ok (.aload_n 0, 1) := by decide +kernel
theorem dX9_first_48 : decode cX9_first 48 = .ok (.getfield 7, 3) := by decide +kernel
theorem dX9_first_51 : decode cX9_first 51 = .ok (.iload 6, 2) := by decide +kernel
theorem dX9_first_53 : decode cX9_first 53 = .ok (.laload, 1) := by decide +kernel
theorem dX9_first_54 : decode cX9_first 54 = .ok (.lconst 0, 1) := by decide +kernel
theorem dX9_first_55 : decode cX9_first 55 = .ok (.lcmp, 1) := by decide +kernel
theorem dX9_first_56 : decode cX9_first 56 = .ok (.ifCond .ne 7, 3) := by decide +kernel
theorem dX9_first_59 : decode cX9_first 59 = .ok (.iconst 0, 1) := by decide +kernel
theorem dX9_first_60 : decode cX9_first 60 = .ok (.goto 21, 3) := by decide +kernel
theorem dX9_first_63 : decode cX9_first 63 = .ok (.aload_n 0, 1) := by decide +kernel
theorem dX9_first_64 : decode cX9_first 64 = .ok (.aload_n 0, 1) := by decide +kernel
theorem dX9_first_65 : decode cX9_first 65 = .ok (.getfield 7, 3) := by decide +kernel
theorem dX9_first_68 : decode cX9_first 68 = .ok (.iload 4, 2) := by decide +kernel
theorem dX9_first_70 : decode cX9_first 70 = .ok (.laload, 1) := by decide +kernel
theorem dX9_first_71 : decode cX9_first 71 = .ok (.aload_n 0, 1) := by decide +kernel
theorem dX9_first_72 : decode cX9_first 72 = .ok (.getfield 7, 3) := by decide +kernel
theorem dX9_first_75 : decode cX9_first 75 = .ok (.iload 6, 2) := by decide +kernel
theorem dX9_first_77 : decode cX9_first 77 = .ok (.laload, 1) := by decide +kernel
theorem dX9_first_78 : decode cX9_first 78 = .ok (.invokevirtual 167, 3) := by decide +kernel
theorem dX9_first_81 : decode cX9_first 81 = .ok (.iadd, 1) := by decide +kernel
theorem dX9_first_82 : decode cX9_first 82 = .ok (.istore 5, 2) := by decide +kernel
theorem dX9_first_84 : decode cX9_first 84 = .ok (.iinc 6 1, 3) := by decide +kernel
theorem dX9_first_87 : decode cX9_first 87 = .ok (.goto (-49), 3) := by decide +kernel
theorem dX9_first_90 : decode cX9_first 90 = .ok (.aload_n 0, 1) := by decide +kernel
theorem dX9_first_91 : decode cX9_first 91 = .ok (.getfield 7, 3) := by decide +kernel
theorem dX9_first_94 : decode cX9_first 94 = .ok (.iload 4, 2) := by decide +kernel
theorem dX9_first_96 : decode cX9_first 96 = .ok (.laload, 1) := by decide +kernel
theorem dX9_first_97 : decode cX9_first 97 = .ok (.lconst 0, 1) := by decide +kernel
theorem dX9_first_98 : decode cX9_first 98 = .ok (.lcmp, 1) := by decide +kernel
theorem dX9_first_99 : decode cX9_first 99 = .ok (.ifCond .eq 13, 3) := by decide +kernel
theorem dX9_first_102 : decode cX9_first 102 = .ok (.iload 5, 2) := by decide +kernel
theorem dX9_first_104 : decode cX9_first 104 = .ok (.iload_n 3, 1) := by decide +kernel
theorem dX9_first_105 : decode cX9_first 105 = .ok (.if_icmp .ge 7, 3) := by decide +kernel
theorem dX9_first_108 : decode cX9_first 108 = .ok (.iconst 1, 1) := by decide +kernel
theorem dX9_first_109 : decode cX9_first 109 = .ok (.goto 4, 3) := by decide +kernel
theorem dX9_first_112 : decode cX9_first 112 = .ok (.iconst 0, 1) := by decide +kernel
theorem dX9_first_113 : decode cX9_first 113 = .ok (.istore 6, 2) := by decide +kernel
theorem dX9_first_115 : decode cX9_first 115 = .ok (.iload 6, 2) := by decide +kernel
theorem dX9_first_117 : decode cX9_first 117 = .ok (.ifCond .eq 8, 3) := by decide +kernel
theorem dX9_first_120 : decode cX9_first 120 = .ok (.iload 4, 2) := by decide +kernel
theorem dX9_first_122 : decode cX9_first 122 = .ok (.goto 4, 3) := by decide +kernel
theorem dX9_first_125 : decode cX9_first 125 = .ok (.iload_n 2, 1) := by decide +kernel
theorem dX9_first_126 : decode cX9_first 126 = .ok (.istore_n 2, 1) := by decide +kernel
theorem dX9_first_127 : decode cX9_first 127 = .ok (.iload 6, 2) := by decide +kernel
theorem dX9_first_129 : decode cX9_first 129 = .ok (.ifCond .eq 8, 3) := by decide +kernel
theorem dX9_first_132 : decode cX9_first 132 = .ok (.iload 5, 2) := by decide +kernel
theorem dX9_first_134 : decode cX9_first 134 = .ok (.goto 4, 3) := by decide +kernel
theorem dX9_first_137 : decode cX9_first 137 = .ok (.iload_n 3, 1) := by decide +kernel
theorem dX9_first_138 : decode cX9_first 138 = .ok (.istore_n 3, 1) := by decide +kernel
theorem dX9_first_139 : decode cX9_first 139 = .ok (.iinc 4 1, 3) := by decide +kernel
theorem dX9_first_142 : decode cX9_first 142 = .ok (.goto (-117), 3) := by decide +kernel
theorem dX9_first_145 : decode cX9_first 145 = .ok (.iload_n 1, 1) := by decide +kernel
theorem dX9_first_146 : decode cX9_first 146 = .ok (.ifCond .eq 8, 3) := by decide +kernel
theorem dX9_first_149 : decode cX9_first 149 = .ok (.iload_n 2, 1) := by decide +kernel
theorem dX9_first_150 : decode cX9_first 150 = .ok (.iconst (-1), 1) := by decide +kernel
theorem dX9_first_151 : decode cX9_first 151 = .ok (.if_icmp .ne 7, 3) := by decide +kernel
theorem dX9_first_154 : decode cX9_first 154 = .ok (.iload_n 2, 1) := by decide +kernel
theorem dX9_first_155 : decode cX9_first 155 = .ok (.goto 4, 3) := by decide +kernel
theorem dX9_first_158 : decode cX9_first 158 = .ok (.iload_n 3, 1) := by decide +kernel
theorem dX9_first_159 : decode cX9_first 159 = .ok (.ireturn, 1) := by decide +kernel
set_option maxRecDepth 20000 in
theorem ggX9_unlike_X9_many : GoodIn wsX9_unlike wsX9_many := goodIn_r _ [4] (by decide +kernel) (by decide +kernel)
set_option maxRecDepth 20000 in
theorem gX9_unlike_X9_many : GoodIn wsX9_unlike (va_wsS RX9 82 yX9_many wsX9_many) := goodIn_app (goodIn_of _ (by decide +kernel)) ggX9_unlike_X9_many
set_option maxRecDepth 20000 in
theorem ggX9_unlike_X9_partOf : GoodIn wsX9_unlike wsX9_partOf := goodIn_r _ [7, 8] (by decide +kernel) (by decide +kernel)
set_option maxRecDepth 20000 in
theorem gX9_unlike_X9_partOf : GoodIn wsX9_unlike (va_wsS RX9 86 yX9_partOf wsX9_partOf) := goodIn_app (goodIn_of _ (by decide +kernel)) ggX9_unlike_X9_partOf
set_option maxRecDepth 20000 in
theorem ggX9_unlike_X9_bits : GoodIn wsX9_unlike wsX9_bits := goodIn_r _ [11] (by decide +kernel) (by decide +kernel)
set_option maxRecDepth 20000 in
theorem gX9_unlike_X9_bits : GoodIn wsX9_unlike (va_wsS RX9 172 yX9_bits wsX9_bits) := goodIn_app (goodIn_of _ (by decide +kernel)) ggX9_unlike_X9_bits
theorem dX9_unlike_0 : decode cX9_unlike 0 = .ok (.iconst 0, 1) := by decide +kernel
theorem dX9_unlike_1 : decode cX9_unlike 1 = .ok (.istore_n 2, 1) := by decide +kernel
theorem dX9_unlike_2 : decode cX9_unlike 2 = .ok (.iconst 0, 1) := by decide +kernel
theorem dX9_unlike_3 : decode cX9_unlike 3 = .ok (.istore_n 3, 1) := by decide +kernel
theorem dX9_unlike_4 : decode cX9_unlike 4 = .ok (.iload_n 3, 1) := by decide +kernel
theorem dX9_unlike_5 : decode cX9_unlike 5 = .ok (.lload_n 0, 1) := by decide +kernel
theorem dX9_unlike_6 : decode cX9_unlike 6 = .ok (.invokestatic 82, 3) := by decide +kernel
theorem dX9_unlike_9 : decode cX9_unlike 9 = .ok (.if_icmp .ge 19, 3) := by decide +kernel
theorem dX9_unlike_12 : decode cX9_unlike 12 = .ok (.iload_n 2, 1) := by decide +kernel
theorem dX9_unlike_13 : decode cX9_unlike 13 = .ok (.iconst 1, 1) := by decide +kernel
theorem dX9_unlike_14 : decode cX9_unlike 14 = .ok (.lload_n 0, 1) := by decide +kernel
theorem dX9_unlike_15 : decode cX9_unlike 15 = .ok (.iload_n 3, 1) := by decide +kernel
theorem dX9_unlike_16 : decode cX9_unlike 16 = .ok (.invokestatic 86, 3) := by decide +kernel
theorem dX9_unlike_19 : decode cX9_unlike 19 = .ok (.ishl, 1) := by decide +kernel
theorem dX9_unlike_20 : decode cX9_unlike 20 = .ok (.ior, 1) := by decide +kernel
theorem dX9_unlike_21 : decode cX9_unlike 21 = .ok (.istore_n 2, 1) := by decide +kernel
theorem dX9_unlike_22 : decode cX9_unlike 22 = .ok (.iinc 3 1, 3) := by decide +kernel
theorem dX9_unlike_25 : decode cX9_unlike 25 = .ok (.goto (-21), 3) := by decide +kernel
theorem dX9_unlike_28 : decode cX9_unlike 28 = .ok (.iload_n 2, 1) := by decide +kernel
theorem dX9_unlike_29 : decode cX9_unlike 29 = .ok (.invokestatic 172, 3) := by decide +kernel
theorem dX9_unlike_32 : decode cX9_unlike 32 = .ok (.ireturn, 1) := by decide +kernel
set_option maxRecDepth 20000 in
theorem ggX9_older_X9_isBranch : GoodIn wsX9_older wsX9_isBranch := goodIn_r _ [5, 6, 7, 8, 4, 9] (by decide +kernel) (by decide +kernel)
set_option maxRecDepth 20000 in
theorem gX9_older_X9_isBranch : GoodIn wsX9_older (va_wsS RX9 139 yX9_isBranch wsX9_isBranch) := goodIn_app (goodIn_of _ (by decide +kernel)) ggX9_older_X9_isBranch
set_option maxRecDepth 20000 in
theorem ggX9_older_X9_bad : GoodIn wsX9_older wsX9_bad := goodIn_r _ [13, 14, 28, 29, 30, 31, 32, 33, 34, 35, 36, 37, 38, 39, 40, 41, 42, 43, 44, 45, 46, 47, 48, 49, 50, 51, 52, 53, 54] (by decide +kernel) (by decide +kernel)
set_option maxRecDepth 20000 in
theorem gX9_older_X9_bad : GoodIn wsX9_older (wsV RX9 126 RX9 yX9_bad wsX9_bad) := goodIn_app (goodIn_of _ (by decide +kernel)) ggX9_older_X9_bad
set_option maxRecDepth 20000 in
theorem ggX9_older_X9_unlike : GoodIn wsX9_older wsX9_unlike := goodIn_r _ [17, 18, 19, 4, 20, 21, 22, 23, 24, 25, 26, 27] (by decide +kernel) (by decide +kernel)
set_option maxRecDepth 20000 in
theorem gX9_older_X9_unlike : GoodIn wsX9_older (va_wsS RX9 175 yX9_unlike wsX9_unlike) := goodIn_app (goodIn_of _ (by decide +kernel)) ggX9_older_X9_unlike
set_option maxRecDepth 20000 in
theorem ggX9_older_X9_many : GoodIn wsX9_older wsX9_many := goodIn_r _ [20] (by decide +kernel) (by decide +kernel)
set_option maxRecDepth 20000 in
theorem gX9_older_X9_many : GoodIn wsX9_older (va_wsS RX9 82 yX9_many wsX9_many) := goodIn_app (goodIn_of _ (by decide +kernel)) ggX9_older_X9_many
theorem dX9_older_0 : decode cX9_older 0 = .ok (.iload_n 1, 1) := by decide +kernel
theorem dX9_older_1 : decode cX9_older 1 = .ok (.invokestatic 139, 3) := by decide +kernel
theorem dX9_older_4 : decode cX9_older 4 = .ok (.ifCond .eq 10, 3) := by decide +kernel
theorem dX9_older_7 : decode cX9_older 7 = .ok (.iload_n 2, 1) := by decide +kernel
theorem dX9_older_8 : decode cX9_older 8 = .ok (.invokestatic 139, 3) := by decide +kernel
theorem dX9_older_11 : decode cX9_older 11 = .ok (.ifCond .ne 10, 3) := by decide +kernel
theorem dX9_older_14 : decode cX9_older 14 = .ok (.aload_n 0, 1) := by decide +kernel
theorem dX9_older_15 : decode cX9_older 15 = .ok (.bipush (-2), 2) := by decide +kernel
theorem dX9_older_17 : decode cX9_older 17 = .ok (.invokevirtual 126, 3) := by decide +kernel
theorem dX9_older_20 : decode cX9_older 20 = .ok (.ireturn, 1) := by decide +kernel
theorem dX9_older_21 : decode cX9_older 21 = .ok (.aload_n 0, 1) := by decide +kernel
theorem dX9_older_22 : decode cX9_older 22 = .ok (.getfield 7, 3) := by decide +kernel
theorem dX9_older_25 : decode cX9_older 25 = .ok (.iload_n 1, 1) := by decide +kernel
theorem dX9_older_26 : decode cX9_older 26 = .ok (.laload, 1) := by decide +kernel
theorem dX9_older_27 : decode cX9_older 27 = .ok (.invokestatic 175, 3) := by decide +kernel
theorem dX9_older_30 : decode cX9_older 30 = .ok (.aload_n 0, 1) := by decide +kernel
theorem dX9_older_31 : decode cX9_older 31 = .ok (.getfield 7, 3) := by decide +kernel
theorem dX9_older_34 : decode cX9_older 34 = .ok (.iload_n 2, 1) := by decide +kernel
theorem dX9_older_35 : decode cX9_older 35 = .ok (.laload, 1) := by decide +kernel
theorem dX9_older_36 : decode cX9_older 36 = .ok (.invokestatic 175, 3) := by decide +kernel
theorem dX9_older_39 : decode cX9_older 39 = .ok (.isub, 1) := by decide +kernel
theorem dX9_older_40 : decode cX9_older 40 = .ok (.istore_n 3, 1) := by decide +kernel
theorem dX9_older_41 : decode cX9_older 41 = .ok (.iload_n 3, 1) := by decide +kernel
theorem dX9_older_42 : decode cX9_older 42 = .ok (.ifCond .ne 25, 3) := by decide +kernel
theorem dX9_older_45 : decode cX9_older 45 = .ok (.aload_n 0, 1) := by decide +kernel
theorem dX9_older_46 : decode cX9_older 46 = .ok (.getfield 7, 3) := by decide +kernel
theorem dX9_older_49 : decode cX9_older 49 = .ok (.iload_n 1, 1) := by decide +kernel
theorem dX9_older_50 : decode cX9_older 50 = .ok (.laload, 1) := by decide +kernel
theorem dX9_older_51 : decode cX9_older 51 = .ok (.invokestatic 82, 3) := by decide +kernel
theorem dX9_older_54 : decode cX9_older 54 = .ok (.aload_n 0, 1) := by decide +kernel
theorem dX9_older_55 : decode cX9_older 55 = .ok (.getfield 7, 3) := by decide +kernel
theorem dX9_older_58 : decode cX9_older 58 = .ok (.iload_n 2, 1) := by decide +kernel
theorem dX9_older_59 : decode cX9_older 59 = .ok (.laload, 1) := by decide +kernel
theorem dX9_older_60 : decode cX9_older 60 = .ok (.invokestatic 82, 3) := by decide +kernel
theorem dX9_older_63 : decode cX9_older 63 = .ok (.isub, 1) := by decide +kernel
theorem dX9_older_64 : decode cX9_older 64 = .ok (.goto 4, 3) := by decide +kernel
theorem dX9_older_67 : decode cX9_older 67 = .ok (.iload_n 3, 1) := by decide +kernel
theorem dX9_older_68 : decode cX9_older 68 = .ok (.istore_n 3, 1) := by decide +kernel
theorem dX9_older_69 : decode cX9_older 69 = .ok (.iload_n 3, 1) := by decide +kernel
theorem dX9_older_70 : decode cX9_older 70 = .ok (.ifCond .le 7, 3) := by decide +kernel
theorem dX9_older_73 : decode cX9_older 73 = .ok (.iconst 0, 1) := by decide +kernel
theorem dX9_older_74 : decode cX9_older 74 = .ok (.goto 12, 3) := by decide +kernel
theorem dX9_older_77 : decode cX9_older 77 = .ok (.iload_n 3, 1) := by decide +kernel
theorem dX9_older_78 : decode cX9_older 78 = .ok (.ifCond .ge 7, 3) := by decide +kernel
theorem dX9_older_81 : decode cX9_older 81 = .ok (.iconst 1, 1) := by decide +kernel
theorem dX9_older_82 : decode cX9_older 82 = .ok (.goto 4, 3) := by decide +kernel
theorem dX9_older_85 : decode cX9_older 85 = .ok (.iconst 2, 1) := by decide +kernel
theorem dX9_older_86 : decode cX9_older 86 = .ok (.ireturn, 1) := by decide +kernel
set_option maxRecDepth 20000 in
theorem ggX9_fitsAt_X9_many : GoodIn wsX9_fitsAt wsX9_many := goodIn_r _ [5] (by decide +kernel) (by decide +kernel)
set_option maxRecDepth 20000 in
theorem gX9_fitsAt_X9_many : GoodIn wsX9_fitsAt (va_wsS RX9 82 yX9_many wsX9_many) := goodIn_app (goodIn_of _ (by decide +kernel)) ggX9_fitsAt_X9_many
set_option maxRecDepth 20000 in
theorem ggX9_fitsAt_X9_partOf : GoodIn wsX9_fitsAt wsX9_partOf := goodIn_r _ [8, 9] (by decide +kernel) (by decide +kernel)
set_option maxRecDepth 20000 in
theorem gX9_fitsAt_X9_partOf : GoodIn wsX9_fitsAt (va_wsS RX9 86 yX9_partOf wsX9_partOf) := goodIn_app (goodIn_of _ (by decide +kernel)) ggX9_fitsAt_X9_partOf
theorem dX9_fitsAt_0 : decode cX9_fitsAt 0 = .ok (.aload_n 0, 1) := by decide +kernel
theorem dX9_fitsAt_1 : decode cX9_fitsAt 1 = .ok (.getfield 7, 3) := by decide +kernel
theorem dX9_fitsAt_4 : decode cX9_fitsAt 4 = .ok (.bipush 8, 2) := by decide +kernel
theorem dX9_fitsAt_6 : decode cX9_fitsAt 6 = .ok (.laload, 1) := by decide +kernel
theorem dX9_fitsAt_7 : decode cX9_fitsAt 7 = .ok (.lstore 4, 2) := by decide +kernel
theorem dX9_fitsAt_9 : decode cX9_fitsAt 9 = .ok (.iload_n 3, 1) := by decide +kernel
theorem dX9_fitsAt_10 : decode cX9_fitsAt 10 = .ok (.lload 4, 2) := by decide +kernel
theorem dX9_fitsAt_12 : decode cX9_fitsAt 12 = .ok (.invokestatic 82, 3) := by decide +kernel
theorem dX9_fitsAt_15 : decode cX9_fitsAt 15 = .ok (.iadd, 1) := by decide +kernel
theorem dX9_fitsAt_16 : decode cX9_fitsAt 16 = .ok (.lload_n 1, 1) := by decide +kernel
theorem dX9_fitsAt_17 : decode cX9_fitsAt 17 = .ok (.invokestatic 82, 3) := by decide +kernel
theorem dX9_fitsAt_20 : decode cX9_fitsAt 20 = .ok (.if_icmp .gt 7, 3) := by decide +kernel
theorem dX9_fitsAt_23 : decode cX9_fitsAt 23 = .ok (.iconst 1, 1) := by decide +kernel
theorem dX9_fitsAt_24 : decode cX9_fitsAt 24 = .ok (.goto 4, 3) := by decide +kernel
theorem dX9_fitsAt_27 : decode cX9_fitsAt 27 = .ok (.iconst 0, 1) := by decide +kernel
theorem dX9_fitsAt_28 : decode cX9_fitsAt 28 = .ok (.istore 6, 2) := by decide +kernel
theorem dX9_fitsAt_30 : decode cX9_fitsAt 30 = .ok (.iconst 0, 1) := by decide +kernel
theorem dX9_fitsAt_31 : decode cX9_fitsAt 31 = .ok (.istore 7, 2) := by decide +kernel
theorem dX9_fitsAt_33 : decode cX9_fitsAt 33 = .ok (.iload 7, 2) := by decide +kernel
theorem dX9_fitsAt_35 : decode cX9_fitsAt 35 = .ok (.lload 4, 2) := by decide +kernel
theorem dX9_fitsAt_37 : decode cX9_fitsAt 37 = .ok (.invokestatic 82, 3) := by decide +kernel
theorem dX9_fitsAt_40 : decode cX9_fitsAt 40 = .ok (.if_icmp .ge 51, 3) := by decide +kernel
theorem dX9_fitsAt_43 : decode cX9_fitsAt 43 = .ok (.iload 6, 2) := by decide +kernel
theorem dX9_fitsAt_45 : decode cX9_fitsAt 45 = .ok (.ifCond .eq 46, 3) := by decide +kernel
theorem dX9_fitsAt_48 : decode cX9_fitsAt 48 = .ok (.lload 4, 2) := by decide +kernel
theorem dX9_fitsAt_50 : decode cX9_fitsAt 50 = .ok (.iload 7, 2) := by decide +kernel
theorem dX9_fitsAt_52 : decode cX9_fitsAt 52 = .ok (.invokestatic 86, 3) := by decide +kernel
theorem dX9_fitsAt_55 : decode cX9_fitsAt 55 = .ok (.bipush 8, 2) := by decide +kernel
theorem dX9_fitsAt_57 : decode cX9_fitsAt 57 = .ok (.if_icmp .eq 21, 3) := by decide +kernel
theorem dX9_fitsAt_60 : decode cX9_fitsAt 60 = .ok (.lload 4, 2) := by decide +kernel
theorem dX9_fitsAt_62 : decode cX9_fitsAt 62 = .ok (.iload 7, 2) := by decide +kernel
theorem dX9_fitsAt_64 : decode cX9_fitsAt 64 = .ok (.invokestatic 86, 3) := by decide +kernel
theorem dX9_fitsAt_67 : decode cX9_fitsAt 67 = .ok (.lload_n 1, 1) := by decide +kernel
theorem dX9_fitsAt_68 : decode cX9_fitsAt 68 = .ok (.iload_n 3, 1) := by decide +kernel
theorem dX9_fitsAt_69 : decode cX9_fitsAt 69 = .ok (.iload 7, 2) := by decide +kernel
theorem dX9_fitsAt_71 : decode cX9_fitsAt 71 = .ok (.iadd, 1) := by decide +kernel
theorem dX9_fitsAt_72 : decode cX9_fitsAt 72 = .ok (.invokestatic 86, 3) := by decide +kernel
theorem dX9_fitsAt_75 : decode cX9_fitsAt 75 = .ok (.if_icmp .ne 7, 3) := by decide +kernel
theorem dX9_fitsAt_78 : decode cX9_fitsAt 78 = .ok (.iconst 1, 1) := by decide +kernel
theorem dX9_fitsAt_79 : decode cX9_fitsAt 79 = .ok (.goto 4, 3) := by decide +kernel
theorem dX9_fitsAt_82 : decode cX9_fitsAt 82 = .ok (.iconst 0, 1) := by decide +kernel
theorem dX9_fitsAt_83 : decode cX9_fitsAt 83 = .ok (.istore 6, 2) := by decide +kernel
theorem dX9_fitsAt_85 : decode cX9_fitsAt 85 = .ok (.iinc 7 1, 3) := by decide +kernel
theorem dX9_fitsAt_88 : decode cX9_fitsAt 88 = .ok (.goto (-55), 3) := by decide +kernel
theorem dX9_fitsAt_91 : decode cX9_fitsAt 91 = .ok (.iload 6, 2) := by decide +kernel
theorem dX9_fitsAt_93 : decode cX9_fitsAt 93 = .ok (.ireturn, 1) := by decide +kernel
set_option maxRecDepth 20000 in
theorem ggX9_fits_X9_isBranch : GoodIn wsX9_fits wsX9_isBranch := goodIn_r _ [5, 6, 7, 8, 4, 9] (by decide +kernel) (by decide +kernel)
set_option maxRecDepth 20000 in
theorem gX9_fits_X9_isBranch : GoodIn wsX9_fits (va_wsS RX9 139 yX9_isBranch wsX9_isBranch) := goodIn_app (goodIn_of _ (by decide +kernel)) ggX9_fits_X9_isBranch
set_option maxRecDepth 20000 in
theorem ggX9_fits_X9_in : GoodIn wsX9_fits wsX9_in := goodIn_r _ [9] (by decide +kernel) (by decide +kernel)
set_option maxRecDepth 20000 in
theorem gX9_fits_X9_in : GoodIn wsX9_fits (va_wsS RX9 72 yX9_in wsX9_in) := goodIn_app (goodIn_of _ (by decide +kernel)) ggX9_fits_X9_in
set_option maxRecDepth 20000 in
theorem ggX9_fits_X9_bad : GoodIn wsX9_fits wsX9_bad := goodIn_r _ [13, 14, 26, 27, 28, 29, 30, 31, 32, 33, 34, 35, 36, 37, 38, 39, 40, 41, 42, 43, 44, 45, 46, 47, 48, 49, 50, 51, 52] (by decide +kernel) (by decide +kernel)
set_option maxRecDepth 20000 in
theorem gX9_fits_X9_bad : GoodIn wsX9_fits (wsV RX9 126 RX9 yX9_bad wsX9_bad) := goodIn_app (goodIn_of _ (by decide +kernel)) ggX9_fits_X9_bad
set_option maxRecDepth 20000 in
theorem ggX9_fits_X9_many : GoodIn wsX9_fits wsX9_many := goodIn_r _ [17] (by decide +kernel) (by decide +kernel)
set_option maxRecDepth 20000 in
theorem gX9_fits_X9_many : GoodIn wsX9_fits (va_wsS RX9 82 yX9_many wsX9_many) := goodIn_app (goodIn_of _ (by decide +kernel)) ggX9_fits_X9_many
set_option maxRecDepth 20000 in
theorem ggX9_fits_X9_fitsAt : GoodIn wsX9_fits wsX9_fitsAt := goodIn_r _ [21, 1, 15, 16, 4, 17, 22, 23, 24, 25, 26, 27, 28, 29, 30, 31, 32, 33, 34, 35, 36, 37, 38, 39, 40, 41, 42, 43, 44, 45, 46, 47, 48, 49, 50, 51, 52] (by decide +kernel) (by decide +kernel)
set_option maxRecDepth 20000 in
theorem gX9_fits_X9_fitsAt : GoodIn wsX9_fits (wsV RX9 178 RX9 yX9_fitsAt wsX9_fitsAt) := goodIn_app (goodIn_of _ (by decide +kernel)) ggX9_fits_X9_fitsAt
theorem dX9_fits_0 : decode cX9_fits 0 = .ok (.iload_n 1, 1) := by decide +kernel
theorem dX9_fits_1 : decode cX9_fits 1 = .ok (.invokestatic 139, 3) := by decide +kernel
theorem dX9_fits_4 : decode cX9_fits 4 = .ok (.ifCond .eq 13, 3) := by decide +kernel
theorem dX9_fits_7 : decode cX9_fits 7 = .ok (.iload_n 2, 1) := by decide +kernel
theorem dX9_fits_8 : decode cX9_fits 8 = .ok (.i2l, 1) := by decide +kernel
theorem dX9_fits_9 : decode cX9_fits 9 = .ok (.lconst 0, 1) := by decide +kernel
theorem dX9_fits_10 : decode cX9_fits 10 = .ok (.lconst 1, 1) := by decide +kernel
theorem dX9_fits_11 : decode cX9_fits 11 = .ok (.invokestatic 72, 3) := by decide +kernel
theorem dX9_fits_14 : decode cX9_fits 14 = .ok (.ifCond .ne 10, 3) := by decide +kernel
theorem dX9_fits_17 : decode cX9_fits 17 = .ok (.aload_n 0, 1) := by decide +kernel
theorem dX9_fits_18 : decode cX9_fits 18 = .ok (.bipush (-10), 2) := by decide +kernel
theorem dX9_fits_20 : decode cX9_fits 20 = .ok (.invokevirtual 126, 3) := by decide +kernel
theorem dX9_fits_23 : decode cX9_fits 23 = .ok (.ireturn, 1) := by decide +kernel
theorem dX9_fits_24 : decode cX9_fits 24 = .ok (.iconst 0, 1) := by decide +kernel
theorem dX9_fits_25 : decode cX9_fits 25 = .ok (.istore_n 3, 1) := by decide +kernel
theorem dX9_fits_26 : decode cX9_fits 26 = .ok (.iconst (-1), 1) := by decide +kernel
theorem dX9_fits_27 : decode cX9_fits 27 = .ok (.istore 4, 2) := by decide +kernel
theorem dX9_fits_29 : decode cX9_fits 29 = .ok (.iconst 0, 1) := by decide +kernel
theorem dX9_fits_30 : decode cX9_fits 30 = .ok (.istore 5, 2) := by decide +kernel
theorem dX9_fits_32 : decode cX9_fits 32 = .ok (.iload 5, 2) := by decide +kernel
theorem dX9_fits_34 : decode cX9_fits 34 = .ok (.aload_n 0, 1) := by decide +kernel
theorem dX9_fits_35 : decode cX9_fits 35 = .ok (.getfield 7, 3) := by decide +kernel
theorem dX9_fits_38 : decode cX9_fits 38 = .ok (.iload_n 1, 1) := by decide +kernel
theorem dX9_fits_39 : decode cX9_fits 39 = .ok (.laload, 1) := by decide +kernel
theorem dX9_fits_40 : decode cX9_fits 40 = .ok (.invokestatic 82, 3) := by decide +kernel
theorem dX9_fits_43 : decode cX9_fits 43 = .ok (.if_icmp .gt 54, 3) := by decide +kernel
theorem dX9_fits_46 : decode cX9_fits 46 = .ok (.aload_n 0, 1) := by decide +kernel
theorem dX9_fits_47 : decode cX9_fits 47 = .ok (.aload_n 0, 1) := by decide +kernel
theorem dX9_fits_48 : decode cX9_fits 48 = .ok (.getfield 7, 3) := by decide +kernel
theorem dX9_fits_51 : decode cX9_fits 51 = .ok (.iload_n 1, 1) := by decide +kernel
theorem dX9_fits_52 : decode cX9_fits 52 = .ok (.laload, 1) := by decide +kernel
theorem dX9_fits_53 : decode cX9_fits 53 = .ok (.iload 5, 2) := by decide +kernel
theorem dX9_fits_55 : decode cX9_fits 55 = .ok (.invokevirtual 178, 3) := by decide +kernel
theorem dX9_fits_58 : decode cX9_fits 58 = .ok (.istore 6, 2) := by decide +kernel
theorem dX9_fits_60 : decode cX9_fits 60 = .ok (.iload 6, 2) := by decide +kernel
theorem dX9_fits_62 : decode cX9_fits 62 = .ok (.ifCond .eq 12, 3) := by decide +kernel
theorem dX9_fits_65 : decode cX9_fits 65 = .ok (.iload_n 3, 1) := by decide +kernel
theorem dX9_fits_66 : decode cX9_fits 66 = .ok (.ifCond .ne 8, 3) := by decide +kernel
theorem dX9_fits_69 : decode cX9_fits 69 = .ok (.iload 5, 2) := by decide +kernel
theorem dX9_fits_71 : decode cX9_fits 71 = .ok (.goto 5, 3) := by decide +kernel
theorem dX9_fits_74 : decode cX9_fits 74 = .ok (.iload 4, 2) := by decide +kernel
theorem dX9_fits_76 : decode cX9_fits 76 = .ok (.istore 4, 2) := by decide +kernel
theorem dX9_fits_78 : decode cX9_fits 78 = .ok (.iload_n 3, 1) := by decide +kernel
theorem dX9_fits_79 : decode cX9_fits 79 = .ok (.iload 6, 2) := by decide +kernel
theorem dX9_fits_81 : decode cX9_fits 81 = .ok (.ifCond .eq 7, 3) := by decide +kernel
theorem dX9_fits_84 : decode cX9_fits 84 = .ok (.iconst 1, 1) := by decide +kernel
theorem dX9_fits_85 : decode cX9_fits 85 = .ok (.goto 4, 3) := by decide +kernel
theorem dX9_fits_88 : decode cX9_fits 88 = .ok (.iconst 0, 1) := by decide +kernel
theorem dX9_fits_89 : decode cX9_fits 89 = .ok (.iadd, 1) := by decide +kernel
theorem dX9_fits_90 : decode cX9_fits 90 = .ok (.istore_n 3, 1) := by decide +kernel
theorem dX9_fits_91 : decode cX9_fits 91 = .ok (.iinc 5 1, 3) := by decide +kernel
theorem dX9_fits_94 : decode cX9_fits 94 = .ok (.goto (-62), 3) := by decide +kernel
theorem dX9_fits_97 : decode cX9_fits 97 = .ok (.iload_n 2, 1) := by decide +kernel
theorem dX9_fits_98 : decode cX9_fits 98 = .ok (.ifCond .ne 7, 3) := by decide +kernel
theorem dX9_fits_101 : decode cX9_fits 101 = .ok (.iload_n 3, 1) := by decide +kernel
theorem dX9_fits_102 : decode cX9_fits 102 = .ok (.goto 5, 3) := by decide +kernel
theorem dX9_fits_105 : decode cX9_fits 105 = .ok (.iload 4, 2) := by decide +kernel
theorem dX9_fits_107 : decode cX9_fits 107 = .ok (.ireturn, 1) := by decide +kernel
set_option maxRecDepth 20000 in
theorem ggX9_covers_X9_isBranch : GoodIn wsX9_covers wsX9_isBranch := goodIn_r _ [5, 6, 7, 8, 4, 9] (by decide +kernel) (by decide +kernel)
set_option maxRecDepth 20000 in
theorem gX9_covers_X9_isBranch : GoodIn wsX9_covers (va_wsS RX9 139 yX9_isBranch wsX9_isBranch) := goodIn_app (goodIn_of _ (by decide +kernel)) ggX9_covers_X9_isBranch
set_option maxRecDepth 20000 in
theorem ggX9_covers_X9_bad : GoodIn wsX9_covers wsX9_bad := goodIn_r _ [13, 14, 30, 31, 32, 33, 34, 35, 36, 37, 38, 39, 40, 41, 42, 43, 44, 45, 46, 47, 48, 49, 50, 51, 52, 53, 54, 55, 56] (by decide +kernel) (by decide +kernel)
set_option maxRecDepth 20000 in
theorem gX9_covers_X9_bad : GoodIn wsX9_covers (wsV RX9 126 RX9 yX9_bad wsX9_bad) := goodIn_app (goodIn_of _ (by decide +kernel)) ggX9_covers_X9_bad
set_option maxRecDepth 20000 in
theorem ggX9_covers_X9_many : GoodIn wsX9_covers wsX9_many := goodIn_r _ [17] (by decide +kernel) (by decide +kernel)
set_option maxRecDepth 20000 in
theorem gX9_covers_X9_many : GoodIn wsX9_covers (va_wsS RX9 82 yX9_many wsX9_many) := goodIn_app (goodIn_of _ (by decide +kernel)) ggX9_covers_X9_many
set_option maxRecDepth 20000 in
theorem ggX9_covers_X9_rowMany : GoodIn wsX9_covers wsX9_rowMany := goodIn_r _ [21, 1, 15, 16, 4, 17, 30, 31, 32, 33, 34, 35, 36, 37, 38, 39, 40, 41, 42, 43, 44, 45, 46, 47, 48, 49, 50, 51, 52, 53, 54, 55, 56] (by decide +kernel) (by decide +kernel)
set_option maxRecDepth 20000 in
theorem gX9_covers_X9_rowMany : GoodIn wsX9_covers (wsV RX9 130 RX9 yX9_rowMany wsX9_rowMany) := goodIn_app (goodIn_of _ (by decide +kernel)) ggX9_covers_X9_rowMany
set_option maxRecDepth 20000 in
theorem ggX9_covers_X9_fitsAt : GoodIn wsX9_covers wsX9_fitsAt := goodIn_r _ [25, 1, 15, 16, 4, 17, 26, 27, 28, 29, 30, 31, 32, 33, 34, 35, 36, 37, 38, 39, 40, 41, 42, 43, 44, 45, 46, 47, 48, 49, 50, 51, 52, 53, 54, 55, 56] (by decide +kernel) (by decide +kernel)
set_option maxRecDepth 20000 in
theorem gX9_covers_X9_fitsAt : GoodIn wsX9_covers (wsV RX9 178 RX9 yX9_fitsAt wsX9_fitsAt) := goodIn_app (goodIn_of _ (by decide +kernel)) ggX9_covers_X9_fitsAt
theorem dX9_covers_0 : decode cX9_covers 0 = .ok (.iload_n 1, 1) := by decide +kernel
theorem dX9_covers_1 : decode cX9_covers 1 = .ok (.invokestatic 139, 3) := by decide +kernel
theorem dX9_covers_4 : decode cX9_covers 4 = .ok (.ifCond .ne 10, 3) := by decide +kernel
theorem dX9_covers_7 : decode cX9_covers 7 = .ok (.aload_n 0, 1) := by decide +kernel
theorem dX9_covers_8 : decode cX9_covers 8 = .ok (.bipush (-2), 2) := by decide +kernel
theorem dX9_covers_10 : decode cX9_covers 10 = .ok (.invokevirtual 126, 3) := by decide +kernel
theorem dX9_covers_13 : decode cX9_covers 13 = .ok (.ireturn, 1) := by decide +kernel
theorem dX9_covers_14 : decode cX9_covers 14 = .ok (.aload_n 0, 1) := by decide +kernel
theorem dX9_covers_15 : decode cX9_covers 15 = .ok (.getfield 7, 3) := by decide +kernel
theorem dX9_covers_18 : decode cX9_covers 18 = .ok (.iload_n 1, 1) := by decide +kernel
theorem dX9_covers_19 : decode cX9_covers 19 = .ok (.laload, 1) := by decide +kernel
theorem dX9_covers_20 : decode cX9_covers 20 = .ok (.lstore_n 2, 1) := by decide +kernel
theorem dX9_covers_21 : decode cX9_covers 21 = .ok (.iconst 0, 1) := by decide +kernel
theorem dX9_covers_22 : decode cX9_covers 22 = .ok (.istore 4, 2) := by decide +kernel
theorem dX9_covers_24 : decode cX9_covers 24 = .ok (.iconst 0, 1) := by decide +kernel
theorem dX9_covers_25 : decode cX9_covers 25 = .ok (.istore 5, 2) := by decide +kernel
theorem dX9_covers_27 : decode cX9_covers 27 = .ok (.iload 5, 2) := by decide +kernel
theorem dX9_covers_29 : decode cX9_covers 29 = .ok (.lload_n 2, 1) := by decide +kernel
theorem dX9_covers_30 : decode cX9_covers 30 = .ok (.invokestatic 82, 3) := by decide +kernel
theorem dX9_covers_33 : decode cX9_covers 33 = .ok (.if_icmp .ge 49, 3) := by decide +kernel
theorem dX9_covers_36 : decode cX9_covers 36 = .ok (.iconst 0, 1) := by decide +kernel
theorem dX9_covers_37 : decode cX9_covers 37 = .ok (.istore 6, 2) := by decide +kernel
theorem dX9_covers_39 : decode cX9_covers 39 = .ok (.iload 6, 2) := by decide +kernel
theorem dX9_covers_41 : decode cX9_covers 41 = .ok (.aload_n 0, 1) := by decide +kernel
theorem dX9_covers_42 : decode cX9_covers 42 = .ok (.invokevirtual 130, 3) := by decide +kernel
theorem dX9_covers_45 : decode cX9_covers 45 = .ok (.if_icmp .ge 31, 3) := by decide +kernel
theorem dX9_covers_48 : decode cX9_covers 48 = .ok (.aload_n 0, 1) := by decide +kernel
theorem dX9_covers_49 : decode cX9_covers 49 = .ok (.lload_n 2, 1) := by decide +kernel
theorem dX9_covers_50 : decode cX9_covers 50 = .ok (.iload 5, 2) := by decide +kernel
theorem dX9_covers_52 : decode cX9_covers 52 = .ok (.invokevirtual 178, 3) := by decide +kernel
theorem dX9_covers_55 : decode cX9_covers 55 = .ok (.ifCond .eq 21, 3) := by decide +kernel
theorem dX9_covers_58 : decode cX9_covers 58 = .ok (.iload 4, 2) := by decide +kernel
theorem dX9_covers_60 : decode cX9_covers 60 = .ok (.iconst 1, 1) := by decide +kernel
theorem dX9_covers_61 : decode cX9_covers 61 = .ok (.iload 5, 2) := by decide +kernel
theorem dX9_covers_63 : decode cX9_covers 63 = .ok (.iload 6, 2) := by decide +kernel
theorem dX9_covers_65 : decode cX9_covers 65 = .ok (.iadd, 1) := by decide +kernel
theorem dX9_covers_66 : decode cX9_covers 66 = .ok (.ishl, 1) := by decide +kernel
theorem dX9_covers_67 : decode cX9_covers 67 = .ok (.ior, 1) := by decide +kernel
theorem dX9_covers_68 : decode cX9_covers 68 = .ok (.istore 4, 2) := by decide +kernel
theorem dX9_covers_70 : decode cX9_covers 70 = .ok (.iinc 6 1, 3) := by decide +kernel
theorem dX9_covers_73 : decode cX9_covers 73 = .ok (.goto (-34), 3) := by decide +kernel
theorem dX9_covers_76 : decode cX9_covers 76 = .ok (.iinc 5 1, 3) := by decide +kernel
theorem dX9_covers_79 : decode cX9_covers 79 = .ok (.goto (-52), 3) := by decide +kernel
theorem dX9_covers_82 : decode cX9_covers 82 = .ok (.aload_n 0, 1) := by decide +kernel
theorem dX9_covers_83 : decode cX9_covers 83 = .ok (.invokevirtual 130, 3) := by decide +kernel
theorem dX9_covers_86 : decode cX9_covers 86 = .ok (.ifCond .le 20, 3) := by decide +kernel
theorem dX9_covers_89 : decode cX9_covers 89 = .ok (.iload 4, 2) := by decide +kernel
theorem dX9_covers_91 : decode cX9_covers 91 = .ok (.iconst 1, 1) := by decide +kernel
theorem dX9_covers_92 : decode cX9_covers 92 = .ok (.lload_n 2, 1) := by decide +kernel
theorem dX9_covers_93 : decode cX9_covers 93 = .ok (.invokestatic 82, 3) := by decide +kernel
theorem dX9_covers_96 : decode cX9_covers 96 = .ok (.ishl, 1) := by decide +kernel
theorem dX9_covers_97 : decode cX9_covers 97 = .ok (.iconst 1, 1) := by decide +kernel
theorem dX9_covers_98 : decode cX9_covers 98 = .ok (.isub, 1) := by decide +kernel
theorem dX9_covers_99 : decode cX9_covers 99 = .ok (.if_icmp .ne 7, 3) := by decide +kernel
theorem dX9_covers_102 : decode cX9_covers 102 = .ok (.iconst 1, 1) := by decide +kernel
theorem dX9_covers_103 : decode cX9_covers 103 = .ok (.goto 4, 3) := by decide +kernel
theorem dX9_covers_106 : decode cX9_covers 106 = .ok (.iconst 0, 1) := by decide +kernel
theorem dX9_covers_107 : decode cX9_covers 107 = .ok (.ireturn, 1) := by decide +kernel
set_option maxRecDepth 20000 in
theorem ggX9_heard_X9_isPart : GoodIn wsX9_heard wsX9_isPart := goodIn_r _ [6, 7, 8, 9, 5, 10] (by decide +kernel) (by decide +kernel)
set_option maxRecDepth 20000 in
theorem gX9_heard_X9_isPart : GoodIn wsX9_heard (va_wsS RX9 122 yX9_isPart wsX9_isPart) := goodIn_app (goodIn_of _ (by decide +kernel)) ggX9_heard_X9_isPart
set_option maxRecDepth 20000 in
theorem ggX9_heard_X9_in : GoodIn wsX9_heard wsX9_in := goodIn_r _ [10] (by decide +kernel) (by decide +kernel)
set_option maxRecDepth 20000 in
theorem gX9_heard_X9_in : GoodIn wsX9_heard (va_wsS RX9 72 yX9_in wsX9_in) := goodIn_app (goodIn_of _ (by decide +kernel)) ggX9_heard_X9_in
set_option maxRecDepth 20000 in
theorem ggX9_heard_X9_bad : GoodIn wsX9_heard wsX9_bad := goodIn_r _ [14, 15, 20, 21, 22, 23, 24, 25, 26, 27, 28, 29, 30, 31, 32, 33, 34, 35, 36, 37, 38, 39, 40, 41, 42, 43, 44, 45, 46] (by decide +kernel) (by decide +kernel)
set_option maxRecDepth 20000 in
theorem gX9_heard_X9_bad : GoodIn wsX9_heard (wsV RX9 126 RX9 yX9_bad wsX9_bad) := goodIn_app (goodIn_of _ (by decide +kernel)) ggX9_heard_X9_bad
set_option maxRecDepth 20000 in
theorem ggX9_heard_X9_full : GoodIn wsX9_heard wsX9_full := goodIn_r _ [19, 15, 20, 21, 22, 23, 24, 25, 26, 27, 28, 29, 30, 31, 32, 33, 34, 35, 36, 37, 38, 39, 40, 41, 42, 43, 44, 45, 46] (by decide +kernel) (by decide +kernel)
set_option maxRecDepth 20000 in
theorem gX9_heard_X9_full : GoodIn wsX9_heard (wsV RX9 133 RX9 yX9_full wsX9_full) := goodIn_app (goodIn_of _ (by decide +kernel)) ggX9_heard_X9_full
theorem dX9_heard_0 : decode cX9_heard 0 = .ok (.iload_n 1, 1) := by decide +kernel
theorem dX9_heard_1 : decode cX9_heard 1 = .ok (.invokestatic 122, 3) := by decide +kernel
theorem dX9_heard_4 : decode cX9_heard 4 = .ok (.ifCond .eq 13, 3) := by decide +kernel
theorem dX9_heard_7 : decode cX9_heard 7 = .ok (.iload_n 2, 1) := by decide +kernel
theorem dX9_heard_8 : decode cX9_heard 8 = .ok (.i2l, 1) := by decide +kernel
theorem dX9_heard_9 : decode cX9_heard 9 = .ok (.lconst 0, 1) := by decide +kernel
theorem dX9_heard_10 : decode cX9_heard 10 = .ok (.lconst 1, 1) := by decide +kernel
theorem dX9_heard_11 : decode cX9_heard 11 = .ok (.invokestatic 72, 3) := by decide +kernel
theorem dX9_heard_14 : decode cX9_heard 14 = .ok (.ifCond .ne 10, 3) := by decide +kernel
theorem dX9_heard_17 : decode cX9_heard 17 = .ok (.aload_n 0, 1) := by decide +kernel
theorem dX9_heard_18 : decode cX9_heard 18 = .ok (.bipush (-2), 2) := by decide +kernel
theorem dX9_heard_20 : decode cX9_heard 20 = .ok (.invokevirtual 126, 3) := by decide +kernel
theorem dX9_heard_23 : decode cX9_heard 23 = .ok (.ireturn, 1) := by decide +kernel
theorem dX9_heard_24 : decode cX9_heard 24 = .ok (.aload_n 0, 1) := by decide +kernel
theorem dX9_heard_25 : decode cX9_heard 25 = .ok (.getfield 111, 3) := by decide +kernel
theorem dX9_heard_28 : decode cX9_heard 28 = .ok (.bipush 6, 2) := by decide +kernel
theorem dX9_heard_30 : decode cX9_heard 30 = .ok (.if_icmp .ne 8, 3) := by decide +kernel
theorem dX9_heard_33 : decode cX9_heard 33 = .ok (.aload_n 0, 1) := by decide +kernel
theorem dX9_heard_34 : decode cX9_heard 34 = .ok (.invokevirtual 133, 3) := by decide +kernel
theorem dX9_heard_37 : decode cX9_heard 37 = .ok (.ireturn, 1) := by decide +kernel
theorem dX9_heard_38 : decode cX9_heard 38 = .ok (.aload_n 0, 1) := by decide +kernel
theorem dX9_heard_39 : decode cX9_heard 39 = .ok (.getfield 17, 3) := by decide +kernel
theorem dX9_heard_42 : decode cX9_heard 42 = .ok (.iconst 2, 1) := by decide +kernel
theorem dX9_heard_43 : decode cX9_heard 43 = .ok (.aload_n 0, 1) := by decide +kernel
theorem dX9_heard_44 : decode cX9_heard 44 = .ok (.getfield 111, 3) := by decide +kernel
theorem dX9_heard_47 : decode cX9_heard 47 = .ok (.imul, 1) := by decide +kernel
theorem dX9_heard_48 : decode cX9_heard 48 = .ok (.iload_n 1, 1) := by decide +kernel
theorem dX9_heard_49 : decode cX9_heard 49 = .ok (.iastore, 1) := by decide +kernel
theorem dX9_heard_50 : decode cX9_heard 50 = .ok (.aload_n 0, 1) := by decide +kernel
theorem dX9_heard_51 : decode cX9_heard 51 = .ok (.getfield 17, 3) := by decide +kernel
theorem dX9_heard_54 : decode cX9_heard 54 = .ok (.iconst 2, 1) := by decide +kernel
theorem dX9_heard_55 : decode cX9_heard 55 = .ok (.aload_n 0, 1) := by decide +kernel
theorem dX9_heard_56 : decode cX9_heard 56 = .ok (.getfield 111, 3) := by decide +kernel
theorem dX9_heard_59 : decode cX9_heard 59 = .ok (.imul, 1) := by decide +kernel
theorem dX9_heard_60 : decode cX9_heard 60 = .ok (.iconst 1, 1) := by decide +kernel
theorem dX9_heard_61 : decode cX9_heard 61 = .ok (.iadd, 1) := by decide +kernel
theorem dX9_heard_62 : decode cX9_heard 62 = .ok (.iload_n 2, 1) := by decide +kernel
theorem dX9_heard_63 : decode cX9_heard 63 = .ok (.iastore, 1) := by decide +kernel
theorem dX9_heard_64 : decode cX9_heard 64 = .ok (.aload_n 0, 1) := by decide +kernel
theorem dX9_heard_65 : decode cX9_heard 65 = .ok (.dup, 1) := by decide +kernel
theorem dX9_heard_66 : decode cX9_heard 66 = .ok (.getfield 111, 3) := by decide +kernel
theorem dX9_heard_69 : decode cX9_heard 69 = .ok (.iconst 1, 1) := by decide +kernel
theorem dX9_heard_70 : decode cX9_heard 70 = .ok (.iadd, 1) := by decide +kernel
theorem dX9_heard_71 : decode cX9_heard 71 = .ok (.putfield 111, 3) := by decide +kernel
theorem dX9_heard_74 : decode cX9_heard 74 = .ok (.aload_n 0, 1) := by decide +kernel
theorem dX9_heard_75 : decode cX9_heard 75 = .ok (.getfield 111, 3) := by decide +kernel
theorem dX9_heard_78 : decode cX9_heard 78 = .ok (.ireturn, 1) := by decide +kernel
theorem dX9_forget_0 : decode cX9_forget 0 = .ok (.aload_n 0, 1) := by decide +kernel
theorem dX9_forget_1 : decode cX9_forget 1 = .ok (.getfield 111, 3) := by decide +kernel
theorem dX9_forget_4 : decode cX9_forget 4 = .ok (.istore_n 1, 1) := by decide +kernel
theorem dX9_forget_5 : decode cX9_forget 5 = .ok (.aload_n 0, 1) := by decide +kernel
theorem dX9_forget_6 : decode cX9_forget 6 = .ok (.iconst 0, 1) := by decide +kernel
theorem dX9_forget_7 : decode cX9_forget 7 = .ok (.putfield 111, 3) := by decide +kernel
theorem dX9_forget_10 : decode cX9_forget 10 = .ok (.iload_n 1, 1) := by decide +kernel
theorem dX9_forget_11 : decode cX9_forget 11 = .ok (.ireturn, 1) := by decide +kernel
set_option maxRecDepth 20000 in
theorem ggX9_door_X9_has : GoodIn wsX9_door wsX9_has := goodIn_r _ [7, 8, 9, 6, 10, 11, 12, 13, 14] (by decide +kernel) (by decide +kernel)
set_option maxRecDepth 20000 in
theorem gX9_door_X9_has : GoodIn wsX9_door (va_wsS RX9 107 yX9_has wsX9_has) := goodIn_app (goodIn_of _ (by decide +kernel)) ggX9_door_X9_has
theorem dX9_door_0 : decode cX9_door 0 = .ok (.iconst 0, 1) := by decide +kernel
theorem dX9_door_1 : decode cX9_door 1 = .ok (.istore_n 1, 1) := by decide +kernel
theorem dX9_door_2 : decode cX9_door 2 = .ok (.iconst 0, 1) := by decide +kernel
theorem dX9_door_3 : decode cX9_door 3 = .ok (.istore_n 2, 1) := by decide +kernel
theorem dX9_door_4 : decode cX9_door 4 = .ok (.iload_n 2, 1) := by decide +kernel
theorem dX9_door_5 : decode cX9_door 5 = .ok (.bipush 8, 2) := by decide +kernel
theorem dX9_door_7 : decode cX9_door 7 = .ok (.if_icmp .ge 109, 3) := by decide +kernel
theorem dX9_door_10 : decode cX9_door 10 = .ok (.aload_n 0, 1) := by decide +kernel
theorem dX9_door_11 : decode cX9_door 11 = .ok (.getfield 7, 3) := by decide +kernel
theorem dX9_door_14 : decode cX9_door 14 = .ok (.iload_n 2, 1) := by decide +kernel
theorem dX9_door_15 : decode cX9_door 15 = .ok (.laload, 1) := by decide +kernel
theorem dX9_door_16 : decode cX9_door 16 = .ok (.lconst 0, 1) := by decide +kernel
theorem dX9_door_17 : decode cX9_door 17 = .ok (.lcmp, 1) := by decide +kernel
theorem dX9_door_18 : decode cX9_door 18 = .ok (.ifCond .eq 7, 3) := by decide +kernel
theorem dX9_door_21 : decode cX9_door 21 = .ok (.iconst 1, 1) := by decide +kernel
theorem dX9_door_22 : decode cX9_door 22 = .ok (.goto 4, 3) := by decide +kernel
theorem dX9_door_25 : decode cX9_door 25 = .ok (.iconst 0, 1) := by decide +kernel
theorem dX9_door_26 : decode cX9_door 26 = .ok (.istore_n 3, 1) := by decide +kernel
theorem dX9_door_27 : decode cX9_door 27 = .ok (.iconst 0, 1) := by decide +kernel
theorem dX9_door_28 : decode cX9_door 28 = .ok (.istore 4, 2) := by decide +kernel
theorem dX9_door_30 : decode cX9_door 30 = .ok (.iload 4, 2) := by decide +kernel
theorem dX9_door_32 : decode cX9_door 32 = .ok (.aload_n 0, 1) := by decide +kernel
theorem dX9_door_33 : decode cX9_door 33 = .ok (.getfield 111, 3) := by decide +kernel
theorem dX9_door_36 : decode cX9_door 36 = .ok (.if_icmp .ge 60, 3) := by decide +kernel
theorem dX9_door_39 : decode cX9_door 39 = .ok (.iload_n 3, 1) := by decide +kernel
theorem dX9_door_40 : decode cX9_door 40 = .ok (.ifCond .eq 48, 3) := by decide +kernel
theorem dX9_door_43 : decode cX9_door 43 = .ok (.aload_n 0, 1) := by decide +kernel
theorem dX9_door_44 : decode cX9_door 44 = .ok (.getfield 7, 3) := by decide +kernel
theorem dX9_door_47 : decode cX9_door 47 = .ok (.iload_n 2, 1) := by decide +kernel
theorem dX9_door_48 : decode cX9_door 48 = .ok (.laload, 1) := by decide +kernel
theorem dX9_door_49 : decode cX9_door 49 = .ok (.aload_n 0, 1) := by decide +kernel
theorem dX9_door_50 : decode cX9_door 50 = .ok (.getfield 17, 3) := by decide +kernel
theorem dX9_door_53 : decode cX9_door 53 = .ok (.iconst 2, 1) := by decide +kernel
theorem dX9_door_54 : decode cX9_door 54 = .ok (.iload 4, 2) := by decide +kernel
theorem dX9_door_56 : decode cX9_door 56 = .ok (.imul, 1) := by decide +kernel
theorem dX9_door_57 : decode cX9_door 57 = .ok (.iaload, 1) := by decide +kernel
theorem dX9_door_58 : decode cX9_door 58 = .ok (.invokestatic 107, 3) := by decide +kernel
theorem dX9_door_61 : decode cX9_door 61 = .ok (.aload_n 0, 1) := by decide +kernel
theorem dX9_door_62 : decode cX9_door 62 = .ok (.getfield 17, 3) := by decide +kernel
theorem dX9_door_65 : decode cX9_door 65 = .ok (.iconst 2, 1) := by decide +kernel
theorem dX9_door_66 : decode cX9_door 66 = .ok (.iload 4, 2) := by decide +kernel
theorem dX9_door_68 : decode cX9_door 68 = .ok (.imul, 1) := by decide +kernel
theorem dX9_door_69 : decode cX9_door 69 = .ok (.iconst 1, 1) := by decide +kernel
theorem dX9_door_70 : decode cX9_door 70 = .ok (.iadd, 1) := by decide +kernel
theorem dX9_door_71 : decode cX9_door 71 = .ok (.iaload, 1) := by decide +kernel
theorem dX9_door_72 : decode cX9_door 72 = .ok (.iconst 1, 1) := by decide +kernel
theorem dX9_door_73 : decode cX9_door 73 = .ok (.if_icmp .ne 7, 3) := by decide +kernel
theorem dX9_door_76 : decode cX9_door 76 = .ok (.iconst 1, 1) := by decide +kernel
theorem dX9_door_77 : decode cX9_door 77 = .ok (.goto 4, 3) := by decide +kernel
theorem dX9_door_80 : decode cX9_door 80 = .ok (.iconst 0, 1) := by decide +kernel
theorem dX9_door_81 : decode cX9_door 81 = .ok (.if_icmp .ne 7, 3) := by decide +kernel
theorem dX9_door_84 : decode cX9_door 84 = .ok (.iconst 1, 1) := by decide +kernel
theorem dX9_door_85 : decode cX9_door 85 = .ok (.goto 4, 3) := by decide +kernel
theorem dX9_door_88 : decode cX9_door 88 = .ok (.iconst 0, 1) := by decide +kernel
theorem dX9_door_89 : decode cX9_door 89 = .ok (.istore_n 3, 1) := by decide +kernel
theorem dX9_door_90 : decode cX9_door 90 = .ok (.iinc 4 1, 3) := by decide +kernel
theorem dX9_door_93 : decode cX9_door 93 = .ok (.goto (-63), 3) := by decide +kernel
theorem dX9_door_96 : decode cX9_door 96 = .ok (.iload_n 1, 1) := by decide +kernel
theorem dX9_door_97 : decode cX9_door 97 = .ok (.iload_n 3, 1) := by decide +kernel
theorem dX9_door_98 : decode cX9_door 98 = .ok (.ifCond .eq 9, 3) := by decide +kernel
theorem dX9_door_101 : decode cX9_door 101 = .ok (.iconst 1, 1) := by decide +kernel
theorem dX9_door_102 : decode cX9_door 102 = .ok (.iload_n 2, 1) := by decide +kernel
theorem dX9_door_103 : decode cX9_door 103 = .ok (.ishl, 1) := by decide +kernel
theorem dX9_door_104 : decode cX9_door 104 = .ok (.goto 4, 3) := by decide +kernel
theorem dX9_door_107 : decode cX9_door 107 = .ok (.iconst 0, 1) := by decide +kernel
theorem dX9_door_108 : decode cX9_door 108 = .ok (.ior, 1) := by decide +kernel
theorem dX9_door_109 : decode cX9_door 109 = .ok (.istore_n 1, 1) := by decide +kernel
theorem dX9_door_110 : decode cX9_door 110 = .ok (.iinc 2 1, 3) := by decide +kernel
theorem dX9_door_113 : decode cX9_door 113 = .ok (.goto (-109), 3) := by decide +kernel
theorem dX9_door_116 : decode cX9_door 116 = .ok (.iload_n 1, 1) := by decide +kernel
theorem dX9_door_117 : decode cX9_door 117 = .ok (.ireturn, 1) := by decide +kernel
set_option maxRecDepth 20000 in
theorem ggX9_next_X9_door : GoodIn wsX9_next wsX9_door := goodIn_r _ [7, 2, 8, 9, 10, 11, 6, 12, 13, 14, 15, 16, 17, 18, 19, 26, 27, 28, 29, 30, 31, 32, 33, 34, 35, 36, 37, 38, 39, 40, 41, 42, 43, 44, 45, 46, 47, 48, 49, 50, 51, 52] (by decide +kernel) (by decide +kernel)
set_option maxRecDepth 20000 in
theorem gX9_next_X9_door : GoodIn wsX9_next (wsV RX9 181 RX9 yX9_door wsX9_door) := goodIn_app (goodIn_of _ (by decide +kernel)) ggX9_next_X9_door
set_option maxRecDepth 20000 in
theorem ggX9_next_X9_has : GoodIn wsX9_next wsX9_has := goodIn_r _ [12, 13, 14, 6, 15, 16, 17, 18, 19] (by decide +kernel) (by decide +kernel)
set_option maxRecDepth 20000 in
theorem gX9_next_X9_has : GoodIn wsX9_next (va_wsS RX9 107 yX9_has wsX9_has) := goodIn_app (goodIn_of _ (by decide +kernel)) ggX9_next_X9_has
set_option maxRecDepth 20000 in
theorem ggX9_next_X9_bits : GoodIn wsX9_next wsX9_bits := goodIn_r _ [22] (by decide +kernel) (by decide +kernel)
set_option maxRecDepth 20000 in
theorem gX9_next_X9_bits : GoodIn wsX9_next (va_wsS RX9 172 yX9_bits wsX9_bits) := goodIn_app (goodIn_of _ (by decide +kernel)) ggX9_next_X9_bits
set_option maxRecDepth 20000 in
theorem ggX9_next_X9_least : GoodIn wsX9_next wsX9_least := goodIn_r _ [25] (by decide +kernel) (by decide +kernel)
set_option maxRecDepth 20000 in
theorem gX9_next_X9_least : GoodIn wsX9_next (va_wsS RX9 159 yX9_least wsX9_least) := goodIn_app (goodIn_of _ (by decide +kernel)) ggX9_next_X9_least
theorem dX9_next_0 : decode cX9_next 0 = .ok (.aload_n 0, 1) := by decide +kernel
theorem dX9_next_1 : decode cX9_next 1 = .ok (.invokevirtual 181, 3) := by decide +kernel
theorem dX9_next_4 : decode cX9_next 4 = .ok (.istore_n 1, 1) := by decide +kernel
theorem dX9_next_5 : decode cX9_next 5 = .ok (.iconst (-1), 1) := by decide +kernel
theorem dX9_next_6 : decode cX9_next 6 = .ok (.istore_n 2, 1) := by decide +kernel
theorem dX9_next_7 : decode cX9_next 7 = .ok (.ldc 171, 2) := by decide +kernel
theorem dX9_next_9 : decode cX9_next 9 = .ok (.istore_n 3, 1) := by decide +kernel
theorem dX9_next_10 : decode cX9_next 10 = .ok (.iconst 0, 1) := by decide +kernel
theorem dX9_next_11 : decode cX9_next 11 = .ok (.istore 4, 2) := by decide +kernel
theorem dX9_next_13 : decode cX9_next 13 = .ok (.iload 4, 2) := by decide +kernel
theorem dX9_next_15 : decode cX9_next 15 = .ok (.bipush 10, 2) := by decide +kernel
theorem dX9_next_17 : decode cX9_next 17 = .ok (.if_icmp .ge 112, 3) := by decide +kernel
theorem dX9_next_20 : decode cX9_next 20 = .ok (.iload_n 1, 1) := by decide +kernel
theorem dX9_next_21 : decode cX9_next 21 = .ok (.ifCond .le 108, 3) := by decide +kernel
theorem dX9_next_24 : decode cX9_next 24 = .ok (.iconst 0, 1) := by decide +kernel
theorem dX9_next_25 : decode cX9_next 25 = .ok (.istore 5, 2) := by decide +kernel
theorem dX9_next_27 : decode cX9_next 27 = .ok (.iconst 0, 1) := by decide +kernel
theorem dX9_next_28 : decode cX9_next 28 = .ok (.istore 6, 2) := by decide +kernel
theorem dX9_next_30 : decode cX9_next 30 = .ok (.iload 6, 2) := by decide +kernel
theorem dX9_next_32 : decode cX9_next 32 = .ok (.bipush 8, 2) := by decide +kernel
theorem dX9_next_34 : decode cX9_next 34 = .ok (.if_icmp .ge 44, 3) := by decide +kernel
theorem dX9_next_37 : decode cX9_next 37 = .ok (.iload 5, 2) := by decide +kernel
theorem dX9_next_39 : decode cX9_next 39 = .ok (.iload_n 1, 1) := by decide +kernel
theorem dX9_next_40 : decode cX9_next 40 = .ok (.iload 6, 2) := by decide +kernel
theorem dX9_next_42 : decode cX9_next 42 = .ok (.ishr, 1) := by decide +kernel
theorem dX9_next_43 : decode cX9_next 43 = .ok (.iconst 1, 1) := by decide +kernel
theorem dX9_next_44 : decode cX9_next 44 = .ok (.iand, 1) := by decide +kernel
theorem dX9_next_45 : decode cX9_next 45 = .ok (.iconst 1, 1) := by decide +kernel
theorem dX9_next_46 : decode cX9_next 46 = .ok (.if_icmp .ne 22, 3) := by decide +kernel
theorem dX9_next_49 : decode cX9_next 49 = .ok (.aload_n 0, 1) := by decide +kernel
theorem dX9_next_50 : decode cX9_next 50 = .ok (.getfield 7, 3) := by decide +kernel
theorem dX9_next_53 : decode cX9_next 53 = .ok (.iload 6, 2) := by decide +kernel
theorem dX9_next_55 : decode cX9_next 55 = .ok (.laload, 1) := by decide +kernel
theorem dX9_next_56 : decode cX9_next 56 = .ok (.iload 4, 2) := by decide +kernel
theorem dX9_next_58 : decode cX9_next 58 = .ok (.invokestatic 107, 3) := by decide +kernel
theorem dX9_next_61 : decode cX9_next 61 = .ok (.ifCond .eq 7, 3) := by decide +kernel
theorem dX9_next_64 : decode cX9_next 64 = .ok (.iconst 1, 1) := by decide +kernel
theorem dX9_next_65 : decode cX9_next 65 = .ok (.goto 4, 3) := by decide +kernel
theorem dX9_next_68 : decode cX9_next 68 = .ok (.iconst 0, 1) := by decide +kernel
theorem dX9_next_69 : decode cX9_next 69 = .ok (.iadd, 1) := by decide +kernel
theorem dX9_next_70 : decode cX9_next 70 = .ok (.istore 5, 2) := by decide +kernel
theorem dX9_next_72 : decode cX9_next 72 = .ok (.iinc 6 1, 3) := by decide +kernel
theorem dX9_next_75 : decode cX9_next 75 = .ok (.goto (-45), 3) := by decide +kernel
theorem dX9_next_78 : decode cX9_next 78 = .ok (.iconst 2, 1) := by decide +kernel
theorem dX9_next_79 : decode cX9_next 79 = .ok (.iload 5, 2) := by decide +kernel
theorem dX9_next_81 : decode cX9_next 81 = .ok (.imul, 1) := by decide +kernel
theorem dX9_next_82 : decode cX9_next 82 = .ok (.iload_n 1, 1) := by decide +kernel
theorem dX9_next_83 : decode cX9_next 83 = .ok (.invokestatic 172, 3) := by decide +kernel
theorem dX9_next_86 : decode cX9_next 86 = .ok (.if_icmp .le 8, 3) := by decide +kernel
theorem dX9_next_89 : decode cX9_next 89 = .ok (.iload 5, 2) := by decide +kernel
theorem dX9_next_91 : decode cX9_next 91 = .ok (.goto 10, 3) := by decide +kernel
theorem dX9_next_94 : decode cX9_next 94 = .ok (.iload_n 1, 1) := by decide +kernel
theorem dX9_next_95 : decode cX9_next 95 = .ok (.invokestatic 172, 3) := by decide +kernel
theorem dX9_next_98 : decode cX9_next 98 = .ok (.iload 5, 2) := by decide +kernel
theorem dX9_next_100 : decode cX9_next 100 = .ok (.isub, 1) := by decide +kernel
theorem dX9_next_101 : decode cX9_next 101 = .ok (.istore 6, 2) := by decide +kernel
theorem dX9_next_103 : decode cX9_next 103 = .ok (.iload 6, 2) := by decide +kernel
theorem dX9_next_105 : decode cX9_next 105 = .ok (.iload_n 3, 1) := by decide +kernel
theorem dX9_next_106 : decode cX9_next 106 = .ok (.if_icmp .ge 8, 3) := by decide +kernel
theorem dX9_next_109 : decode cX9_next 109 = .ok (.iload 4, 2) := by decide +kernel
theorem dX9_next_111 : decode cX9_next 111 = .ok (.goto 4, 3) := by decide +kernel
theorem dX9_next_114 : decode cX9_next 114 = .ok (.iload_n 2, 1) := by decide +kernel
theorem dX9_next_115 : decode cX9_next 115 = .ok (.istore_n 2, 1) := by decide +kernel
theorem dX9_next_116 : decode cX9_next 116 = .ok (.iload_n 3, 1) := by decide +kernel
theorem dX9_next_117 : decode cX9_next 117 = .ok (.iload 6, 2) := by decide +kernel
theorem dX9_next_119 : decode cX9_next 119 = .ok (.invokestatic 159, 3) := by decide +kernel
theorem dX9_next_122 : decode cX9_next 122 = .ok (.istore_n 3, 1) := by decide +kernel
theorem dX9_next_123 : decode cX9_next 123 = .ok (.iinc 4 1, 3) := by decide +kernel
theorem dX9_next_126 : decode cX9_next 126 = .ok (.goto (-113), 3) := by decide +kernel
theorem dX9_next_129 : decode cX9_next 129 = .ok (.iload_n 2, 1) := by decide +kernel
theorem dX9_next_130 : decode cX9_next 130 = .ok (.ireturn, 1) := by decide +kernel
set_option maxRecDepth 20000 in
theorem ggX9_funOf_X9_many : GoodIn wsX9_funOf wsX9_many := goodIn_r _ [4] (by decide +kernel) (by decide +kernel)
set_option maxRecDepth 20000 in
theorem gX9_funOf_X9_many : GoodIn wsX9_funOf (va_wsS RX9 82 yX9_many wsX9_many) := goodIn_app (goodIn_of _ (by decide +kernel)) ggX9_funOf_X9_many
set_option maxRecDepth 20000 in
theorem ggX9_funOf_X9_partOf : GoodIn wsX9_funOf wsX9_partOf := goodIn_r _ [7, 8] (by decide +kernel) (by decide +kernel)
set_option maxRecDepth 20000 in
theorem gX9_funOf_X9_partOf : GoodIn wsX9_funOf (va_wsS RX9 86 yX9_partOf wsX9_partOf) := goodIn_app (goodIn_of _ (by decide +kernel)) ggX9_funOf_X9_partOf
theorem dX9_funOf_0 : decode cX9_funOf 0 = .ok (.iconst 0, 1) := by decide +kernel
theorem dX9_funOf_1 : decode cX9_funOf 1 = .ok (.istore_n 2, 1) := by decide +kernel
theorem dX9_funOf_2 : decode cX9_funOf 2 = .ok (.iconst 0, 1) := by decide +kernel
theorem dX9_funOf_3 : decode cX9_funOf 3 = .ok (.istore_n 3, 1) := by decide +kernel
theorem dX9_funOf_4 : decode cX9_funOf 4 = .ok (.iload_n 3, 1) := by decide +kernel
theorem dX9_funOf_5 : decode cX9_funOf 5 = .ok (.lload_n 0, 1) := by decide +kernel
theorem dX9_funOf_6 : decode cX9_funOf 6 = .ok (.invokestatic 82, 3) := by decide +kernel
theorem dX9_funOf_9 : decode cX9_funOf 9 = .ok (.if_icmp .ge 123, 3) := by decide +kernel
theorem dX9_funOf_12 : decode cX9_funOf 12 = .ok (.lload_n 0, 1) := by decide +kernel
theorem dX9_funOf_13 : decode cX9_funOf 13 = .ok (.iload_n 3, 1) := by decide +kernel
theorem dX9_funOf_14 : decode cX9_funOf 14 = .ok (.invokestatic 86, 3) := by decide +kernel
theorem dX9_funOf_17 : decode cX9_funOf 17 = .ok (.istore 4, 2) := by decide +kernel
theorem dX9_funOf_19 : decode cX9_funOf 19 = .ok (.iload_n 3, 1) := by decide +kernel
theorem dX9_funOf_20 : decode cX9_funOf 20 = .ok (.ifCond .ne 7, 3) := by decide +kernel
theorem dX9_funOf_23 : decode cX9_funOf 23 = .ok (.iconst (-1), 1) := by decide +kernel
theorem dX9_funOf_24 : decode cX9_funOf 24 = .ok (.goto 10, 3) := by decide +kernel
theorem dX9_funOf_27 : decode cX9_funOf 27 = .ok (.lload_n 0, 1) := by decide +kernel
theorem dX9_funOf_28 : decode cX9_funOf 28 = .ok (.iload_n 3, 1) := by decide +kernel
theorem dX9_funOf_29 : decode cX9_funOf 29 = .ok (.iconst 1, 1) := by decide +kernel
theorem dX9_funOf_30 : decode cX9_funOf 30 = .ok (.isub, 1) := by decide +kernel
theorem dX9_funOf_31 : decode cX9_funOf 31 = .ok (.invokestatic 86, 3) := by decide +kernel
theorem dX9_funOf_34 : decode cX9_funOf 34 = .ok (.istore 5, 2) := by decide +kernel
theorem dX9_funOf_36 : decode cX9_funOf 36 = .ok (.iconst 0, 1) := by decide +kernel
theorem dX9_funOf_37 : decode cX9_funOf 37 = .ok (.istore 6, 2) := by decide +kernel
theorem dX9_funOf_39 : decode cX9_funOf 39 = .ok (.iconst 0, 1) := by decide +kernel
theorem dX9_funOf_40 : decode cX9_funOf 40 = .ok (.istore 7, 2) := by decide +kernel
theorem dX9_funOf_42 : decode cX9_funOf 42 = .ok (.iload 7, 2) := by decide +kernel
theorem dX9_funOf_44 : decode cX9_funOf 44 = .ok (.iload_n 3, 1) := by decide +kernel
theorem dX9_funOf_45 : decode cX9_funOf 45 = .ok (.if_icmp .ge 30, 3) := by decide +kernel
theorem dX9_funOf_48 : decode cX9_funOf 48 = .ok (.iload 6, 2) := by decide +kernel
theorem dX9_funOf_50 : decode cX9_funOf 50 = .ok (.lload_n 0, 1) := by decide +kernel
theorem dX9_funOf_51 : decode cX9_funOf 51 = .ok (.iload 7, 2) := by decide +kernel
theorem dX9_funOf_53 : decode cX9_funOf 53 = .ok (.invokestatic 86, 3) := by decide +kernel
theorem dX9_funOf_56 : decode cX9_funOf 56 = .ok (.iload 4, 2) := by decide +kernel
theorem dX9_funOf_58 : decode cX9_funOf 58 = .ok (.if_icmp .ne 7, 3) := by decide +kernel
theorem dX9_funOf_61 : decode cX9_funOf 61 = .ok (.iconst 1, 1) := by decide +kernel
theorem dX9_funOf_62 : decode cX9_funOf 62 = .ok (.goto 4, 3) := by decide +kernel
theorem dX9_funOf_65 : decode cX9_funOf 65 = .ok (.iconst 0, 1) := by decide +kernel
theorem dX9_funOf_66 : decode cX9_funOf 66 = .ok (.iadd, 1) := by decide +kernel
theorem dX9_funOf_67 : decode cX9_funOf 67 = .ok (.istore 6, 2) := by decide +kernel
theorem dX9_funOf_69 : decode cX9_funOf 69 = .ok (.iinc 7 1, 3) := by decide +kernel
theorem dX9_funOf_72 : decode cX9_funOf 72 = .ok (.goto (-30), 3) := by decide +kernel
theorem dX9_funOf_75 : decode cX9_funOf 75 = .ok (.iload_n 2, 1) := by decide +kernel
theorem dX9_funOf_76 : decode cX9_funOf 76 = .ok (.iload 4, 2) := by decide +kernel
theorem dX9_funOf_78 : decode cX9_funOf 78 = .ok (.iload 5, 2) := by decide +kernel
theorem dX9_funOf_80 : decode cX9_funOf 80 = .ok (.if_icmp .ne 7, 3) := by decide +kernel
theorem dX9_funOf_83 : decode cX9_funOf 83 = .ok (.iconst 0, 1) := by decide +kernel
theorem dX9_funOf_84 : decode cX9_funOf 84 = .ok (.goto 4, 3) := by decide +kernel
theorem dX9_funOf_87 : decode cX9_funOf 87 = .ok (.iconst 2, 1) := by decide +kernel
theorem dX9_funOf_88 : decode cX9_funOf 88 = .ok (.iadd, 1) := by decide +kernel
theorem dX9_funOf_89 : decode cX9_funOf 89 = .ok (.istore_n 2, 1) := by decide +kernel
theorem dX9_funOf_90 : decode cX9_funOf 90 = .ok (.iload_n 2, 1) := by decide +kernel
theorem dX9_funOf_91 : decode cX9_funOf 91 = .ok (.iload 4, 2) := by decide +kernel
theorem dX9_funOf_93 : decode cX9_funOf 93 = .ok (.bipush 9, 2) := by decide +kernel
theorem dX9_funOf_95 : decode cX9_funOf 95 = .ok (.if_icmp .ne 14, 3) := by decide +kernel
theorem dX9_funOf_98 : decode cX9_funOf 98 = .ok (.iload 5, 2) := by decide +kernel
theorem dX9_funOf_100 : decode cX9_funOf 100 = .ok (.bipush 7, 2) := by decide +kernel
theorem dX9_funOf_102 : decode cX9_funOf 102 = .ok (.if_icmp .ne 7, 3) := by decide +kernel
theorem dX9_funOf_105 : decode cX9_funOf 105 = .ok (.iconst 5, 1) := by decide +kernel
theorem dX9_funOf_106 : decode cX9_funOf 106 = .ok (.goto 4, 3) := by decide +kernel
theorem dX9_funOf_109 : decode cX9_funOf 109 = .ok (.iconst 0, 1) := by decide +kernel
theorem dX9_funOf_110 : decode cX9_funOf 110 = .ok (.iadd, 1) := by decide +kernel
theorem dX9_funOf_111 : decode cX9_funOf 111 = .ok (.istore_n 2, 1) := by decide +kernel
theorem dX9_funOf_112 : decode cX9_funOf 112 = .ok (.iload_n 2, 1) := by decide +kernel
theorem dX9_funOf_113 : decode cX9_funOf 113 = .ok (.iload 6, 2) := by decide +kernel
theorem dX9_funOf_115 : decode cX9_funOf 115 = .ok (.iconst 1, 1) := by decide +kernel
theorem dX9_funOf_116 : decode cX9_funOf 116 = .ok (.if_icmp .le 7, 3) := by decide +kernel
theorem dX9_funOf_119 : decode cX9_funOf 119 = .ok (.iconst 4, 1) := by decide +kernel
theorem dX9_funOf_120 : decode cX9_funOf 120 = .ok (.goto 4, 3) := by decide +kernel
theorem dX9_funOf_123 : decode cX9_funOf 123 = .ok (.iconst 0, 1) := by decide +kernel
theorem dX9_funOf_124 : decode cX9_funOf 124 = .ok (.isub, 1) := by decide +kernel
theorem dX9_funOf_125 : decode cX9_funOf 125 = .ok (.istore_n 2, 1) := by decide +kernel
theorem dX9_funOf_126 : decode cX9_funOf 126 = .ok (.iinc 3 1, 3) := by decide +kernel
theorem dX9_funOf_129 : decode cX9_funOf 129 = .ok (.goto (-125), 3) := by decide +kernel
theorem dX9_funOf_132 : decode cX9_funOf 132 = .ok (.iload_n 2, 1) := by decide +kernel
theorem dX9_funOf_133 : decode cX9_funOf 133 = .ok (.lload_n 0, 1) := by decide +kernel
theorem dX9_funOf_134 : decode cX9_funOf 134 = .ok (.invokestatic 82, 3) := by decide +kernel
theorem dX9_funOf_137 : decode cX9_funOf 137 = .ok (.ifCond .le 22, 3) := by decide +kernel
theorem dX9_funOf_140 : decode cX9_funOf 140 = .ok (.lload_n 0, 1) := by decide +kernel
theorem dX9_funOf_141 : decode cX9_funOf 141 = .ok (.lload_n 0, 1) := by decide +kernel
theorem dX9_funOf_142 : decode cX9_funOf 142 = .ok (.invokestatic 82, 3) := by decide +kernel
theorem dX9_funOf_145 : decode cX9_funOf 145 = .ok (.iconst 1, 1) := by decide +kernel
theorem dX9_funOf_146 : decode cX9_funOf 146 = .ok (.isub, 1) := by decide +kernel
theorem dX9_funOf_147 : decode cX9_funOf 147 = .ok (.invokestatic 86, 3) := by decide +kernel
theorem dX9_funOf_150 : decode cX9_funOf 150 = .ok (.bipush 9, 2) := by decide +kernel
theorem dX9_funOf_152 : decode cX9_funOf 152 = .ok (.if_icmp .ne 7, 3) := by decide +kernel
theorem dX9_funOf_155 : decode cX9_funOf 155 = .ok (.iconst 3, 1) := by decide +kernel
theorem dX9_funOf_156 : decode cX9_funOf 156 = .ok (.goto 4, 3) := by decide +kernel
theorem dX9_funOf_159 : decode cX9_funOf 159 = .ok (.iconst 0, 1) := by decide +kernel
theorem dX9_funOf_160 : decode cX9_funOf 160 = .ok (.iadd, 1) := by decide +kernel
theorem dX9_funOf_161 : decode cX9_funOf 161 = .ok (.ireturn, 1) := by decide +kernel
set_option maxRecDepth 20000 in
theorem ggX9_fun_X9_isBranch : GoodIn wsX9_fun wsX9_isBranch := goodIn_r _ [5, 6, 7, 8, 4, 9] (by decide +kernel) (by decide +kernel)
set_option maxRecDepth 20000 in
theorem gX9_fun_X9_isBranch : GoodIn wsX9_fun (va_wsS RX9 139 yX9_isBranch wsX9_isBranch) := goodIn_app (goodIn_of _ (by decide +kernel)) ggX9_fun_X9_isBranch
set_option maxRecDepth 20000 in
theorem ggX9_fun_X9_funOf : GoodIn wsX9_fun wsX9_funOf := goodIn_r _ [12, 13, 14, 4, 15, 16, 17, 18, 19] (by decide +kernel) (by decide +kernel)
set_option maxRecDepth 20000 in
theorem gX9_fun_X9_funOf : GoodIn wsX9_fun (va_wsS RX9 184 yX9_funOf wsX9_funOf) := goodIn_app (goodIn_of _ (by decide +kernel)) ggX9_fun_X9_funOf
set_option maxRecDepth 20000 in
theorem ggX9_fun_X9_bad : GoodIn wsX9_fun wsX9_bad := goodIn_r _ [23, 24, 25, 26, 27, 28, 29, 30, 31, 32, 33, 34, 35, 36, 37, 38, 39, 40, 41, 42, 43, 44, 45, 46, 47, 48, 49, 50, 51] (by decide +kernel) (by decide +kernel)
set_option maxRecDepth 20000 in
theorem gX9_fun_X9_bad : GoodIn wsX9_fun (wsV RX9 126 RX9 yX9_bad wsX9_bad) := goodIn_app (goodIn_of _ (by decide +kernel)) ggX9_fun_X9_bad
theorem dX9_fun_0 : decode cX9_fun 0 = .ok (.iload_n 1, 1) := by decide +kernel
theorem dX9_fun_1 : decode cX9_fun 1 = .ok (.invokestatic 139, 3) := by decide +kernel
theorem dX9_fun_4 : decode cX9_fun 4 = .ok (.ifCond .eq 15, 3) := by decide +kernel
theorem dX9_fun_7 : decode cX9_fun 7 = .ok (.aload_n 0, 1) := by decide +kernel
theorem dX9_fun_8 : decode cX9_fun 8 = .ok (.getfield 7, 3) := by decide +kernel
theorem dX9_fun_11 : decode cX9_fun 11 = .ok (.iload_n 1, 1) := by decide +kernel
theorem dX9_fun_12 : decode cX9_fun 12 = .ok (.laload, 1) := by decide +kernel
theorem dX9_fun_13 : decode cX9_fun 13 = .ok (.invokestatic 184, 3) := by decide +kernel
theorem dX9_fun_16 : decode cX9_fun 16 = .ok (.goto 10, 3) := by decide +kernel
theorem dX9_fun_19 : decode cX9_fun 19 = .ok (.aload_n 0, 1) := by decide +kernel
theorem dX9_fun_20 : decode cX9_fun 20 = .ok (.sipush (-1000), 3) := by decide +kernel
theorem dX9_fun_23 : decode cX9_fun 23 = .ok (.invokevirtual 126, 3) := by decide +kernel
theorem dX9_fun_26 : decode cX9_fun 26 = .ok (.ireturn, 1) := by decide +kernel
set_option maxRecDepth 20000 in
theorem ggX9_funniest_X9_in : GoodIn wsX9_funniest wsX9_in := goodIn_r _ [6] (by decide +kernel) (by decide +kernel)
set_option maxRecDepth 20000 in
theorem gX9_funniest_X9_in : GoodIn wsX9_funniest (va_wsS RX9 72 yX9_in wsX9_in) := goodIn_app (goodIn_of _ (by decide +kernel)) ggX9_funniest_X9_in
set_option maxRecDepth 20000 in
theorem ggX9_funniest_X9_bad : GoodIn wsX9_funniest wsX9_bad := goodIn_r _ [10, 11, 26, 27, 28, 29, 30, 31, 32, 33, 34, 35, 36, 37, 38, 39, 40, 41, 42, 43, 44, 45, 46, 47, 48, 49, 50, 51, 52] (by decide +kernel) (by decide +kernel)
set_option maxRecDepth 20000 in
theorem gX9_funniest_X9_bad : GoodIn wsX9_funniest (wsV RX9 126 RX9 yX9_bad wsX9_bad) := goodIn_app (goodIn_of _ (by decide +kernel)) ggX9_funniest_X9_bad
set_option maxRecDepth 20000 in
theorem ggX9_funniest_X9_behind : GoodIn wsX9_funniest wsX9_behind := goodIn_r _ [14, 15, 16, 17, 5, 18] (by decide +kernel) (by decide +kernel)
set_option maxRecDepth 20000 in
theorem gX9_funniest_X9_behind : GoodIn wsX9_funniest (va_wsS RX9 90 yX9_behind wsX9_behind) := goodIn_app (goodIn_of _ (by decide +kernel)) ggX9_funniest_X9_behind
set_option maxRecDepth 20000 in
theorem ggX9_funniest_X9_funOf : GoodIn wsX9_funniest wsX9_funOf := goodIn_r _ [21, 16, 17, 5, 18, 22, 23, 24, 25] (by decide +kernel) (by decide +kernel)
set_option maxRecDepth 20000 in
theorem gX9_funniest_X9_funOf : GoodIn wsX9_funniest (va_wsS RX9 184 yX9_funOf wsX9_funOf) := goodIn_app (goodIn_of _ (by decide +kernel)) ggX9_funniest_X9_funOf
set_option maxRecDepth 20000 in
theorem ggX9_funniest_X9_partOf : GoodIn wsX9_funniest wsX9_partOf := goodIn_r _ [24, 25] (by decide +kernel) (by decide +kernel)
set_option maxRecDepth 20000 in
theorem gX9_funniest_X9_partOf : GoodIn wsX9_funniest (va_wsS RX9 86 yX9_partOf wsX9_partOf) := goodIn_app (goodIn_of _ (by decide +kernel)) ggX9_funniest_X9_partOf
theorem dX9_funniest_0 : decode cX9_funniest 0 = .ok (.iload_n 1, 1) := by decide +kernel
theorem dX9_funniest_1 : decode cX9_funniest 1 = .ok (.i2l, 1) := by decide +kernel
theorem dX9_funniest_2 : decode cX9_funniest 2 = .ok (.lconst 0, 1) := by decide +kernel
theorem dX9_funniest_3 : decode cX9_funniest 3 = .ok (.ldc2_w 187, 3) := by decide +kernel
theorem dX9_funniest_6 : decode cX9_funniest 6 = .ok (.invokestatic 72, 3) := by decide +kernel
theorem dX9_funniest_9 : decode cX9_funniest 9 = .ok (.ifCond .eq 8, 3) := by decide +kernel
theorem dX9_funniest_12 : decode cX9_funniest 12 = .ok (.iload_n 2, 1) := by decide +kernel
theorem dX9_funniest_13 : decode cX9_funniest 13 = .ok (.iconst (-1), 1) := by decide +kernel
theorem dX9_funniest_14 : decode cX9_funniest 14 = .ok (.if_icmp .ge 11, 3) := by decide +kernel
theorem dX9_funniest_17 : decode cX9_funniest 17 = .ok (.aload_n 0, 1) := by decide +kernel
theorem dX9_funniest_18 : decode cX9_funniest 18 = .ok (.sipush (-1000), 3) := by decide +kernel
theorem dX9_funniest_21 : decode cX9_funniest 21 = .ok (.invokevirtual 126, 3) := by decide +kernel
theorem dX9_funniest_24 : decode cX9_funniest 24 = .ok (.ireturn, 1) := by decide +kernel
theorem dX9_funniest_25 : decode cX9_funniest 25 = .ok (.iconst 1, 1) := by decide +kernel
theorem dX9_funniest_26 : decode cX9_funniest 26 = .ok (.istore_n 3, 1) := by decide +kernel
theorem dX9_funniest_27 : decode cX9_funniest 27 = .ok (.ldc 189, 2) := by decide +kernel
theorem dX9_funniest_29 : decode cX9_funniest 29 = .ok (.istore 4, 2) := by decide +kernel
theorem dX9_funniest_31 : decode cX9_funniest 31 = .ok (.lconst 0, 1) := by decide +kernel
theorem dX9_funniest_32 : decode cX9_funniest 32 = .ok (.lstore 5, 2) := by decide +kernel
theorem dX9_funniest_34 : decode cX9_funniest 34 = .ok (.iconst 0, 1) := by decide +kernel
theorem dX9_funniest_35 : decode cX9_funniest 35 = .ok (.istore 7, 2) := by decide +kernel
theorem dX9_funniest_37 : decode cX9_funniest 37 = .ok (.iload 7, 2) := by decide +kernel
theorem dX9_funniest_39 : decode cX9_funniest 39 = .ok (.iload_n 1, 1) := by decide +kernel
theorem dX9_funniest_40 : decode cX9_funniest 40 = .ok (.if_icmp .ge 14, 3) := by decide +kernel
theorem dX9_funniest_43 : decode cX9_funniest 43 = .ok (.iload_n 3, 1) := by decide +kernel
theorem dX9_funniest_44 : decode cX9_funniest 44 = .ok (.bipush 10, 2) := by decide +kernel
theorem dX9_funniest_46 : decode cX9_funniest 46 = .ok (.imul, 1) := by decide +kernel
theorem dX9_funniest_47 : decode cX9_funniest 47 = .ok (.istore_n 3, 1) := by decide +kernel
theorem dX9_funniest_48 : decode cX9_funniest 48 = .ok (.iinc 7 1, 3) := by decide +kernel
theorem dX9_funniest_51 : decode cX9_funniest 51 = .ok (.goto (-14), 3) := by decide +kernel
theorem dX9_funniest_54 : decode cX9_funniest 54 = .ok (.iconst 0, 1) := by decide +kernel
theorem dX9_funniest_55 : decode cX9_funniest 55 = .ok (.istore 7, 2) := by decide +kernel
theorem dX9_funniest_57 : decode cX9_funniest 57 = .ok (.iload 7, 2) := by decide +kernel
theorem dX9_funniest_59 : decode cX9_funniest 59 = .ok (.iload_n 3, 1) := by decide +kernel
theorem dX9_funniest_60 : decode cX9_funniest 60 = .ok (.if_icmp .ge 87, 3) := by decide +kernel
theorem dX9_funniest_63 : decode cX9_funniest 63 = .ok (.lconst 0, 1) := by decide +kernel
theorem dX9_funniest_64 : decode cX9_funniest 64 = .ok (.lstore 8, 2) := by decide +kernel
theorem dX9_funniest_66 : decode cX9_funniest 66 = .ok (.iload_n 3, 1) := by decide +kernel
theorem dX9_funniest_67 : decode cX9_funniest 67 = .ok (.bipush 10, 2) := by decide +kernel
theorem dX9_funniest_69 : decode cX9_funniest 69 = .ok (.idiv, 1) := by decide +kernel
theorem dX9_funniest_70 : decode cX9_funniest 70 = .ok (.istore 10, 2) := by decide +kernel
theorem dX9_funniest_72 : decode cX9_funniest 72 = .ok (.iload 10, 2) := by decide +kernel
theorem dX9_funniest_74 : decode cX9_funniest 74 = .ok (.ifCond .le 28, 3) := by decide +kernel
theorem dX9_funniest_77 : decode cX9_funniest 77 = .ok (.lload 8, 2) := by decide +kernel
theorem dX9_funniest_79 : decode cX9_funniest 79 = .ok (.iload 7, 2) := by decide +kernel
theorem dX9_funniest_81 : decode cX9_funniest 81 = .ok (.iload 10, 2) := by decide +kernel
theorem dX9_funniest_83 : decode cX9_funniest 83 = .ok (.idiv, 1) := by decide +kernel
theorem dX9_funniest_84 : decode cX9_funniest 84 = .ok (.bipush 10, 2) := by decide +kernel
theorem dX9_funniest_86 : decode cX9_funniest 86 = .ok (.irem, 1) := by decide +kernel
theorem dX9_funniest_87 : decode cX9_funniest 87 = .ok (.invokestatic 90, 3) := by decide +kernel
theorem dX9_funniest_90 : decode cX9_funniest 90 = .ok (.lstore 8, 2) := by decide +kernel
theorem dX9_funniest_92 : decode cX9_funniest 92 = .ok (.iload 10, 2) := by decide +kernel
theorem dX9_funniest_94 : decode cX9_funniest 94 = .ok (.bipush 10, 2) := by decide +kernel
theorem dX9_funniest_96 : decode cX9_funniest 96 = .ok (.idiv, 1) := by decide +kernel
theorem dX9_funniest_97 : decode cX9_funniest 97 = .ok (.istore 10, 2) := by decide +kernel
theorem dX9_funniest_99 : decode cX9_funniest 99 = .ok (.goto (-27), 3) := by decide +kernel
theorem dX9_funniest_102 : decode cX9_funniest 102 = .ok (.lload 8, 2) := by decide +kernel
theorem dX9_funniest_104 : decode cX9_funniest 104 = .ok (.invokestatic 184, 3) := by decide +kernel
theorem dX9_funniest_107 : decode cX9_funniest 107 = .ok (.istore 10, 2) := by decide +kernel
theorem dX9_funniest_109 : decode cX9_funniest 109 = .ok (.iload 10, 2) := by decide +kernel
theorem dX9_funniest_111 : decode cX9_funniest 111 = .ok (.iload 4, 2) := by decide +kernel
theorem dX9_funniest_113 : decode cX9_funniest 113 = .ok (.if_icmp .le 8, 3) := by decide +kernel
theorem dX9_funniest_116 : decode cX9_funniest 116 = .ok (.lload 8, 2) := by decide +kernel
theorem dX9_funniest_118 : decode cX9_funniest 118 = .ok (.goto 5, 3) := by decide +kernel
theorem dX9_funniest_121 : decode cX9_funniest 121 = .ok (.lload 5, 2) := by decide +kernel
theorem dX9_funniest_123 : decode cX9_funniest 123 = .ok (.lstore 5, 2) := by decide +kernel
theorem dX9_funniest_125 : decode cX9_funniest 125 = .ok (.iload 10, 2) := by decide +kernel
theorem dX9_funniest_127 : decode cX9_funniest 127 = .ok (.iload 4, 2) := by decide +kernel
theorem dX9_funniest_129 : decode cX9_funniest 129 = .ok (.if_icmp .le 8, 3) := by decide +kernel
theorem dX9_funniest_132 : decode cX9_funniest 132 = .ok (.iload 10, 2) := by decide +kernel
theorem dX9_funniest_134 : decode cX9_funniest 134 = .ok (.goto 5, 3) := by decide +kernel
theorem dX9_funniest_137 : decode cX9_funniest 137 = .ok (.iload 4, 2) := by decide +kernel
theorem dX9_funniest_139 : decode cX9_funniest 139 = .ok (.istore 4, 2) := by decide +kernel
theorem dX9_funniest_141 : decode cX9_funniest 141 = .ok (.iinc 7 1, 3) := by decide +kernel
theorem dX9_funniest_144 : decode cX9_funniest 144 = .ok (.goto (-87), 3) := by decide +kernel
theorem dX9_funniest_147 : decode cX9_funniest 147 = .ok (.iload_n 2, 1) := by decide +kernel
theorem dX9_funniest_148 : decode cX9_funniest 148 = .ok (.iconst (-1), 1) := by decide +kernel
theorem dX9_funniest_149 : decode cX9_funniest 149 = .ok (.if_icmp .ne 8, 3) := by decide +kernel
theorem dX9_funniest_152 : decode cX9_funniest 152 = .ok (.iload 4, 2) := by decide +kernel
theorem dX9_funniest_154 : decode cX9_funniest 154 = .ok (.goto 19, 3) := by decide +kernel
theorem dX9_funniest_157 : decode cX9_funniest 157 = .ok (.iload_n 2, 1) := by decide +kernel
theorem dX9_funniest_158 : decode cX9_funniest 158 = .ok (.iload_n 1, 1) := by decide +kernel
theorem dX9_funniest_159 : decode cX9_funniest 159 = .ok (.if_icmp .ge 12, 3) := by decide +kernel
theorem dX9_funniest_162 : decode cX9_funniest 162 = .ok (.lload 5, 2) := by decide +kernel
theorem dX9_funniest_164 : decode cX9_funniest 164 = .ok (.iload_n 2, 1) := by decide +kernel
theorem dX9_funniest_165 : decode cX9_funniest 165 = .ok (.invokestatic 86, 3) := by decide +kernel
theorem dX9_funniest_168 : decode cX9_funniest 168 = .ok (.goto 5, 3) := by decide +kernel
theorem dX9_funniest_171 : decode cX9_funniest 171 = .ok (.bipush (-5), 2) := by decide +kernel
theorem dX9_funniest_173 : decode cX9_funniest 173 = .ok (.ireturn, 1) := by decide +kernel
set_option maxRecDepth 20000 in
theorem ggX9_slip_X9_isBranch : GoodIn wsX9_slip wsX9_isBranch := goodIn_r _ [5, 6, 7, 8, 4, 9] (by decide +kernel) (by decide +kernel)
set_option maxRecDepth 20000 in
theorem gX9_slip_X9_isBranch : GoodIn wsX9_slip (va_wsS RX9 139 yX9_isBranch wsX9_isBranch) := goodIn_app (goodIn_of _ (by decide +kernel)) ggX9_slip_X9_isBranch
set_option maxRecDepth 20000 in
theorem ggX9_slip_X9_bad : GoodIn wsX9_slip wsX9_bad := goodIn_r _ [13, 14, 47, 48, 49, 50, 51, 52, 53, 54, 55, 56, 57, 58, 59, 60, 61, 62, 63, 64, 65, 66, 67, 68, 69, 70, 71, 72, 73] (by decide +kernel) (by decide +kernel)
set_option maxRecDepth 20000 in
theorem gX9_slip_X9_bad : GoodIn wsX9_slip (wsV RX9 126 RX9 yX9_bad wsX9_bad) := goodIn_app (goodIn_of _ (by decide +kernel)) ggX9_slip_X9_bad
set_option maxRecDepth 20000 in
theorem ggX9_slip_X9_funOf : GoodIn wsX9_slip wsX9_funOf := goodIn_r _ [17, 18, 19, 4, 20, 21, 22, 23, 24] (by decide +kernel) (by decide +kernel)
set_option maxRecDepth 20000 in
theorem gX9_slip_X9_funOf : GoodIn wsX9_slip (va_wsS RX9 184 yX9_funOf wsX9_funOf) := goodIn_app (goodIn_of _ (by decide +kernel)) ggX9_slip_X9_funOf
set_option maxRecDepth 20000 in
theorem ggX9_slip_X9_slips : GoodIn wsX9_slip wsX9_slips := goodIn_r _ [27, 28, 29, 4, 30, 18, 19, 20, 21, 22, 23, 24, 31, 32, 33, 34, 35, 36, 37, 38, 39, 40, 41, 42, 43, 44, 45, 46] (by decide +kernel) (by decide +kernel)
set_option maxRecDepth 20000 in
theorem gX9_slip_X9_slips : GoodIn wsX9_slip (va_wsS RX9 155 yX9_slips wsX9_slips) := goodIn_app (goodIn_of _ (by decide +kernel)) ggX9_slip_X9_slips
