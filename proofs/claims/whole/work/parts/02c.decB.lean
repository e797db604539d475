theorem dX6_lookAtNumber_67 : decode cX6_lookAtNumber 67 = .ok (.getfield 44, 3) := by decide +kernel
theorem dX6_lookAtNumber_70 : decode cX6_lookAtNumber 70 = .ok (.isub, 1) := by decide +kernel
theorem dX6_lookAtNumber_71 : decode cX6_lookAtNumber 71 = .ok (.iconst 2, 1) := by decide +kernel
theorem dX6_lookAtNumber_72 : decode cX6_lookAtNumber 72 = .ok (.if_icmp .gt 7, 3) := by decide +kernel
theorem dX6_lookAtNumber_75 : decode cX6_lookAtNumber 75 = .ok (.iconst 2, 1) := by decide +kernel
theorem dX6_lookAtNumber_76 : decode cX6_lookAtNumber 76 = .ok (.goto 4, 3) := by decide +kernel
theorem dX6_lookAtNumber_79 : decode cX6_lookAtNumber 79 = .ok (.iconst 4, 1) := by decide +kernel
theorem dX6_lookAtNumber_80 : decode cX6_lookAtNumber 80 = .ok (.putfield 47, 3) := by decide +kernel
theorem dX6_lookAtNumber_83 : decode cX6_lookAtNumber 83 = .ok (.return_, 1) := by decide +kernel
theorem dX6_isLetter_0 : decode cX6_isLetter 0 = .ok (.iload_n 0, 1) := by decide +kernel
theorem dX6_isLetter_1 : decode cX6_isLetter 1 = .ok (.bipush 97, 2) := by decide +kernel
theorem dX6_isLetter_3 : decode cX6_isLetter 3 = .ok (.if_icmp .lt 13, 3) := by decide +kernel
theorem dX6_isLetter_6 : decode cX6_isLetter 6 = .ok (.iload_n 0, 1) := by decide +kernel
theorem dX6_isLetter_7 : decode cX6_isLetter 7 = .ok (.bipush 122, 2) := by decide +kernel
theorem dX6_isLetter_9 : decode cX6_isLetter 9 = .ok (.if_icmp .gt 7, 3) := by decide +kernel
theorem dX6_isLetter_12 : decode cX6_isLetter 12 = .ok (.iconst 1, 1) := by decide +kernel
theorem dX6_isLetter_13 : decode cX6_isLetter 13 = .ok (.goto 4, 3) := by decide +kernel
theorem dX6_isLetter_16 : decode cX6_isLetter 16 = .ok (.iconst 0, 1) := by decide +kernel
theorem dX6_isLetter_17 : decode cX6_isLetter 17 = .ok (.ireturn, 1) := by decide +kernel
theorem dX6_isFigure_0 : decode cX6_isFigure 0 = .ok (.iload_n 0, 1) := by decide +kernel
theorem dX6_isFigure_1 : decode cX6_isFigure 1 = .ok (.bipush 48, 2) := by decide +kernel
theorem dX6_isFigure_3 : decode cX6_isFigure 3 = .ok (.if_icmp .lt 13, 3) := by decide +kernel
theorem dX6_isFigure_6 : decode cX6_isFigure 6 = .ok (.iload_n 0, 1) := by decide +kernel
theorem dX6_isFigure_7 : decode cX6_isFigure 7 = .ok (.bipush 57, 2) := by decide +kernel
theorem dX6_isFigure_9 : decode cX6_isFigure 9 = .ok (.if_icmp .gt 7, 3) := by decide +kernel
theorem dX6_isFigure_12 : decode cX6_isFigure 12 = .ok (.iconst 1, 1) := by decide +kernel
theorem dX6_isFigure_13 : decode cX6_isFigure 13 = .ok (.goto 4, 3) := by decide +kernel
theorem dX6_isFigure_16 : decode cX6_isFigure 16 = .ok (.iconst 0, 1) := by decide +kernel
theorem dX6_isFigure_17 : decode cX6_isFigure 17 = .ok (.ireturn, 1) := by decide +kernel
theorem dX6_byteIn_0 : decode cX6_byteIn 0 = .ok (.iload_n 1, 1) := by decide +kernel
theorem dX6_byteIn_1 : decode cX6_byteIn 1 = .ok (.ifCond .lt 27, 3) := by decide +kernel
theorem dX6_byteIn_4 : decode cX6_byteIn 4 = .ok (.iload_n 1, 1) := by decide +kernel
theorem dX6_byteIn_5 : decode cX6_byteIn 5 = .ok (.aload_n 0, 1) := by decide +kernel
theorem dX6_byteIn_6 : decode cX6_byteIn 6 = .ok (.getfield 15, 3) := by decide +kernel
theorem dX6_byteIn_9 : decode cX6_byteIn 9 = .ok (.if_icmp .ge 19, 3) := by decide +kernel
theorem dX6_byteIn_12 : decode cX6_byteIn 12 = .ok (.iload_n 1, 1) := by decide +kernel
theorem dX6_byteIn_13 : decode cX6_byteIn 13 = .ok (.sipush 150, 3) := by decide +kernel
theorem dX6_byteIn_16 : decode cX6_byteIn 16 = .ok (.if_icmp .ge 12, 3) := by decide +kernel
theorem dX6_byteIn_19 : decode cX6_byteIn 19 = .ok (.aload_n 0, 1) := by decide +kernel
theorem dX6_byteIn_20 : decode cX6_byteIn 20 = .ok (.getfield 11, 3) := by decide +kernel
theorem dX6_byteIn_23 : decode cX6_byteIn 23 = .ok (.iload_n 1, 1) := by decide +kernel
theorem dX6_byteIn_24 : decode cX6_byteIn 24 = .ok (.baload, 1) := by decide +kernel
theorem dX6_byteIn_25 : decode cX6_byteIn 25 = .ok (.goto 4, 3) := by decide +kernel
theorem dX6_byteIn_28 : decode cX6_byteIn 28 = .ok (.iconst (-1), 1) := by decide +kernel
theorem dX6_byteIn_29 : decode cX6_byteIn 29 = .ok (.ireturn, 1) := by decide +kernel
theorem dX7_sizeOf_0 : decode cX7_sizeOf 0 = .ok (.lload_n 0, 1) := by decide +kernel
theorem dX7_sizeOf_1 : decode cX7_sizeOf 1 = .ok (.ldc2_w 9, 3) := by decide +kernel
theorem dX7_sizeOf_4 : decode cX7_sizeOf 4 = .ok (.land, 1) := by decide +kernel
theorem dX7_sizeOf_5 : decode cX7_sizeOf 5 = .ok (.l2i, 1) := by decide +kernel
theorem dX7_sizeOf_6 : decode cX7_sizeOf 6 = .ok (.istore_n 2, 1) := by decide +kernel
theorem dX7_sizeOf_7 : decode cX7_sizeOf 7 = .ok (.iload_n 2, 1) := by decide +kernel
theorem dX7_sizeOf_8 : decode cX7_sizeOf 8 = .ok (.bipush 10, 2) := by decide +kernel
theorem dX7_sizeOf_10 : decode cX7_sizeOf 10 = .ok (.if_icmp .ge 7, 3) := by decide +kernel
theorem dX7_sizeOf_13 : decode cX7_sizeOf 13 = .ok (.iload_n 2, 1) := by decide +kernel
theorem dX7_sizeOf_14 : decode cX7_sizeOf 14 = .ok (.goto 5, 3) := by decide +kernel
theorem dX7_sizeOf_17 : decode cX7_sizeOf 17 = .ok (.bipush 10, 2) := by decide +kernel
theorem dX7_sizeOf_19 : decode cX7_sizeOf 19 = .ok (.ireturn, 1) := by decide +kernel
theorem dX7_partIn_0 : decode cX7_partIn 0 = .ok (.lload_n 0, 1) := by decide +kernel
theorem dX7_partIn_1 : decode cX7_partIn 1 = .ok (.iconst 4, 1) := by decide +kernel
theorem dX7_partIn_2 : decode cX7_partIn 2 = .ok (.iload_n 2, 1) := by decide +kernel
theorem dX7_partIn_3 : decode cX7_partIn 3 = .ok (.imul, 1) := by decide +kernel
theorem dX7_partIn_4 : decode cX7_partIn 4 = .ok (.iconst 4, 1) := by decide +kernel
theorem dX7_partIn_5 : decode cX7_partIn 5 = .ok (.iadd, 1) := by decide +kernel
theorem dX7_partIn_6 : decode cX7_partIn 6 = .ok (.lushr, 1) := by decide +kernel
theorem dX7_partIn_7 : decode cX7_partIn 7 = .ok (.l2i, 1) := by decide +kernel
theorem dX7_partIn_8 : decode cX7_partIn 8 = .ok (.bipush 15, 2) := by decide +kernel
theorem dX7_partIn_10 : decode cX7_partIn 10 = .ok (.iand, 1) := by decide +kernel
theorem dX7_partIn_11 : decode cX7_partIn 11 = .ok (.ireturn, 1) := by decide +kernel
set_option maxRecDepth 20000 in
theorem ggX7_added_X7_sizeOf : GoodIn wsX7_added wsX7_sizeOf := goodIn_r _ [4, 5] (by decide +kernel) (by decide +kernel)
set_option maxRecDepth 20000 in
theorem gX7_added_X7_sizeOf : GoodIn wsX7_added (va_wsS RX7 11 yX7_sizeOf wsX7_sizeOf) := goodIn_app (goodIn_of _ (by decide +kernel)) ggX7_added_X7_sizeOf
theorem dX7_added_0 : decode cX7_added 0 = .ok (.lload_n 0, 1) := by decide +kernel
theorem dX7_added_1 : decode cX7_added 1 = .ok (.invokestatic 11, 3) := by decide +kernel
theorem dX7_added_4 : decode cX7_added 4 = .ok (.istore_n 3, 1) := by decide +kernel
theorem dX7_added_5 : decode cX7_added 5 = .ok (.iload_n 3, 1) := by decide +kernel
theorem dX7_added_6 : decode cX7_added 6 = .ok (.bipush 10, 2) := by decide +kernel
theorem dX7_added_8 : decode cX7_added 8 = .ok (.if_icmp .ge 18, 3) := by decide +kernel
theorem dX7_added_11 : decode cX7_added 11 = .ok (.lload_n 0, 1) := by decide +kernel
theorem dX7_added_12 : decode cX7_added 12 = .ok (.lconst 1, 1) := by decide +kernel
theorem dX7_added_13 : decode cX7_added 13 = .ok (.ladd, 1) := by decide +kernel
theorem dX7_added_14 : decode cX7_added 14 = .ok (.iload_n 2, 1) := by decide +kernel
theorem dX7_added_15 : decode cX7_added 15 = .ok (.i2l, 1) := by decide +kernel
theorem dX7_added_16 : decode cX7_added 16 = .ok (.iconst 4, 1) := by decide +kernel
theorem dX7_added_17 : decode cX7_added 17 = .ok (.iload_n 3, 1) := by decide +kernel
theorem dX7_added_18 : decode cX7_added 18 = .ok (.imul, 1) := by decide +kernel
theorem dX7_added_19 : decode cX7_added 19 = .ok (.iconst 4, 1) := by decide +kernel
theorem dX7_added_20 : decode cX7_added 20 = .ok (.iadd, 1) := by decide +kernel
theorem dX7_added_21 : decode cX7_added 21 = .ok (.lshl, 1) := by decide +kernel
theorem dX7_added_22 : decode cX7_added 22 = .ok (.ladd, 1) := by decide +kernel
theorem dX7_added_23 : decode cX7_added 23 = .ok (.goto 4, 3) := by decide +kernel
theorem dX7_added_26 : decode cX7_added 26 = .ok (.lload_n 0, 1) := by decide +kernel
theorem dX7_added_27 : decode cX7_added 27 = .ok (.lreturn, 1) := by decide +kernel
set_option maxRecDepth 20000 in
theorem ggX7_addedAhead_X7_sizeOf : GoodIn wsX7_addedAhead wsX7_sizeOf := goodIn_r _ [4, 5] (by decide +kernel) (by decide +kernel)
set_option maxRecDepth 20000 in
theorem gX7_addedAhead_X7_sizeOf : GoodIn wsX7_addedAhead (va_wsS RX7 11 yX7_sizeOf wsX7_sizeOf) := goodIn_app (goodIn_of _ (by decide +kernel)) ggX7_addedAhead_X7_sizeOf
theorem dX7_addedAhead_0 : decode cX7_addedAhead 0 = .ok (.lload_n 0, 1) := by decide +kernel
theorem dX7_addedAhead_1 : decode cX7_addedAhead 1 = .ok (.invokestatic 11, 3) := by decide +kernel
theorem dX7_addedAhead_4 : decode cX7_addedAhead 4 = .ok (.istore_n 3, 1) := by decide +kernel
theorem dX7_addedAhead_5 : decode cX7_addedAhead 5 = .ok (.iload_n 3, 1) := by decide +kernel
theorem dX7_addedAhead_6 : decode cX7_addedAhead 6 = .ok (.bipush 10, 2) := by decide +kernel
theorem dX7_addedAhead_8 : decode cX7_addedAhead 8 = .ok (.if_icmp .ge 22, 3) := by decide +kernel
theorem dX7_addedAhead_11 : decode cX7_addedAhead 11 = .ok (.lload_n 0, 1) := by decide +kernel
theorem dX7_addedAhead_12 : decode cX7_addedAhead 12 = .ok (.iconst 4, 1) := by decide +kernel
theorem dX7_addedAhead_13 : decode cX7_addedAhead 13 = .ok (.lushr, 1) := by decide +kernel
theorem dX7_addedAhead_14 : decode cX7_addedAhead 14 = .ok (.bipush 8, 2) := by decide +kernel
theorem dX7_addedAhead_16 : decode cX7_addedAhead 16 = .ok (.lshl, 1) := by decide +kernel
theorem dX7_addedAhead_17 : decode cX7_addedAhead 17 = .ok (.iload_n 2, 1) := by decide +kernel
theorem dX7_addedAhead_18 : decode cX7_addedAhead 18 = .ok (.i2l, 1) := by decide +kernel
theorem dX7_addedAhead_19 : decode cX7_addedAhead 19 = .ok (.iconst 4, 1) := by decide +kernel
theorem dX7_addedAhead_20 : decode cX7_addedAhead 20 = .ok (.lshl, 1) := by decide +kernel
theorem dX7_addedAhead_21 : decode cX7_addedAhead 21 = .ok (.ladd, 1) := by decide +kernel
theorem dX7_addedAhead_22 : decode cX7_addedAhead 22 = .ok (.iload_n 3, 1) := by decide +kernel
theorem dX7_addedAhead_23 : decode cX7_addedAhead 23 = .ok (.i2l, 1) := by decide +kernel
theorem dX7_addedAhead_24 : decode cX7_addedAhead 24 = .ok (.ladd, 1) := by decide +kernel
theorem dX7_addedAhead_25 : decode cX7_addedAhead 25 = .ok (.lconst 1, 1) := by decide +kernel
theorem dX7_addedAhead_26 : decode cX7_addedAhead 26 = .ok (.ladd, 1) := by decide +kernel
theorem dX7_addedAhead_27 : decode cX7_addedAhead 27 = .ok (.goto 4, 3) := by decide +kernel
theorem dX7_addedAhead_30 : decode cX7_addedAhead 30 = .ok (.lload_n 0, 1) := by decide +kernel
theorem dX7_addedAhead_31 : decode cX7_addedAhead 31 = .ok (.lreturn, 1) := by decide +kernel
set_option maxRecDepth 20000 in
theorem ggX7_has_X7_kindsIn : GoodIn wsX7_has wsX7_kindsIn := goodIn_r _ [4, 5, 6, 3, 7, 8, 9, 10, 11] (by decide +kernel) (by decide +kernel)
set_option maxRecDepth 20000 in
theorem gX7_has_X7_kindsIn : GoodIn wsX7_has (va_wsS RX7 17 yX7_kindsIn wsX7_kindsIn) := goodIn_app (goodIn_of _ (by decide +kernel)) ggX7_has_X7_kindsIn
theorem dX7_has_0 : decode cX7_has 0 = .ok (.lload_n 0, 1) := by decide +kernel
theorem dX7_has_1 : decode cX7_has 1 = .ok (.invokestatic 17, 3) := by decide +kernel
theorem dX7_has_4 : decode cX7_has 4 = .ok (.iload_n 2, 1) := by decide +kernel
theorem dX7_has_5 : decode cX7_has 5 = .ok (.ishr, 1) := by decide +kernel
theorem dX7_has_6 : decode cX7_has 6 = .ok (.iconst 1, 1) := by decide +kernel
theorem dX7_has_7 : decode cX7_has 7 = .ok (.iand, 1) := by decide +kernel
theorem dX7_has_8 : decode cX7_has 8 = .ok (.iconst 1, 1) := by decide +kernel
theorem dX7_has_9 : decode cX7_has 9 = .ok (.if_icmp .ne 7, 3) := by decide +kernel
theorem dX7_has_12 : decode cX7_has 12 = .ok (.iconst 1, 1) := by decide +kernel
theorem dX7_has_13 : decode cX7_has 13 = .ok (.goto 4, 3) := by decide +kernel
theorem dX7_has_16 : decode cX7_has 16 = .ok (.iconst 0, 1) := by decide +kernel
theorem dX7_has_17 : decode cX7_has 17 = .ok (.ireturn, 1) := by decide +kernel
set_option maxRecDepth 20000 in
theorem ggX7_kindsIn_X7_sizeOf : GoodIn wsX7_kindsIn wsX7_sizeOf := goodIn_r _ [4, 5] (by decide +kernel) (by decide +kernel)
set_option maxRecDepth 20000 in
theorem gX7_kindsIn_X7_sizeOf : GoodIn wsX7_kindsIn (va_wsS RX7 11 yX7_sizeOf wsX7_sizeOf) := goodIn_app (goodIn_of _ (by decide +kernel)) ggX7_kindsIn_X7_sizeOf
set_option maxRecDepth 20000 in
theorem ggX7_kindsIn_X7_partIn : GoodIn wsX7_kindsIn wsX7_partIn := goodIn_r _ [8] (by decide +kernel) (by decide +kernel)
set_option maxRecDepth 20000 in
theorem gX7_kindsIn_X7_partIn : GoodIn wsX7_kindsIn (va_wsS RX7 20 yX7_partIn wsX7_partIn) := goodIn_app (goodIn_of _ (by decide +kernel)) ggX7_kindsIn_X7_partIn
theorem dX7_kindsIn_0 : decode cX7_kindsIn 0 = .ok (.iconst 0, 1) := by decide +kernel
theorem dX7_kindsIn_1 : decode cX7_kindsIn 1 = .ok (.istore_n 2, 1) := by decide +kernel
theorem dX7_kindsIn_2 : decode cX7_kindsIn 2 = .ok (.iconst 0, 1) := by decide +kernel
theorem dX7_kindsIn_3 : decode cX7_kindsIn 3 = .ok (.istore_n 3, 1) := by decide +kernel
theorem dX7_kindsIn_4 : decode cX7_kindsIn 4 = .ok (.iload_n 3, 1) := by decide +kernel
theorem dX7_kindsIn_5 : decode cX7_kindsIn 5 = .ok (.lload_n 0, 1) := by decide +kernel
theorem dX7_kindsIn_6 : decode cX7_kindsIn 6 = .ok (.invokestatic 11, 3) := by decide +kernel
theorem dX7_kindsIn_9 : decode cX7_kindsIn 9 = .ok (.if_icmp .ge 19, 3) := by decide +kernel
theorem dX7_kindsIn_12 : decode cX7_kindsIn 12 = .ok (.iload_n 2, 1) := by decide +kernel
theorem dX7_kindsIn_13 : decode cX7_kindsIn 13 = .ok (.iconst 1, 1) := by decide +kernel
theorem dX7_kindsIn_14 : decode cX7_kindsIn 14 = .ok (.lload_n 0, 1) := by decide +kernel
theorem dX7_kindsIn_15 : decode cX7_kindsIn 15 = .ok (.iload_n 3, 1) := by decide +kernel
theorem dX7_kindsIn_16 : decode cX7_kindsIn 16 = .ok (.invokestatic 20, 3) := by decide +kernel
theorem dX7_kindsIn_19 : decode cX7_kindsIn 19 = .ok (.ishl, 1) := by decide +kernel
theorem dX7_kindsIn_20 : decode cX7_kindsIn 20 = .ok (.ior, 1) := by decide +kernel
theorem dX7_kindsIn_21 : decode cX7_kindsIn 21 = .ok (.istore_n 2, 1) := by decide +kernel
theorem dX7_kindsIn_22 : decode cX7_kindsIn 22 = .ok (.iinc 3 1, 3) := by decide +kernel
theorem dX7_kindsIn_25 : decode cX7_kindsIn 25 = .ok (.goto (-21), 3) := by decide +kernel
theorem dX7_kindsIn_28 : decode cX7_kindsIn 28 = .ok (.iload_n 2, 1) := by decide +kernel
theorem dX7_kindsIn_29 : decode cX7_kindsIn 29 = .ok (.ireturn, 1) := by decide +kernel
set_option maxRecDepth 20000 in
theorem ggX7_unlike_X7_kindsIn : GoodIn wsX7_unlike wsX7_kindsIn := goodIn_r _ [4, 5, 6, 3, 7, 8, 9, 10, 11] (by decide +kernel) (by decide +kernel)
set_option maxRecDepth 20000 in
theorem gX7_unlike_X7_kindsIn : GoodIn wsX7_unlike (va_wsS RX7 17 yX7_kindsIn wsX7_kindsIn) := goodIn_app (goodIn_of _ (by decide +kernel)) ggX7_unlike_X7_kindsIn
set_option maxRecDepth 20000 in
theorem ggX7_unlike_J6_bitCount_0f7a4 : GoodIn wsX7_unlike wsJ6_bitCount_0f7a4 := goodIn_r _ [15, 16, 17, 18] (by decide +kernel) (by decide +kernel)
set_option maxRecDepth 20000 in
theorem gX7_unlike_J6_bitCount_0f7a4 : GoodIn wsX7_unlike (va_wsS RX7 24 yJ6_bitCount_0f7a4 wsJ6_bitCount_0f7a4) := goodIn_app (goodIn_of _ (by decide +kernel)) ggX7_unlike_J6_bitCount_0f7a4
theorem dX7_unlike_0 : decode cX7_unlike 0 = .ok (.lload_n 0, 1) := by decide +kernel
theorem dX7_unlike_1 : decode cX7_unlike 1 = .ok (.invokestatic 17, 3) := by decide +kernel
theorem dX7_unlike_4 : decode cX7_unlike 4 = .ok (.invokestatic 24, 3) := by decide +kernel
theorem dX7_unlike_7 : decode cX7_unlike 7 = .ok (.ireturn, 1) := by decide +kernel
set_option maxRecDepth 20000 in
theorem ggX7_timesIn_X7_sizeOf : GoodIn wsX7_timesIn wsX7_sizeOf := goodIn_r _ [4, 5] (by decide +kernel) (by decide +kernel)
set_option maxRecDepth 20000 in
theorem gX7_timesIn_X7_sizeOf : GoodIn wsX7_timesIn (va_wsS RX7 11 yX7_sizeOf wsX7_sizeOf) := goodIn_app (goodIn_of _ (by decide +kernel)) ggX7_timesIn_X7_sizeOf
set_option maxRecDepth 20000 in
theorem ggX7_timesIn_X7_partIn : GoodIn wsX7_timesIn wsX7_partIn := goodIn_r _ [8] (by decide +kernel) (by decide +kernel)
set_option maxRecDepth 20000 in
theorem gX7_timesIn_X7_partIn : GoodIn wsX7_timesIn (va_wsS RX7 20 yX7_partIn wsX7_partIn) := goodIn_app (goodIn_of _ (by decide +kernel)) ggX7_timesIn_X7_partIn
theorem dX7_timesIn_0 : decode cX7_timesIn 0 = .ok (.iconst 0, 1) := by decide +kernel
theorem dX7_timesIn_1 : decode cX7_timesIn 1 = .ok (.istore_n 3, 1) := by decide +kernel
theorem dX7_timesIn_2 : decode cX7_timesIn 2 = .ok (.iconst 0, 1) := by decide +kernel
theorem dX7_timesIn_3 : decode cX7_timesIn 3 = .ok (.istore 4, 2) := by decide +kernel
theorem dX7_timesIn_5 : decode cX7_timesIn 5 = .ok (.iload 4, 2) := by decide +kernel
theorem dX7_timesIn_7 : decode cX7_timesIn 7 = .ok (.lload_n 0, 1) := by decide +kernel
theorem dX7_timesIn_8 : decode cX7_timesIn 8 = .ok (.invokestatic 11, 3) := by decide +kernel
theorem dX7_timesIn_11 : decode cX7_timesIn 11 = .ok (.if_icmp .ge 22, 3) := by decide +kernel
theorem dX7_timesIn_14 : decode cX7_timesIn 14 = .ok (.lload_n 0, 1) := by decide +kernel
theorem dX7_timesIn_15 : decode cX7_timesIn 15 = .ok (.iload 4, 2) := by decide +kernel
theorem dX7_timesIn_17 : decode cX7_timesIn 17 = .ok (.invokestatic 20, 3) := by decide +kernel
theorem dX7_timesIn_20 : decode cX7_timesIn 20 = .ok (.iload_n 2, 1) := by decide +kernel
theorem dX7_timesIn_21 : decode cX7_timesIn 21 = .ok (.if_icmp .ne 6, 3) := by decide +kernel
theorem dX7_timesIn_24 : decode cX7_timesIn 24 = .ok (.iinc 3 1, 3) := by decide +kernel
theorem dX7_timesIn_27 : decode cX7_timesIn 27 = .ok (.iinc 4 1, 3) := by decide +kernel
theorem dX7_timesIn_30 : decode cX7_timesIn 30 = .ok (.goto (-25), 3) := by decide +kernel
theorem dX7_timesIn_33 : decode cX7_timesIn 33 = .ok (.iload_n 3, 1) := by decide +kernel
theorem dX7_timesIn_34 : decode cX7_timesIn 34 = .ok (.ireturn, 1) := by decide +kernel
set_option maxRecDepth 20000 in
theorem ggX7_slipped_X7_without : GoodIn wsX7_slipped wsX7_without := goodIn_r _ [4, 5, 6, 3, 7, 8, 9, 10, 11, 12, 13, 14] (by decide +kernel) (by decide +kernel)
set_option maxRecDepth 20000 in
theorem gX7_slipped_X7_without : GoodIn wsX7_slipped (va_wsS RX7 30 yX7_without wsX7_without) := goodIn_app (goodIn_of _ (by decide +kernel)) ggX7_slipped_X7_without
set_option maxRecDepth 20000 in
theorem ggX7_slipped_X7_changed : GoodIn wsX7_slipped wsX7_changed := goodIn_r _ [17, 5, 6, 3, 7, 8, 9, 10, 11, 12, 13, 14] (by decide +kernel) (by decide +kernel)
set_option maxRecDepth 20000 in
theorem gX7_slipped_X7_changed : GoodIn wsX7_slipped (va_wsS RX7 34 yX7_changed wsX7_changed) := goodIn_app (goodIn_of _ (by decide +kernel)) ggX7_slipped_X7_changed
set_option maxRecDepth 20000 in
theorem ggX7_slipped_X7_turnedAbout : GoodIn wsX7_slipped wsX7_turnedAbout := goodIn_r _ [20, 5, 6, 3, 7, 8, 9, 10, 11, 15, 16, 17, 12, 13, 14] (by decide +kernel) (by decide +kernel)
set_option maxRecDepth 20000 in
theorem gX7_slipped_X7_turnedAbout : GoodIn wsX7_slipped (va_wsS RX7 38 yX7_turnedAbout wsX7_turnedAbout) := goodIn_app (goodIn_of _ (by decide +kernel)) ggX7_slipped_X7_turnedAbout
set_option maxRecDepth 20000 in
theorem ggX7_slipped_X7_upTo : GoodIn wsX7_slipped wsX7_upTo := goodIn_r _ [23, 5, 6, 3, 7, 8, 9, 10, 11, 12, 13, 14] (by decide +kernel) (by decide +kernel)
set_option maxRecDepth 20000 in
theorem gX7_slipped_X7_upTo : GoodIn wsX7_slipped (va_wsS RX7 41 yX7_upTo wsX7_upTo) := goodIn_app (goodIn_of _ (by decide +kernel)) ggX7_slipped_X7_upTo
set_option maxRecDepth 20000 in
theorem ggX7_slipped_X7_mended : GoodIn wsX7_slipped wsX7_mended := goodIn_r _ [26, 27, 28, 3, 29, 30, 31, 32, 5, 6, 7, 8, 9, 10, 11, 12, 13, 14] (by decide +kernel) (by decide +kernel)
set_option maxRecDepth 20000 in
theorem gX7_slipped_X7_mended : GoodIn wsX7_slipped (va_wsS RX7 44 yX7_mended wsX7_mended) := goodIn_app (goodIn_of _ (by decide +kernel)) ggX7_slipped_X7_mended
theorem dX7_slipped_0 : decode cX7_slipped 0 = .ok (.iload_n 2, 1) := by decide +kernel
theorem dX7_slipped_1 : decode cX7_slipped 1 = .ok (.tableswitch 76 1 5 #[35, 41, 49, 55, 65], 35) := by decide +kernel
theorem dX7_slipped_36 : decode cX7_slipped 36 = .ok (.lload_n 0, 1) := by decide +kernel
theorem dX7_slipped_37 : decode cX7_slipped 37 = .ok (.iload_n 3, 1) := by decide +kernel
theorem dX7_slipped_38 : decode cX7_slipped 38 = .ok (.invokestatic 30, 3) := by decide +kernel
theorem dX7_slipped_41 : decode cX7_slipped 41 = .ok (.lreturn, 1) := by decide +kernel
theorem dX7_slipped_42 : decode cX7_slipped 42 = .ok (.lload_n 0, 1) := by decide +kernel
theorem dX7_slipped_43 : decode cX7_slipped 43 = .ok (.iload_n 3, 1) := by decide +kernel
theorem dX7_slipped_44 : decode cX7_slipped 44 = .ok (.iload 4, 2) := by decide +kernel
theorem dX7_slipped_46 : decode cX7_slipped 46 = .ok (.invokestatic 34, 3) := by decide +kernel
theorem dX7_slipped_49 : decode cX7_slipped 49 = .ok (.lreturn, 1) := by decide +kernel
theorem dX7_slipped_50 : decode cX7_slipped 50 = .ok (.lload_n 0, 1) := by decide +kernel
theorem dX7_slipped_51 : decode cX7_slipped 51 = .ok (.iload_n 3, 1) := by decide +kernel
theorem dX7_slipped_52 : decode cX7_slipped 52 = .ok (.invokestatic 38, 3) := by decide +kernel
theorem dX7_slipped_55 : decode cX7_slipped 55 = .ok (.lreturn, 1) := by decide +kernel
theorem dX7_slipped_56 : decode cX7_slipped 56 = .ok (.lload_n 0, 1) := by decide +kernel
theorem dX7_slipped_57 : decode cX7_slipped 57 = .ok (.iload_n 3, 1) := by decide +kernel
theorem dX7_slipped_58 : decode cX7_slipped 58 = .ok (.invokestatic 30, 3) := by decide +kernel
theorem dX7_slipped_61 : decode cX7_slipped 61 = .ok (.iload_n 3, 1) := by decide +kernel
theorem dX7_slipped_62 : decode cX7_slipped 62 = .ok (.invokestatic 41, 3) := by decide +kernel
theorem dX7_slipped_65 : decode cX7_slipped 65 = .ok (.lreturn, 1) := by decide +kernel
theorem dX7_slipped_66 : decode cX7_slipped 66 = .ok (.lload_n 0, 1) := by decide +kernel
theorem dX7_slipped_67 : decode cX7_slipped 67 = .ok (.iload_n 3, 1) := by decide +kernel
theorem dX7_slipped_68 : decode cX7_slipped 68 = .ok (.iload 4, 2) := by decide +kernel
theorem dX7_slipped_70 : decode cX7_slipped 70 = .ok (.invokestatic 34, 3) := by decide +kernel
theorem dX7_slipped_73 : decode cX7_slipped 73 = .ok (.invokestatic 44, 3) := by decide +kernel
theorem dX7_slipped_76 : decode cX7_slipped 76 = .ok (.lreturn, 1) := by decide +kernel
theorem dX7_slipped_77 : decode cX7_slipped 77 = .ok (.lload_n 0, 1) := by decide +kernel
theorem dX7_slipped_78 : decode cX7_slipped 78 = .ok (.lreturn, 1) := by decide +kernel
set_option maxRecDepth 20000 in
theorem ggX7_without_X7_sizeOf : GoodIn wsX7_without wsX7_sizeOf := goodIn_r _ [4, 5] (by decide +kernel) (by decide +kernel)
set_option maxRecDepth 20000 in
theorem gX7_without_X7_sizeOf : GoodIn wsX7_without (va_wsS RX7 11 yX7_sizeOf wsX7_sizeOf) := goodIn_app (goodIn_of _ (by decide +kernel)) ggX7_without_X7_sizeOf
set_option maxRecDepth 20000 in
theorem ggX7_without_X7_partIn : GoodIn wsX7_without wsX7_partIn := goodIn_r _ [8] (by decide +kernel) (by decide +kernel)
set_option maxRecDepth 20000 in
theorem gX7_without_X7_partIn : GoodIn wsX7_without (va_wsS RX7 20 yX7_partIn wsX7_partIn) := goodIn_app (goodIn_of _ (by decide +kernel)) ggX7_without_X7_partIn
set_option maxRecDepth 20000 in
theorem ggX7_without_X7_added : GoodIn wsX7_without wsX7_added := goodIn_r _ [11, 1, 2, 3, 4, 5] (by decide +kernel) (by decide +kernel)
set_option maxRecDepth 20000 in
theorem gX7_without_X7_added : GoodIn wsX7_without (va_wsS RX7 48 yX7_added wsX7_added) := goodIn_app (goodIn_of _ (by decide +kernel)) ggX7_without_X7_added
theorem dX7_without_0 : decode cX7_without 0 = .ok (.lconst 0, 1) := by decide +kernel
theorem dX7_without_1 : decode cX7_without 1 = .ok (.lstore_n 3, 1) := by decide +kernel
theorem dX7_without_2 : decode cX7_without 2 = .ok (.iconst 0, 1) := by decide +kernel
theorem dX7_without_3 : decode cX7_without 3 = .ok (.istore 5, 2) := by decide +kernel
theorem dX7_without_5 : decode cX7_without 5 = .ok (.iload 5, 2) := by decide +kernel
theorem dX7_without_7 : decode cX7_without 7 = .ok (.lload_n 0, 1) := by decide +kernel
theorem dX7_without_8 : decode cX7_without 8 = .ok (.invokestatic 11, 3) := by decide +kernel
theorem dX7_without_11 : decode cX7_without 11 = .ok (.if_icmp .ge 26, 3) := by decide +kernel
theorem dX7_without_14 : decode cX7_without 14 = .ok (.iload 5, 2) := by decide +kernel
theorem dX7_without_16 : decode cX7_without 16 = .ok (.iload_n 2, 1) := by decide +kernel
theorem dX7_without_17 : decode cX7_without 17 = .ok (.if_icmp .eq 14, 3) := by decide +kernel
theorem dX7_without_20 : decode cX7_without 20 = .ok (.lload_n 3, 1) := by decide +kernel
theorem dX7_without_21 : decode cX7_without 21 = .ok (.lload_n 0, 1) := by decide +kernel
theorem dX7_without_22 : decode cX7_without 22 = .ok (.iload 5, 2) := by decide +kernel
theorem dX7_without_24 : decode cX7_without 24 = .ok (.invokestatic 20, 3) := by decide +kernel
theorem dX7_without_27 : decode cX7_without 27 = .ok (.invokestatic 48, 3) := by decide +kernel
theorem dX7_without_30 : decode cX7_without 30 = .ok (.lstore_n 3, 1) := by decide +kernel
theorem dX7_without_31 : decode cX7_without 31 = .ok (.iinc 5 1, 3) := by decide +kernel
theorem dX7_without_34 : decode cX7_without 34 = .ok (.goto (-29), 3) := by decide +kernel
theorem dX7_without_37 : decode cX7_without 37 = .ok (.lload_n 3, 1) := by decide +kernel
theorem dX7_without_38 : decode cX7_without 38 = .ok (.lreturn, 1) := by decide +kernel
set_option maxRecDepth 20000 in
theorem ggX7_changed_X7_sizeOf : GoodIn wsX7_changed wsX7_sizeOf := goodIn_r _ [4, 5] (by decide +kernel) (by decide +kernel)
set_option maxRecDepth 20000 in
theorem gX7_changed_X7_sizeOf : GoodIn wsX7_changed (va_wsS RX7 11 yX7_sizeOf wsX7_sizeOf) := goodIn_app (goodIn_of _ (by decide +kernel)) ggX7_changed_X7_sizeOf
set_option maxRecDepth 20000 in
theorem ggX7_changed_X7_partIn : GoodIn wsX7_changed wsX7_partIn := goodIn_r _ [8] (by decide +kernel) (by decide +kernel)
set_option maxRecDepth 20000 in
theorem gX7_changed_X7_partIn : GoodIn wsX7_changed (va_wsS RX7 20 yX7_partIn wsX7_partIn) := goodIn_app (goodIn_of _ (by decide +kernel)) ggX7_changed_X7_partIn
set_option maxRecDepth 20000 in
theorem ggX7_changed_X7_added : GoodIn wsX7_changed wsX7_added := goodIn_r _ [11, 1, 2, 3, 4, 5] (by decide +kernel) (by decide +kernel)
set_option maxRecDepth 20000 in
theorem gX7_changed_X7_added : GoodIn wsX7_changed (va_wsS RX7 48 yX7_added wsX7_added) := goodIn_app (goodIn_of _ (by decide +kernel)) ggX7_changed_X7_added
theorem dX7_changed_0 : decode cX7_changed 0 = .ok (.lconst 0, 1) := by decide +kernel
theorem dX7_changed_1 : decode cX7_changed 1 = .ok (.lstore 4, 2) := by decide +kernel
theorem dX7_changed_3 : decode cX7_changed 3 = .ok (.iconst 0, 1) := by decide +kernel
theorem dX7_changed_4 : decode cX7_changed 4 = .ok (.istore 6, 2) := by decide +kernel
theorem dX7_changed_6 : decode cX7_changed 6 = .ok (.iload 6, 2) := by decide +kernel
theorem dX7_changed_8 : decode cX7_changed 8 = .ok (.lload_n 0, 1) := by decide +kernel
theorem dX7_changed_9 : decode cX7_changed 9 = .ok (.invokestatic 11, 3) := by decide +kernel
theorem dX7_changed_12 : decode cX7_changed 12 = .ok (.if_icmp .ge 32, 3) := by decide +kernel
theorem dX7_changed_15 : decode cX7_changed 15 = .ok (.lload 4, 2) := by decide +kernel
theorem dX7_changed_17 : decode cX7_changed 17 = .ok (.iload 6, 2) := by decide +kernel
theorem dX7_changed_19 : decode cX7_changed 19 = .ok (.iload_n 2, 1) := by decide +kernel
theorem dX7_changed_20 : decode cX7_changed 20 = .ok (.if_icmp .ne 7, 3) := by decide +kernel
theorem dX7_changed_23 : decode cX7_changed 23 = .ok (.iload_n 3, 1) := by decide +kernel
theorem dX7_changed_24 : decode cX7_changed 24 = .ok (.goto 9, 3) := by decide +kernel
theorem dX7_changed_27 : decode cX7_changed 27 = .ok (.lload_n 0, 1) := by decide +kernel
theorem dX7_changed_28 : decode cX7_changed 28 = .ok (.iload 6, 2) := by decide +kernel
theorem dX7_changed_30 : decode cX7_changed 30 = .ok (.invokestatic 20, 3) := by decide +kernel
theorem dX7_changed_33 : decode cX7_changed 33 = .ok (.invokestatic 48, 3) := by decide +kernel
theorem dX7_changed_36 : decode cX7_changed 36 = .ok (.lstore 4, 2) := by decide +kernel
theorem dX7_changed_38 : decode cX7_changed 38 = .ok (.iinc 6 1, 3) := by decide +kernel
theorem dX7_changed_41 : decode cX7_changed 41 = .ok (.goto (-35), 3) := by decide +kernel
theorem dX7_changed_44 : decode cX7_changed 44 = .ok (.lload 4, 2) := by decide +kernel
theorem dX7_changed_46 : decode cX7_changed 46 = .ok (.lreturn, 1) := by decide +kernel
set_option maxRecDepth 20000 in
theorem ggX7_turnedAbout_X7_sizeOf : GoodIn wsX7_turnedAbout wsX7_sizeOf := goodIn_r _ [4, 5] (by decide +kernel) (by decide +kernel)
set_option maxRecDepth 20000 in
theorem gX7_turnedAbout_X7_sizeOf : GoodIn wsX7_turnedAbout (va_wsS RX7 11 yX7_sizeOf wsX7_sizeOf) := goodIn_app (goodIn_of _ (by decide +kernel)) ggX7_turnedAbout_X7_sizeOf
set_option maxRecDepth 20000 in
theorem ggX7_turnedAbout_X7_partIn : GoodIn wsX7_turnedAbout wsX7_partIn := goodIn_r _ [8] (by decide +kernel) (by decide +kernel)
set_option maxRecDepth 20000 in
theorem gX7_turnedAbout_X7_partIn : GoodIn wsX7_turnedAbout (va_wsS RX7 20 yX7_partIn wsX7_partIn) := goodIn_app (goodIn_of _ (by decide +kernel)) ggX7_turnedAbout_X7_partIn
set_option maxRecDepth 20000 in
theorem ggX7_turnedAbout_X7_changed : GoodIn wsX7_turnedAbout wsX7_changed := goodIn_r _ [11, 1, 2, 3, 4, 5, 6, 7, 8, 12, 13, 14] (by decide +kernel) (by decide +kernel)
set_option maxRecDepth 20000 in
theorem gX7_turnedAbout_X7_changed : GoodIn wsX7_turnedAbout (va_wsS RX7 34 yX7_changed wsX7_changed) := goodIn_app (goodIn_of _ (by decide +kernel)) ggX7_turnedAbout_X7_changed
theorem dX7_turnedAbout_0 : decode cX7_turnedAbout 0 = .ok (.iload_n 2, 1) := by decide +kernel
theorem dX7_turnedAbout_1 : decode cX7_turnedAbout 1 = .ok (.iconst 1, 1) := by decide +kernel
theorem dX7_turnedAbout_2 : decode cX7_turnedAbout 2 = .ok (.iadd, 1) := by decide +kernel
theorem dX7_turnedAbout_3 : decode cX7_turnedAbout 3 = .ok (.lload_n 0, 1) := by decide +kernel
theorem dX7_turnedAbout_4 : decode cX7_turnedAbout 4 = .ok (.invokestatic 11, 3) := by decide +kernel
theorem dX7_turnedAbout_7 : decode cX7_turnedAbout 7 = .ok (.if_icmp .lt 5, 3) := by decide +kernel
theorem dX7_turnedAbout_10 : decode cX7_turnedAbout 10 = .ok (.lload_n 0, 1) := by decide +kernel
theorem dX7_turnedAbout_11 : decode cX7_turnedAbout 11 = .ok (.lreturn, 1) := by decide +kernel
theorem dX7_turnedAbout_12 : decode cX7_turnedAbout 12 = .ok (.lload_n 0, 1) := by decide +kernel
theorem dX7_turnedAbout_13 : decode cX7_turnedAbout 13 = .ok (.iload_n 2, 1) := by decide +kernel
theorem dX7_turnedAbout_14 : decode cX7_turnedAbout 14 = .ok (.invokestatic 20, 3) := by decide +kernel
theorem dX7_turnedAbout_17 : decode cX7_turnedAbout 17 = .ok (.istore_n 3, 1) := by decide +kernel
theorem dX7_turnedAbout_18 : decode cX7_turnedAbout 18 = .ok (.lload_n 0, 1) := by decide +kernel
theorem dX7_turnedAbout_19 : decode cX7_turnedAbout 19 = .ok (.iload_n 2, 1) := by decide +kernel
theorem dX7_turnedAbout_20 : decode cX7_turnedAbout 20 = .ok (.lload_n 0, 1) := by decide +kernel
theorem dX7_turnedAbout_21 : decode cX7_turnedAbout 21 = .ok (.iload_n 2, 1) := by decide +kernel
theorem dX7_turnedAbout_22 : decode cX7_turnedAbout 22 = .ok (.iconst 1, 1) := by decide +kernel
theorem dX7_turnedAbout_23 : decode cX7_turnedAbout 23 = .ok (.iadd, 1) := by decide +kernel
theorem dX7_turnedAbout_24 : decode cX7_turnedAbout 24 = .ok (.invokestatic 20, 3) := by decide +kernel
theorem dX7_turnedAbout_27 : decode cX7_turnedAbout 27 = .ok (.invokestatic 34, 3) := by decide +kernel
theorem dX7_turnedAbout_30 : decode cX7_turnedAbout 30 = .ok (.iload_n 2, 1) := by decide +kernel
theorem dX7_turnedAbout_31 : decode cX7_turnedAbout 31 = .ok (.iconst 1, 1) := by decide +kernel
theorem dX7_turnedAbout_32 : decode cX7_turnedAbout 32 = .ok (.iadd, 1) := by decide +kernel
theorem dX7_turnedAbout_33 : decode cX7_turnedAbout 33 = .ok (.iload_n 3, 1) := by decide +kernel
theorem dX7_turnedAbout_34 : decode cX7_turnedAbout 34 = .ok (.invokestatic 34, 3) := by decide +kernel
theorem dX7_turnedAbout_37 : decode cX7_turnedAbout 37 = .ok (.lreturn, 1) := by decide +kernel
set_option maxRecDepth 20000 in
theorem ggX7_upTo_X7_sizeOf : GoodIn wsX7_upTo wsX7_sizeOf := goodIn_r _ [4, 5] (by decide +kernel) (by decide +kernel)
set_option maxRecDepth 20000 in
theorem gX7_upTo_X7_sizeOf : GoodIn wsX7_upTo (va_wsS RX7 11 yX7_sizeOf wsX7_sizeOf) := goodIn_app (goodIn_of _ (by decide +kernel)) ggX7_upTo_X7_sizeOf
set_option maxRecDepth 20000 in
theorem ggX7_upTo_X7_partIn : GoodIn wsX7_upTo wsX7_partIn := goodIn_r _ [8] (by decide +kernel) (by decide +kernel)
set_option maxRecDepth 20000 in
theorem gX7_upTo_X7_partIn : GoodIn wsX7_upTo (va_wsS RX7 20 yX7_partIn wsX7_partIn) := goodIn_app (goodIn_of _ (by decide +kernel)) ggX7_upTo_X7_partIn
set_option maxRecDepth 20000 in
theorem ggX7_upTo_X7_added : GoodIn wsX7_upTo wsX7_added := goodIn_r _ [11, 1, 2, 3, 4, 5] (by decide +kernel) (by decide +kernel)
set_option maxRecDepth 20000 in
theorem gX7_upTo_X7_added : GoodIn wsX7_upTo (va_wsS RX7 48 yX7_added wsX7_added) := goodIn_app (goodIn_of _ (by decide +kernel)) ggX7_upTo_X7_added
theorem dX7_upTo_0 : decode cX7_upTo 0 = .ok (.lconst 0, 1) := by decide +kernel
theorem dX7_upTo_1 : decode cX7_upTo 1 = .ok (.lstore_n 3, 1) := by decide +kernel
theorem dX7_upTo_2 : decode cX7_upTo 2 = .ok (.iconst 0, 1) := by decide +kernel
theorem dX7_upTo_3 : decode cX7_upTo 3 = .ok (.istore 5, 2) := by decide +kernel
theorem dX7_upTo_5 : decode cX7_upTo 5 = .ok (.iload 5, 2) := by decide +kernel
theorem dX7_upTo_7 : decode cX7_upTo 7 = .ok (.lload_n 0, 1) := by decide +kernel
theorem dX7_upTo_8 : decode cX7_upTo 8 = .ok (.invokestatic 11, 3) := by decide +kernel
theorem dX7_upTo_11 : decode cX7_upTo 11 = .ok (.if_icmp .ge 26, 3) := by decide +kernel
theorem dX7_upTo_14 : decode cX7_upTo 14 = .ok (.iload 5, 2) := by decide +kernel
theorem dX7_upTo_16 : decode cX7_upTo 16 = .ok (.iload_n 2, 1) := by decide +kernel
theorem dX7_upTo_17 : decode cX7_upTo 17 = .ok (.if_icmp .ge 20, 3) := by decide +kernel
theorem dX7_upTo_20 : decode cX7_upTo 20 = .ok (.lload_n 3, 1) := by decide +kernel
theorem dX7_upTo_21 : decode cX7_upTo 21 = .ok (.lload_n 0, 1) := by decide +kernel
theorem dX7_upTo_22 : decode cX7_upTo 22 = .ok (.iload 5, 2) := by decide +kernel
theorem dX7_upTo_24 : decode cX7_upTo 24 = .ok (.invokestatic 20, 3) := by decide +kernel
theorem dX7_upTo_27 : decode cX7_upTo 27 = .ok (.invokestatic 48, 3) := by decide +kernel
theorem dX7_upTo_30 : decode cX7_upTo 30 = .ok (.lstore_n 3, 1) := by decide +kernel
theorem dX7_upTo_31 : decode cX7_upTo 31 = .ok (.iinc 5 1, 3) := by decide +kernel
theorem dX7_upTo_34 : decode cX7_upTo 34 = .ok (.goto (-29), 3) := by decide +kernel
theorem dX7_upTo_37 : decode cX7_upTo 37 = .ok (.lload_n 3, 1) := by decide +kernel
theorem dX7_upTo_38 : decode cX7_upTo 38 = .ok (.lreturn, 1) := by decide +kernel
set_option maxRecDepth 20000 in
theorem ggX7_mended_X7_has : GoodIn wsX7_mended wsX7_has := goodIn_r _ [4, 5, 6, 3, 7, 8, 9, 10, 11, 12, 13, 14] (by decide +kernel) (by decide +kernel)
set_option maxRecDepth 20000 in
theorem gX7_mended_X7_has : GoodIn wsX7_mended (va_wsS RX7 51 yX7_has wsX7_has) := goodIn_app (goodIn_of _ (by decide +kernel)) ggX7_mended_X7_has
set_option maxRecDepth 20000 in
theorem ggX7_mended_X7_added : GoodIn wsX7_mended wsX7_added := goodIn_r _ [17, 8, 9, 3, 10, 11] (by decide +kernel) (by decide +kernel)
set_option maxRecDepth 20000 in
theorem gX7_mended_X7_added : GoodIn wsX7_mended (va_wsS RX7 48 yX7_added wsX7_added) := goodIn_app (goodIn_of _ (by decide +kernel)) ggX7_mended_X7_added
theorem dX7_mended_0 : decode cX7_mended 0 = .ok (.lload_n 0, 1) := by decide +kernel
theorem dX7_mended_1 : decode cX7_mended 1 = .ok (.bipush 9, 2) := by decide +kernel
theorem dX7_mended_3 : decode cX7_mended 3 = .ok (.invokestatic 51, 3) := by decide +kernel
theorem dX7_mended_6 : decode cX7_mended 6 = .ok (.ifCond .eq 7, 3) := by decide +kernel
theorem dX7_mended_9 : decode cX7_mended 9 = .ok (.lload_n 0, 1) := by decide +kernel
theorem dX7_mended_10 : decode cX7_mended 10 = .ok (.goto 9, 3) := by decide +kernel
theorem dX7_mended_13 : decode cX7_mended 13 = .ok (.lload_n 0, 1) := by decide +kernel
theorem dX7_mended_14 : decode cX7_mended 14 = .ok (.bipush 9, 2) := by decide +kernel
theorem dX7_mended_16 : decode cX7_mended 16 = .ok (.invokestatic 48, 3) := by decide +kernel
theorem dX7_mended_19 : decode cX7_mended 19 = .ok (.lreturn, 1) := by decide +kernel
set_option maxRecDepth 20000 in
theorem ggX7_placesOf_X7_sizeOf : GoodIn wsX7_placesOf wsX7_sizeOf := goodIn_r _ [4, 5] (by decide +kernel) (by decide +kernel)
set_option maxRecDepth 20000 in
theorem gX7_placesOf_X7_sizeOf : GoodIn wsX7_placesOf (va_wsS RX7 11 yX7_sizeOf wsX7_sizeOf) := goodIn_app (goodIn_of _ (by decide +kernel)) ggX7_placesOf_X7_sizeOf
set_option maxRecDepth 20000 in
theorem ggX7_placesOf_X7_standsIn : GoodIn wsX7_placesOf wsX7_standsIn := goodIn_r _ [8, 1, 2, 3, 4, 5, 9, 10, 11] (by decide +kernel) (by decide +kernel)
set_option maxRecDepth 20000 in
theorem gX7_placesOf_X7_standsIn : GoodIn wsX7_placesOf (va_wsS RX7 55 yX7_standsIn wsX7_standsIn) := goodIn_app (goodIn_of _ (by decide +kernel)) ggX7_placesOf_X7_standsIn
theorem dX7_placesOf_0 : decode cX7_placesOf 0 = .ok (.iconst 0, 1) := by decide +kernel
theorem dX7_placesOf_1 : decode cX7_placesOf 1 = .ok (.istore 4, 2) := by decide +kernel
theorem dX7_placesOf_3 : decode cX7_placesOf 3 = .ok (.iconst 0, 1) := by decide +kernel
theorem dX7_placesOf_4 : decode cX7_placesOf 4 = .ok (.istore 5, 2) := by decide +kernel
theorem dX7_placesOf_6 : decode cX7_placesOf 6 = .ok (.iload 5, 2) := by decide +kernel
theorem dX7_placesOf_8 : decode cX7_placesOf 8 = .ok (.lload_n 0, 1) := by decide +kernel
theorem dX7_placesOf_9 : decode cX7_placesOf 9 = .ok (.invokestatic 11, 3) := by decide +kernel
theorem dX7_placesOf_12 : decode cX7_placesOf 12 = .ok (.iadd, 1) := by decide +kernel
theorem dX7_placesOf_13 : decode cX7_placesOf 13 = .ok (.lload_n 2, 1) := by decide +kernel
theorem dX7_placesOf_14 : decode cX7_placesOf 14 = .ok (.invokestatic 11, 3) := by decide +kernel
theorem dX7_placesOf_17 : decode cX7_placesOf 17 = .ok (.if_icmp .gt 28, 3) := by decide +kernel
theorem dX7_placesOf_20 : decode cX7_placesOf 20 = .ok (.lload_n 0, 1) := by decide +kernel
theorem dX7_placesOf_21 : decode cX7_placesOf 21 = .ok (.lload_n 2, 1) := by decide +kernel
theorem dX7_placesOf_22 : decode cX7_placesOf 22 = .ok (.iload 5, 2) := by decide +kernel
theorem dX7_placesOf_24 : decode cX7_placesOf 24 = .ok (.invokestatic 55, 3) := by decide +kernel
theorem dX7_placesOf_27 : decode cX7_placesOf 27 = .ok (.ifCond .eq 12, 3) := by decide +kernel
theorem dX7_placesOf_30 : decode cX7_placesOf 30 = .ok (.iload 4, 2) := by decide +kernel
theorem dX7_placesOf_32 : decode cX7_placesOf 32 = .ok (.iconst 1, 1) := by decide +kernel
theorem dX7_placesOf_33 : decode cX7_placesOf 33 = .ok (.iload 5, 2) := by decide +kernel
theorem dX7_placesOf_35 : decode cX7_placesOf 35 = .ok (.ishl, 1) := by decide +kernel
theorem dX7_placesOf_36 : decode cX7_placesOf 36 = .ok (.ior, 1) := by decide +kernel
theorem dX7_placesOf_37 : decode cX7_placesOf 37 = .ok (.istore 4, 2) := by decide +kernel
theorem dX7_placesOf_39 : decode cX7_placesOf 39 = .ok (.iinc 5 1, 3) := by decide +kernel
theorem dX7_placesOf_42 : decode cX7_placesOf 42 = .ok (.goto (-36), 3) := by decide +kernel
theorem dX7_placesOf_45 : decode cX7_placesOf 45 = .ok (.iload 4, 2) := by decide +kernel
theorem dX7_placesOf_47 : decode cX7_placesOf 47 = .ok (.ireturn, 1) := by decide +kernel
set_option maxRecDepth 20000 in
theorem ggX7_standsIn_X7_sizeOf : GoodIn wsX7_standsIn wsX7_sizeOf := goodIn_r _ [4, 5] (by decide +kernel) (by decide +kernel)
set_option maxRecDepth 20000 in
theorem gX7_standsIn_X7_sizeOf : GoodIn wsX7_standsIn (va_wsS RX7 11 yX7_sizeOf wsX7_sizeOf) := goodIn_app (goodIn_of _ (by decide +kernel)) ggX7_standsIn_X7_sizeOf
set_option maxRecDepth 20000 in
theorem ggX7_standsIn_X7_partIn : GoodIn wsX7_standsIn wsX7_partIn := goodIn_r _ [8] (by decide +kernel) (by decide +kernel)
set_option maxRecDepth 20000 in
theorem gX7_standsIn_X7_partIn : GoodIn wsX7_standsIn (va_wsS RX7 20 yX7_partIn wsX7_partIn) := goodIn_app (goodIn_of _ (by decide +kernel)) ggX7_standsIn_X7_partIn
theorem dX7_standsIn_0 : decode cX7_standsIn 0 = .ok (.iconst 0, 1) := by decide +kernel
theorem dX7_standsIn_1 : decode cX7_standsIn 1 = .ok (.istore 5, 2) := by decide +kernel
theorem dX7_standsIn_3 : decode cX7_standsIn 3 = .ok (.iload 5, 2) := by decide +kernel
theorem dX7_standsIn_5 : decode cX7_standsIn 5 = .ok (.lload_n 0, 1) := by decide +kernel
theorem dX7_standsIn_6 : decode cX7_standsIn 6 = .ok (.invokestatic 11, 3) := by decide +kernel
theorem dX7_standsIn_9 : decode cX7_standsIn 9 = .ok (.if_icmp .ge 40, 3) := by decide +kernel
theorem dX7_standsIn_12 : decode cX7_standsIn 12 = .ok (.lload_n 0, 1) := by decide +kernel
theorem dX7_standsIn_13 : decode cX7_standsIn 13 = .ok (.iload 5, 2) := by decide +kernel
theorem dX7_standsIn_15 : decode cX7_standsIn 15 = .ok (.invokestatic 20, 3) := by decide +kernel
theorem dX7_standsIn_18 : decode cX7_standsIn 18 = .ok (.istore 6, 2) := by decide +kernel
theorem dX7_standsIn_20 : decode cX7_standsIn 20 = .ok (.iload 6, 2) := by decide +kernel
theorem dX7_standsIn_22 : decode cX7_standsIn 22 = .ok (.bipush 8, 2) := by decide +kernel
theorem dX7_standsIn_24 : decode cX7_standsIn 24 = .ok (.if_icmp .eq 19, 3) := by decide +kernel
theorem dX7_standsIn_27 : decode cX7_standsIn 27 = .ok (.iload 6, 2) := by decide +kernel
theorem dX7_standsIn_29 : decode cX7_standsIn 29 = .ok (.lload_n 2, 1) := by decide +kernel
theorem dX7_standsIn_30 : decode cX7_standsIn 30 = .ok (.iload 4, 2) := by decide +kernel
theorem dX7_standsIn_32 : decode cX7_standsIn 32 = .ok (.iload 5, 2) := by decide +kernel
theorem dX7_standsIn_34 : decode cX7_standsIn 34 = .ok (.iadd, 1) := by decide +kernel
theorem dX7_standsIn_35 : decode cX7_standsIn 35 = .ok (.invokestatic 20, 3) := by decide +kernel
theorem dX7_standsIn_38 : decode cX7_standsIn 38 = .ok (.if_icmp .eq 5, 3) := by decide +kernel
theorem dX7_standsIn_41 : decode cX7_standsIn 41 = .ok (.iconst 0, 1) := by decide +kernel
theorem dX7_standsIn_42 : decode cX7_standsIn 42 = .ok (.ireturn, 1) := by decide +kernel
theorem dX7_standsIn_43 : decode cX7_standsIn 43 = .ok (.iinc 5 1, 3) := by decide +kernel
theorem dX7_standsIn_46 : decode cX7_standsIn 46 = .ok (.goto (-43), 3) := by decide +kernel
theorem dX7_standsIn_49 : decode cX7_standsIn 49 = .ok (.iconst 1, 1) := by decide +kernel
theorem dX7_standsIn_50 : decode cX7_standsIn 50 = .ok (.ireturn, 1) := by decide +kernel
set_option maxRecDepth 20000 in
theorem ggX7_isCovered_X7_placesOf : GoodIn wsX7_isCovered wsX7_placesOf := goodIn_r _ [4, 5, 6, 3, 7, 8, 9, 10, 11, 12, 13, 14] (by decide +kernel) (by decide +kernel)
set_option maxRecDepth 20000 in
theorem gX7_isCovered_X7_placesOf : GoodIn wsX7_isCovered (va_wsS RX7 59 yX7_placesOf wsX7_placesOf) := goodIn_app (goodIn_of _ (by decide +kernel)) ggX7_isCovered_X7_placesOf
set_option maxRecDepth 20000 in
theorem ggX7_isCovered_X7_sizeOf : GoodIn wsX7_isCovered wsX7_sizeOf := goodIn_r _ [7, 8] (by decide +kernel) (by decide +kernel)
set_option maxRecDepth 20000 in
theorem gX7_isCovered_X7_sizeOf : GoodIn wsX7_isCovered (va_wsS RX7 11 yX7_sizeOf wsX7_sizeOf) := goodIn_app (goodIn_of _ (by decide +kernel)) ggX7_isCovered_X7_sizeOf
theorem dX7_isCovered_0 : decode cX7_isCovered 0 = .ok (.lload_n 2, 1) := by decide +kernel
theorem dX7_isCovered_1 : decode cX7_isCovered 1 = .ok (.lconst 0, 1) := by decide +kernel
theorem dX7_isCovered_2 : decode cX7_isCovered 2 = .ok (.lcmp, 1) := by decide +kernel
theorem dX7_isCovered_3 : decode cX7_isCovered 3 = .ok (.ifCond .ne 5, 3) := by decide +kernel
theorem dX7_isCovered_6 : decode cX7_isCovered 6 = .ok (.iconst 0, 1) := by decide +kernel
theorem dX7_isCovered_7 : decode cX7_isCovered 7 = .ok (.ireturn, 1) := by decide +kernel
theorem dX7_isCovered_8 : decode cX7_isCovered 8 = .ok (.lload_n 2, 1) := by decide +kernel
theorem dX7_isCovered_9 : decode cX7_isCovered 9 = .ok (.lload_n 0, 1) := by decide +kernel
theorem dX7_isCovered_10 : decode cX7_isCovered 10 = .ok (.invokestatic 59, 3) := by decide +kernel
theorem dX7_isCovered_13 : decode cX7_isCovered 13 = .ok (.istore 4, 2) := by decide +kernel
theorem dX7_isCovered_15 : decode cX7_isCovered 15 = .ok (.iconst 0, 1) := by decide +kernel
theorem dX7_isCovered_16 : decode cX7_isCovered 16 = .ok (.istore 5, 2) := by decide +kernel
theorem dX7_isCovered_18 : decode cX7_isCovered 18 = .ok (.iconst 0, 1) := by decide +kernel
theorem dX7_isCovered_19 : decode cX7_isCovered 19 = .ok (.istore 6, 2) := by decide +kernel
theorem dX7_isCovered_21 : decode cX7_isCovered 21 = .ok (.iload 6, 2) := by decide +kernel
theorem dX7_isCovered_23 : decode cX7_isCovered 23 = .ok (.lload_n 2, 1) := by decide +kernel
theorem dX7_isCovered_24 : decode cX7_isCovered 24 = .ok (.invokestatic 11, 3) := by decide +kernel
theorem dX7_isCovered_27 : decode cX7_isCovered 27 = .ok (.if_icmp .ge 19, 3) := by decide +kernel
theorem dX7_isCovered_30 : decode cX7_isCovered 30 = .ok (.iload 5, 2) := by decide +kernel
theorem dX7_isCovered_32 : decode cX7_isCovered 32 = .ok (.iload 4, 2) := by decide +kernel
theorem dX7_isCovered_34 : decode cX7_isCovered 34 = .ok (.iload 6, 2) := by decide +kernel
theorem dX7_isCovered_36 : decode cX7_isCovered 36 = .ok (.ishl, 1) := by decide +kernel
theorem dX7_isCovered_37 : decode cX7_isCovered 37 = .ok (.ior, 1) := by decide +kernel
theorem dX7_isCovered_38 : decode cX7_isCovered 38 = .ok (.istore 5, 2) := by decide +kernel
theorem dX7_isCovered_40 : decode cX7_isCovered 40 = .ok (.iinc 6 1, 3) := by decide +kernel
theorem dX7_isCovered_43 : decode cX7_isCovered 43 = .ok (.goto (-22), 3) := by decide +kernel
theorem dX7_isCovered_46 : decode cX7_isCovered 46 = .ok (.iload 5, 2) := by decide +kernel
theorem dX7_isCovered_48 : decode cX7_isCovered 48 = .ok (.iconst 1, 1) := by decide +kernel
theorem dX7_isCovered_49 : decode cX7_isCovered 49 = .ok (.lload_n 0, 1) := by decide +kernel
theorem dX7_isCovered_50 : decode cX7_isCovered 50 = .ok (.invokestatic 11, 3) := by decide +kernel
theorem dX7_isCovered_53 : decode cX7_isCovered 53 = .ok (.ishl, 1) := by decide +kernel
theorem dX7_isCovered_54 : decode cX7_isCovered 54 = .ok (.iconst 1, 1) := by decide +kernel
theorem dX7_isCovered_55 : decode cX7_isCovered 55 = .ok (.isub, 1) := by decide +kernel
theorem dX7_isCovered_56 : decode cX7_isCovered 56 = .ok (.if_icmp .ne 7, 3) := by decide +kernel
theorem dX7_isCovered_59 : decode cX7_isCovered 59 = .ok (.iconst 1, 1) := by decide +kernel
theorem dX7_isCovered_60 : decode cX7_isCovered 60 = .ok (.goto 4, 3) := by decide +kernel
theorem dX7_isCovered_63 : decode cX7_isCovered 63 = .ok (.iconst 0, 1) := by decide +kernel
theorem dX7_isCovered_64 : decode cX7_isCovered 64 = .ok (.ireturn, 1) := by decide +kernel
set_option maxRecDepth 20000 in
theorem ggX8_init_X3_init : GoodIn wsX8_init wsX3_init := goodIn_r _ [31, 32, 2, 3, 33, 34, 27, 35, 36, 37, 38, 39, 40, 41, 42, 43, 44, 64, 65, 66, 67, 68, 69, 70, 71, 72, 73] (by decide +kernel) (by decide +kernel)
set_option maxRecDepth 20000 in
theorem gX8_init_X3_init : GoodIn wsX8_init (wsX3_init) := ggX8_init_X3_init
set_option maxRecDepth 20000 in
theorem ggX8_init_X6_init : GoodIn wsX8_init wsX6_init := goodIn_r _ [46, 47, 2, 3, 48, 49, 85, 86, 87, 88, 89, 90] (by decide +kernel) (by decide +kernel)
set_option maxRecDepth 20000 in
theorem gX8_init_X6_init_n27 : GoodIn wsX8_init (wsX6_init) := ggX8_init_X6_init
set_option maxRecDepth 20000 in
theorem ggX8_init_X5_init : GoodIn wsX8_init wsX5_init := goodIn_r _ [51, 52, 2, 3, 53, 27, 54, 91] (by decide +kernel) (by decide +kernel)
set_option maxRecDepth 20000 in
theorem gX8_init_X5_init_n34 : GoodIn wsX8_init (wsX5_init) := ggX8_init_X5_init
set_option maxRecDepth 20000 in
theorem ggX8_init_X2_init : GoodIn wsX8_init wsX2_init := goodIn_r _ [56, 57, 2, 3, 33, 58, 92] (by decide +kernel) (by decide +kernel)
set_option maxRecDepth 20000 in
theorem gX8_init_X2_init_n41 : GoodIn wsX8_init (wsX2_init) := ggX8_init_X2_init
set_option maxRecDepth 20000 in
theorem ggX8_init_X1_init : GoodIn wsX8_init wsX1_init := goodIn_r _ [60, 61, 2, 3, 62, 63, 93, 94] (by decide +kernel) (by decide +kernel)
set_option maxRecDepth 20000 in
theorem gX8_init_X1_init_n48 : GoodIn wsX8_init (wsX1_init) := ggX8_init_X1_init
theorem dX8_init_0 : decode cX8_init 0 = .ok (.aload_n 0, 1) := by decide +kernel
theorem dX8_init_1 : decode cX8_init 1 = .ok (.invokespecial 1, 3) := by decide +kernel
theorem dX8_init_4 : decode cX8_init 4 = .ok (.aload_n 0, 1) := by decide +kernel
theorem dX8_init_5 : decode cX8_init 5 = .ok (.new 7, 3) := by decide +kernel
theorem dX8_init_8 : decode cX8_init 8 = .ok (.dup, 1) := by decide +kernel
theorem dX8_init_9 : decode cX8_init 9 = .ok (.invokespecial 9, 3) := by decide +kernel
theorem dX8_init_12 : decode cX8_init 12 = .ok (.putfield 10, 3) := by decide +kernel
theorem dX8_init_15 : decode cX8_init 15 = .ok (.aload_n 0, 1) := by decide +kernel
theorem dX8_init_16 : decode cX8_init 16 = .ok (.new 7, 3) := by decide +kernel
theorem dX8_init_19 : decode cX8_init 19 = .ok (.dup, 1) := by decide +kernel
theorem dX8_init_20 : decode cX8_init 20 = .ok (.invokespecial 9, 3) := by decide +kernel
theorem dX8_init_23 : decode cX8_init 23 = .ok (.putfield 16, 3) := by decide +kernel
theorem dX8_init_26 : decode cX8_init 26 = .ok (.aload_n 0, 1) := by decide +kernel
theorem dX8_init_27 : decode cX8_init 27 = .ok (.new 7, 3) := by decide +kernel
theorem dX8_init_30 : decode cX8_init 30 = .ok (.dup, 1) := by decide +kernel
theorem dX8_init_31 : decode cX8_init 31 = .ok (.invokespecial 9, 3) := by decide +kernel
theorem dX8_init_34 : decode cX8_init 34 = .ok (.putfield 19, 3) := by decide +kernel
theorem dX8_init_37 : decode cX8_init 37 = .ok (.aload_n 0, 1) := by decide +kernel
theorem dX8_init_38 : decode cX8_init 38 = .ok (.new 7, 3) := by decide +kernel
theorem dX8_init_41 : decode cX8_init 41 = .ok (.dup, 1) := by decide +kernel
theorem dX8_init_42 : decode cX8_init 42 = .ok (.invokespecial 9, 3) := by decide +kernel
theorem dX8_init_45 : decode cX8_init 45 = .ok (.putfield 22, 3) := by decide +kernel
theorem dX8_init_48 : decode cX8_init 48 = .ok (.aload_n 0, 1) := by decide +kernel
theorem dX8_init_49 : decode cX8_init 49 = .ok (.new 25, 3) := by decide +kernel
theorem dX8_init_52 : decode cX8_init 52 = .ok (.dup, 1) := by decide +kernel
theorem dX8_init_53 : decode cX8_init 53 = .ok (.invokespecial 27, 3) := by decide +kernel
theorem dX8_init_56 : decode cX8_init 56 = .ok (.putfield 28, 3) := by decide +kernel
theorem dX8_init_59 : decode cX8_init 59 = .ok (.aload_n 0, 1) := by decide +kernel
theorem dX8_init_60 : decode cX8_init 60 = .ok (.new 32, 3) := by decide +kernel
theorem dX8_init_63 : decode cX8_init 63 = .ok (.dup, 1) := by decide +kernel
theorem dX8_init_64 : decode cX8_init 64 = .ok (.invokespecial 34, 3) := by decide +kernel
theorem dX8_init_67 : decode cX8_init 67 = .ok (.putfield 35, 3) := by decide +kernel
theorem dX8_init_70 : decode cX8_init 70 = .ok (.aload_n 0, 1) := by decide +kernel
theorem dX8_init_71 : decode cX8_init 71 = .ok (.new 39, 3) := by decide +kernel
theorem dX8_init_74 : decode cX8_init 74 = .ok (.dup, 1) := by decide +kernel
theorem dX8_init_75 : decode cX8_init 75 = .ok (.invokespecial 41, 3) := by decide +kernel
theorem dX8_init_78 : decode cX8_init 78 = .ok (.putfield 42, 3) := by decide +kernel
theorem dX8_init_81 : decode cX8_init 81 = .ok (.aload_n 0, 1) := by decide +kernel
theorem dX8_init_82 : decode cX8_init 82 = .ok (.new 46, 3) := by decide +kernel
theorem dX8_init_85 : decode cX8_init 85 = .ok (.dup, 1) := by decide +kernel
theorem dX8_init_86 : decode cX8_init 86 = .ok (.invokespecial 48, 3) := by decide +kernel
theorem dX8_init_89 : decode cX8_init 89 = .ok (.putfield 49, 3) := by decide +kernel
theorem dX8_init_92 : decode cX8_init 92 = .ok (.aload_n 0, 1) := by decide +kernel
theorem dX8_init_93 : decode cX8_init 93 = .ok (.iconst 3, 1) := by decide +kernel
theorem dX8_init_94 : decode cX8_init 94 = .ok (.newarray .int, 2) := by decide +kernel
theorem dX8_init_96 : decode cX8_init 96 = .ok (.putfield 53, 3) := by decide +kernel
theorem dX8_init_99 : decode cX8_init 99 = .ok (.return_, 1) := by decide +kernel
set_option maxRecDepth 20000 in
theorem ggX8_house_X3_talesTold : GoodIn wsX8_house wsX3_talesTold := goodIn_r _ [6, 7, 8, 9, 5, 10, 11, 12, 13, 14, 15, 16, 17, 18, 19, 20, 21, 22, 23, 24, 25, 26, 27, 28, 29, 56, 57, 58, 59, 60, 61, 62, 63, 64, 65] (by decide +kernel) (by decide +kernel)
set_option maxRecDepth 20000 in
theorem gX8_house_X3_talesTold : GoodIn wsX8_house (wsV RX8 57 RX3 yX3_talesTold wsX3_talesTold) := goodIn_app (goodIn_of _ (by decide +kernel)) ggX8_house_X3_talesTold
set_option maxRecDepth 20000 in
theorem ggX8_house_X3_becomeNew : GoodIn wsX8_house wsX3_becomeNew := goodIn_r _ [33, 11, 34, 35, 36, 37, 38, 39, 40, 41, 42, 43, 44, 56, 57, 58, 59, 60, 61, 62, 63, 64, 65] (by decide +kernel) (by decide +kernel)
set_option maxRecDepth 20000 in
theorem gX8_house_X3_becomeNew : GoodIn wsX8_house (wsV RX8 61 RX3 yX3_becomeNew wsX3_becomeNew) := goodIn_app (goodIn_of _ (by decide +kernel)) ggX8_house_X3_becomeNew
theorem dX8_house_0 : decode cX8_house 0 = .ok (.aload_n 0, 1) := by decide +kernel
theorem dX8_house_1 : decode cX8_house 1 = .ok (.getfield 10, 3) := by decide +kernel
theorem dX8_house_4 : decode cX8_house 4 = .ok (.invokevirtual 57, 3) := by decide +kernel
theorem dX8_house_7 : decode cX8_house 7 = .ok (.istore_n 1, 1) := by decide +kernel
theorem dX8_house_8 : decode cX8_house 8 = .ok (.aload_n 0, 1) := by decide +kernel
theorem dX8_house_9 : decode cX8_house 9 = .ok (.getfield 10, 3) := by decide +kernel
theorem dX8_house_12 : decode cX8_house 12 = .ok (.invokevirtual 61, 3) := by decide +kernel
theorem dX8_house_15 : decode cX8_house 15 = .ok (.iload_n 1, 1) := by decide +kernel
theorem dX8_house_16 : decode cX8_house 16 = .ok (.ireturn, 1) := by decide +kernel
set_option maxRecDepth 20000 in
theorem ggX8_say_X8_isPart : GoodIn wsX8_say wsX8_isPart := goodIn_r _ [6, 7, 8, 5, 9] (by decide +kernel) (by decide +kernel)
set_option maxRecDepth 20000 in
theorem gX8_say_X8_isPart : GoodIn wsX8_say (va_wsS RX8 64 yX8_isPart wsX8_isPart) := goodIn_app (goodIn_of _ (by decide +kernel)) ggX8_say_X8_isPart
set_option maxRecDepth 20000 in
theorem ggX8_say_X8_refuse : GoodIn wsX8_say wsX8_refuse := goodIn_r _ [13, 14, 15, 16, 5, 17, 18, 28, 29, 30, 31, 32, 33, 34, 35, 36, 37, 38] (by decide +kernel) (by decide +kernel)
set_option maxRecDepth 20000 in
theorem gX8_say_X8_refuse : GoodIn wsX8_say (wsV RX8 68 RX8 yX8_refuse wsX8_refuse) := goodIn_app (goodIn_of _ (by decide +kernel)) ggX8_say_X8_refuse
set_option maxRecDepth 20000 in
theorem ggX8_say_X7_sizeOf : GoodIn wsX8_say wsX7_sizeOf := goodIn_r _ [22, 23] (by decide +kernel) (by decide +kernel)
set_option maxRecDepth 20000 in
theorem gX8_say_X7_sizeOf : GoodIn wsX8_say (va_wsS RX8 76 yX7_sizeOf wsX7_sizeOf) := goodIn_app (goodIn_of _ (by decide +kernel)) ggX8_say_X7_sizeOf
set_option maxRecDepth 20000 in
theorem ggX8_say_X7_added : GoodIn wsX8_say wsX7_added := goodIn_r _ [26, 27, 20, 21, 22, 23] (by decide +kernel) (by decide +kernel)
set_option maxRecDepth 20000 in
theorem gX8_say_X7_added : GoodIn wsX8_say (va_wsS RX8 82 yX7_added wsX7_added) := goodIn_app (goodIn_of _ (by decide +kernel)) ggX8_say_X7_added
theorem dX8_say_0 : decode cX8_say 0 = .ok (.iload_n 1, 1) := by decide +kernel
theorem dX8_say_1 : decode cX8_say 1 = .ok (.invokestatic 64, 3) := by decide +kernel
theorem dX8_say_4 : decode cX8_say 4 = .ok (.ifCond .ne 10, 3) := by decide +kernel
theorem dX8_say_7 : decode cX8_say 7 = .ok (.aload_n 0, 1) := by decide +kernel
theorem dX8_say_8 : decode cX8_say 8 = .ok (.bipush (-2), 2) := by decide +kernel
theorem dX8_say_10 : decode cX8_say 10 = .ok (.invokevirtual 68, 3) := by decide +kernel
theorem dX8_say_13 : decode cX8_say 13 = .ok (.ireturn, 1) := by decide +kernel
theorem dX8_say_14 : decode cX8_say 14 = .ok (.aload_n 0, 1) := by decide +kernel
theorem dX8_say_15 : decode cX8_say 15 = .ok (.getfield 10, 3) := by decide +kernel
theorem dX8_say_18 : decode cX8_say 18 = .ok (.getfield 72, 3) := by decide +kernel
theorem dX8_say_21 : decode cX8_say 21 = .ok (.invokestatic 76, 3) := by decide +kernel
theorem dX8_say_24 : decode cX8_say 24 = .ok (.bipush 10, 2) := by decide +kernel
theorem dX8_say_26 : decode cX8_say 26 = .ok (.if_icmp .lt 10, 3) := by decide +kernel
theorem dX8_say_29 : decode cX8_say 29 = .ok (.aload_n 0, 1) := by decide +kernel
theorem dX8_say_30 : decode cX8_say 30 = .ok (.bipush (-4), 2) := by decide +kernel
theorem dX8_say_32 : decode cX8_say 32 = .ok (.invokevirtual 68, 3) := by decide +kernel
theorem dX8_say_35 : decode cX8_say 35 = .ok (.ireturn, 1) := by decide +kernel
theorem dX8_say_36 : decode cX8_say 36 = .ok (.aload_n 0, 1) := by decide +kernel
theorem dX8_say_37 : decode cX8_say 37 = .ok (.getfield 10, 3) := by decide +kernel
theorem dX8_say_40 : decode cX8_say 40 = .ok (.aload_n 0, 1) := by decide +kernel
theorem dX8_say_41 : decode cX8_say 41 = .ok (.getfield 10, 3) := by decide +kernel
theorem dX8_say_44 : decode cX8_say 44 = .ok (.getfield 72, 3) := by decide +kernel
theorem dX8_say_47 : decode cX8_say 47 = .ok (.iload_n 1, 1) := by decide +kernel
theorem dX8_say_48 : decode cX8_say 48 = .ok (.invokestatic 82, 3) := by decide +kernel
theorem dX8_say_51 : decode cX8_say 51 = .ok (.putfield 72, 3) := by decide +kernel
theorem dX8_say_54 : decode cX8_say 54 = .ok (.aload_n 0, 1) := by decide +kernel
theorem dX8_say_55 : decode cX8_say 55 = .ok (.getfield 10, 3) := by decide +kernel
theorem dX8_say_58 : decode cX8_say 58 = .ok (.getfield 72, 3) := by decide +kernel
theorem dX8_say_61 : decode cX8_say 61 = .ok (.invokestatic 76, 3) := by decide +kernel
theorem dX8_say_64 : decode cX8_say 64 = .ok (.ireturn, 1) := by decide +kernel
set_option maxRecDepth 20000 in
theorem ggX8_hush_X7_sizeOf : GoodIn wsX8_hush wsX7_sizeOf := goodIn_r _ [6, 7] (by decide +kernel) (by decide +kernel)
set_option maxRecDepth 20000 in
theorem gX8_hush_X7_sizeOf : GoodIn wsX8_hush (va_wsS RX8 76 yX7_sizeOf wsX7_sizeOf) := goodIn_app (goodIn_of _ (by decide +kernel)) ggX8_hush_X7_sizeOf
theorem dX8_hush_0 : decode cX8_hush 0 = .ok (.aload_n 0, 1) := by decide +kernel
theorem dX8_hush_1 : decode cX8_hush 1 = .ok (.getfield 10, 3) := by decide +kernel
theorem dX8_hush_4 : decode cX8_hush 4 = .ok (.getfield 72, 3) := by decide +kernel
theorem dX8_hush_7 : decode cX8_hush 7 = .ok (.invokestatic 76, 3) := by decide +kernel
theorem dX8_hush_10 : decode cX8_hush 10 = .ok (.istore_n 1, 1) := by decide +kernel
theorem dX8_hush_11 : decode cX8_hush 11 = .ok (.aload_n 0, 1) := by decide +kernel
theorem dX8_hush_12 : decode cX8_hush 12 = .ok (.getfield 10, 3) := by decide +kernel
theorem dX8_hush_15 : decode cX8_hush 15 = .ok (.lconst 0, 1) := by decide +kernel
theorem dX8_hush_16 : decode cX8_hush 16 = .ok (.putfield 72, 3) := by decide +kernel
theorem dX8_hush_19 : decode cX8_hush 19 = .ok (.iload_n 1, 1) := by decide +kernel
theorem dX8_hush_20 : decode cX8_hush 20 = .ok (.ireturn, 1) := by decide +kernel
set_option maxRecDepth 20000 in
theorem ggX8_tale_X8_isBranch : GoodIn wsX8_tale wsX8_isBranch := goodIn_r _ [6, 7, 8, 5, 9] (by decide +kernel) (by decide +kernel)
set_option maxRecDepth 20000 in
theorem gX8_tale_X8_isBranch : GoodIn wsX8_tale (va_wsS RX8 86 yX8_isBranch wsX8_isBranch) := goodIn_app (goodIn_of _ (by decide +kernel)) ggX8_tale_X8_isBranch
set_option maxRecDepth 20000 in
theorem ggX8_tale_X8_refuse : GoodIn wsX8_tale wsX8_refuse := goodIn_r _ [13, 14, 15, 16, 5, 17, 18, 55, 56, 57, 58, 59, 60, 61, 62, 63, 64, 65] (by decide +kernel) (by decide +kernel)
set_option maxRecDepth 20000 in
theorem gX8_tale_X8_refuse : GoodIn wsX8_tale (wsV RX8 68 RX8 yX8_refuse wsX8_refuse) := goodIn_app (goodIn_of _ (by decide +kernel)) ggX8_tale_X8_refuse
set_option maxRecDepth 20000 in
theorem ggX8_tale_X3_replace : GoodIn wsX8_tale wsX3_replace := goodIn_r _ [23, 24, 25, 26, 27, 28, 29, 30, 22, 31, 32, 33, 34, 35, 8, 5, 9, 36, 37, 38, 39, 40, 4, 6, 7, 41, 42, 43, 44, 45, 46, 47, 48, 49, 66, 67, 68, 69, 70, 71, 72, 73, 74, 75] (by decide +kernel) (by decide +kernel)
set_option maxRecDepth 20000 in
theorem gX8_tale_X3_replace : GoodIn wsX8_tale (wsV RX8 89 RX3 yX3_replace wsX3_replace) := goodIn_app (goodIn_of _ (by decide +kernel)) ggX8_tale_X3_replace
set_option maxRecDepth 20000 in
theorem ggX8_tale_X7_sizeOf : GoodIn wsX8_tale wsX7_sizeOf := goodIn_r _ [53, 54] (by decide +kernel) (by decide +kernel)
set_option maxRecDepth 20000 in
theorem gX8_tale_X7_sizeOf : GoodIn wsX8_tale (va_wsS RX8 76 yX7_sizeOf wsX7_sizeOf) := goodIn_app (goodIn_of _ (by decide +kernel)) ggX8_tale_X7_sizeOf
theorem dX8_tale_0 : decode cX8_tale 0 = .ok (.iload_n 1, 1) := by decide +kernel
theorem dX8_tale_1 : decode cX8_tale 1 = .ok (.invokestatic 86, 3) := by decide +kernel
theorem dX8_tale_4 : decode cX8_tale 4 = .ok (.ifCond .ne 10, 3) := by decide +kernel
theorem dX8_tale_7 : decode cX8_tale 7 = .ok (.aload_n 0, 1) := by decide +kernel
theorem dX8_tale_8 : decode cX8_tale 8 = .ok (.bipush (-2), 2) := by decide +kernel
theorem dX8_tale_10 : decode cX8_tale 10 = .ok (.invokevirtual 68, 3) := by decide +kernel
theorem dX8_tale_13 : decode cX8_tale 13 = .ok (.ireturn, 1) := by decide +kernel
theorem dX8_tale_14 : decode cX8_tale 14 = .ok (.aload_n 0, 1) := by decide +kernel
theorem dX8_tale_15 : decode cX8_tale 15 = .ok (.getfield 10, 3) := by decide +kernel
theorem dX8_tale_18 : decode cX8_tale 18 = .ok (.iload_n 1, 1) := by decide +kernel
theorem dX8_tale_19 : decode cX8_tale 19 = .ok (.aload_n 0, 1) := by decide +kernel
theorem dX8_tale_20 : decode cX8_tale 20 = .ok (.getfield 10, 3) := by decide +kernel
theorem dX8_tale_23 : decode cX8_tale 23 = .ok (.getfield 72, 3) := by decide +kernel
theorem dX8_tale_26 : decode cX8_tale 26 = .ok (.iconst (-1), 1) := by decide +kernel
theorem dX8_tale_27 : decode cX8_tale 27 = .ok (.invokevirtual 89, 3) := by decide +kernel
theorem dX8_tale_30 : decode cX8_tale 30 = .ok (.aload_n 0, 1) := by decide +kernel
theorem dX8_tale_31 : decode cX8_tale 31 = .ok (.getfield 10, 3) := by decide +kernel
theorem dX8_tale_34 : decode cX8_tale 34 = .ok (.getfield 72, 3) := by decide +kernel
theorem dX8_tale_37 : decode cX8_tale 37 = .ok (.invokestatic 76, 3) := by decide +kernel
theorem dX8_tale_40 : decode cX8_tale 40 = .ok (.ireturn, 1) := by decide +kernel
set_option maxRecDepth 20000 in
theorem ggX8_hand_X8_isBranch : GoodIn wsX8_hand wsX8_isBranch := goodIn_r _ [5, 6, 7, 4, 8] (by decide +kernel) (by decide +kernel)
set_option maxRecDepth 20000 in
theorem gX8_hand_X8_isBranch : GoodIn wsX8_hand (va_wsS RX8 86 yX8_isBranch wsX8_isBranch) := goodIn_app (goodIn_of _ (by decide +kernel)) ggX8_hand_X8_isBranch
set_option maxRecDepth 20000 in
theorem ggX8_hand_X8_refuse : GoodIn wsX8_hand wsX8_refuse := goodIn_r _ [12, 13, 14, 15, 4, 16, 17, 89, 90, 91, 92, 93, 94, 95, 96, 97, 98, 99] (by decide +kernel) (by decide +kernel)
set_option maxRecDepth 20000 in
theorem gX8_hand_X8_refuse : GoodIn wsX8_hand (wsV RX8 68 RX8 yX8_refuse wsX8_refuse) := goodIn_app (goodIn_of _ (by decide +kernel)) ggX8_hand_X8_refuse
set_option maxRecDepth 20000 in
theorem ggX8_hand_X8_isUpTo : GoodIn wsX8_hand wsX8_isUpTo := goodIn_r _ [8] (by decide +kernel) (by decide +kernel)
set_option maxRecDepth 20000 in
theorem gX8_hand_X8_isUpTo : GoodIn wsX8_hand (va_wsS RX8 93 yX8_isUpTo wsX8_isUpTo) := goodIn_app (goodIn_of _ (by decide +kernel)) ggX8_hand_X8_isUpTo
set_option maxRecDepth 20000 in
theorem ggX8_hand_X8_isPart : GoodIn wsX8_hand wsX8_isPart := goodIn_r _ [20, 6, 7, 4, 8] (by decide +kernel) (by decide +kernel)
set_option maxRecDepth 20000 in
theorem gX8_hand_X8_isPart : GoodIn wsX8_hand (va_wsS RX8 64 yX8_isPart wsX8_isPart) := goodIn_app (goodIn_of _ (by decide +kernel)) ggX8_hand_X8_isPart
set_option maxRecDepth 20000 in
theorem ggX8_hand_X3_taleOf : GoodIn wsX8_hand wsX3_taleOf := goodIn_r _ [25, 26, 3, 4, 5, 6, 7, 8, 100, 101, 102, 103, 104, 105, 106, 107, 108, 109] (by decide +kernel) (by decide +kernel)
set_option maxRecDepth 20000 in
theorem gX8_hand_X3_taleOf : GoodIn wsX8_hand (wsV RX8 97 RX3 yX3_taleOf wsX3_taleOf) := goodIn_app (goodIn_of _ (by decide +kernel)) ggX8_hand_X3_taleOf
set_option maxRecDepth 20000 in
theorem ggX8_hand_X7_slipped : GoodIn wsX8_hand wsX7_slipped := goodIn_r _ [30, 31, 32, 29, 33, 34, 35, 36, 37, 38, 39, 40, 41, 42, 43, 44, 45, 46, 47, 48, 49, 50, 51, 52, 53, 54, 55, 56, 57, 58, 59, 60, 61] (by decide +kernel) (by decide +kernel)
set_option maxRecDepth 20000 in
theorem gX8_hand_X7_slipped : GoodIn wsX8_hand (va_wsS RX8 101 yX7_slipped wsX7_slipped) := goodIn_app (goodIn_of _ (by decide +kernel)) ggX8_hand_X7_slipped
set_option maxRecDepth 20000 in
theorem ggX8_hand_X3_replace : GoodIn wsX8_hand wsX3_replace := goodIn_r _ [65, 66, 67, 68, 69, 70, 71, 72, 24, 73, 74, 75, 76, 77, 7, 4, 8, 78, 22, 23, 25, 26, 3, 5, 6, 79, 80, 81, 82, 83, 84, 85, 86, 87, 100, 101, 102, 103, 104, 105, 106, 107, 108, 109] (by decide +kernel) (by decide +kernel)
set_option maxRecDepth 20000 in
theorem gX8_hand_X3_replace : GoodIn wsX8_hand (wsV RX8 89 RX3 yX3_replace wsX3_replace) := goodIn_app (goodIn_of _ (by decide +kernel)) ggX8_hand_X3_replace
set_option maxRecDepth 20000 in
theorem ggX8_hand_X7_sizeOf : GoodIn wsX8_hand wsX7_sizeOf := goodIn_r _ [36, 37] (by decide +kernel) (by decide +kernel)
set_option maxRecDepth 20000 in
theorem gX8_hand_X7_sizeOf : GoodIn wsX8_hand (va_wsS RX8 76 yX7_sizeOf wsX7_sizeOf) := goodIn_app (goodIn_of _ (by decide +kernel)) ggX8_hand_X7_sizeOf
theorem dX8_hand_0 : decode cX8_hand 0 = .ok (.iload_n 1, 1) := by decide +kernel
theorem dX8_hand_1 : decode cX8_hand 1 = .ok (.invokestatic 86, 3) := by decide +kernel
theorem dX8_hand_4 : decode cX8_hand 4 = .ok (.ifCond .eq 15, 3) := by decide +kernel
theorem dX8_hand_7 : decode cX8_hand 7 = .ok (.iload_n 2, 1) := by decide +kernel
theorem dX8_hand_8 : decode cX8_hand 8 = .ok (.invokestatic 86, 3) := by decide +kernel
theorem dX8_hand_11 : decode cX8_hand 11 = .ok (.ifCond .eq 8, 3) := by decide +kernel
theorem dX8_hand_14 : decode cX8_hand 14 = .ok (.iload_n 2, 1) := by decide +kernel
theorem dX8_hand_15 : decode cX8_hand 15 = .ok (.iload_n 1, 1) := by decide +kernel
theorem dX8_hand_16 : decode cX8_hand 16 = .ok (.if_icmp .gt 10, 3) := by decide +kernel
theorem dX8_hand_19 : decode cX8_hand 19 = .ok (.aload_n 0, 1) := by decide +kernel
theorem dX8_hand_20 : decode cX8_hand 20 = .ok (.bipush (-2), 2) := by decide +kernel
theorem dX8_hand_22 : decode cX8_hand 22 = .ok (.invokevirtual 68, 3) := by decide +kernel
theorem dX8_hand_25 : decode cX8_hand 25 = .ok (.ireturn, 1) := by decide +kernel
theorem dX8_hand_26 : decode cX8_hand 26 = .ok (.iload_n 3, 1) := by decide +kernel
theorem dX8_hand_27 : decode cX8_hand 27 = .ok (.iconst 5, 1) := by decide +kernel
theorem dX8_hand_28 : decode cX8_hand 28 = .ok (.invokestatic 93, 3) := by decide +kernel
theorem dX8_hand_31 : decode cX8_hand 31 = .ok (.ifCond .eq 21, 3) := by decide +kernel
theorem dX8_hand_34 : decode cX8_hand 34 = .ok (.iload 4, 2) := by decide +kernel
theorem dX8_hand_36 : decode cX8_hand 36 = .ok (.bipush 9, 2) := by decide +kernel
theorem dX8_hand_38 : decode cX8_hand 38 = .ok (.invokestatic 93, 3) := by decide +kernel
theorem dX8_hand_41 : decode cX8_hand 41 = .ok (.ifCond .eq 11, 3) := by decide +kernel
theorem dX8_hand_44 : decode cX8_hand 44 = .ok (.iload 5, 2) := by decide +kernel
theorem dX8_hand_46 : decode cX8_hand 46 = .ok (.invokestatic 64, 3) := by decide +kernel
theorem dX8_hand_49 : decode cX8_hand 49 = .ok (.ifCond .ne 10, 3) := by decide +kernel
theorem dX8_hand_52 : decode cX8_hand 52 = .ok (.aload_n 0, 1) := by decide +kernel
theorem dX8_hand_53 : decode cX8_hand 53 = .ok (.bipush (-2), 2) := by decide +kernel
theorem dX8_hand_55 : decode cX8_hand 55 = .ok (.invokevirtual 68, 3) := by decide +kernel
theorem dX8_hand_58 : decode cX8_hand 58 = .ok (.ireturn, 1) := by decide +kernel
theorem dX8_hand_59 : decode cX8_hand 59 = .ok (.aload_n 0, 1) := by decide +kernel
theorem dX8_hand_60 : decode cX8_hand 60 = .ok (.getfield 10, 3) := by decide +kernel
theorem dX8_hand_63 : decode cX8_hand 63 = .ok (.iload_n 1, 1) := by decide +kernel
theorem dX8_hand_64 : decode cX8_hand 64 = .ok (.invokevirtual 97, 3) := by decide +kernel
theorem dX8_hand_67 : decode cX8_hand 67 = .ok (.lstore 6, 2) := by decide +kernel
theorem dX8_hand_69 : decode cX8_hand 69 = .ok (.lload 6, 2) := by decide +kernel
theorem dX8_hand_71 : decode cX8_hand 71 = .ok (.lconst 0, 1) := by decide +kernel
theorem dX8_hand_72 : decode cX8_hand 72 = .ok (.lcmp, 1) := by decide +kernel
theorem dX8_hand_73 : decode cX8_hand 73 = .ok (.ifCond .ne 10, 3) := by decide +kernel
theorem dX8_hand_76 : decode cX8_hand 76 = .ok (.aload_n 0, 1) := by decide +kernel
theorem dX8_hand_77 : decode cX8_hand 77 = .ok (.bipush (-3), 2) := by decide +kernel
theorem dX8_hand_79 : decode cX8_hand 79 = .ok (.invokevirtual 68, 3) := by decide +kernel
theorem dX8_hand_82 : decode cX8_hand 82 = .ok (.ireturn, 1) := by decide +kernel
theorem dX8_hand_83 : decode cX8_hand 83 = .ok (.lload 6, 2) := by decide +kernel
theorem dX8_hand_85 : decode cX8_hand 85 = .ok (.iload_n 3, 1) := by decide +kernel
theorem dX8_hand_86 : decode cX8_hand 86 = .ok (.iload 4, 2) := by decide +kernel
theorem dX8_hand_88 : decode cX8_hand 88 = .ok (.iload 5, 2) := by decide +kernel
theorem dX8_hand_90 : decode cX8_hand 90 = .ok (.invokestatic 101, 3) := by decide +kernel
theorem dX8_hand_93 : decode cX8_hand 93 = .ok (.lstore 8, 2) := by decide +kernel
theorem dX8_hand_95 : decode cX8_hand 95 = .ok (.aload_n 0, 1) := by decide +kernel
theorem dX8_hand_96 : decode cX8_hand 96 = .ok (.getfield 10, 3) := by decide +kernel
theorem dX8_hand_99 : decode cX8_hand 99 = .ok (.iload_n 2, 1) := by decide +kernel
theorem dX8_hand_100 : decode cX8_hand 100 = .ok (.lload 8, 2) := by decide +kernel
theorem dX8_hand_102 : decode cX8_hand 102 = .ok (.iload_n 1, 1) := by decide +kernel
theorem dX8_hand_103 : decode cX8_hand 103 = .ok (.invokevirtual 89, 3) := by decide +kernel
theorem dX8_hand_106 : decode cX8_hand 106 = .ok (.lload 8, 2) := by decide +kernel
theorem dX8_hand_108 : decode cX8_hand 108 = .ok (.invokestatic 76, 3) := by decide +kernel
theorem dX8_hand_111 : decode cX8_hand 111 = .ok (.ireturn, 1) := by decide +kernel
set_option maxRecDepth 20000 in
theorem ggX8_undo_X8_refuse : GoodIn wsX8_undo wsX8_refuse := goodIn_r _ [7, 8, 9, 10, 6, 11, 12, 59, 60, 61, 62, 63, 64, 65, 66, 67, 68, 69] (by decide +kernel) (by decide +kernel)
set_option maxRecDepth 20000 in
theorem gX8_undo_X8_refuse : GoodIn wsX8_undo (wsV RX8 68 RX8 yX8_refuse wsX8_refuse) := goodIn_app (goodIn_of _ (by decide +kernel)) ggX8_undo_X8_refuse
set_option maxRecDepth 20000 in
theorem ggX8_undo_X3_takeBack : GoodIn wsX8_undo wsX3_takeBack := goodIn_r _ [17, 18, 19, 20, 21, 22, 6, 23, 24, 25, 26, 16, 27, 28, 29, 30, 31, 32, 70, 71, 72, 73, 74, 75, 76, 77, 78, 79] (by decide +kernel) (by decide +kernel)
set_option maxRecDepth 20000 in
theorem gX8_undo_X3_takeBack : GoodIn wsX8_undo (wsV RX8 109 RX3 yX3_takeBack wsX3_takeBack) := goodIn_app (goodIn_of _ (by decide +kernel)) ggX8_undo_X3_takeBack
set_option maxRecDepth 20000 in
theorem ggX8_undo_X3_talesTold : GoodIn wsX8_undo wsX3_talesTold := goodIn_r _ [36, 37, 38, 39, 16, 40, 28, 41, 42, 43, 44, 45, 46, 47, 48, 49, 50, 51, 52, 53, 54, 55, 56, 57, 58, 70, 71, 72, 73, 74, 75, 76, 77, 78, 79] (by decide +kernel) (by decide +kernel)
set_option maxRecDepth 20000 in
theorem gX8_undo_X3_talesTold : GoodIn wsX8_undo (wsV RX8 57 RX3 yX3_talesTold wsX3_talesTold) := goodIn_app (goodIn_of _ (by decide +kernel)) ggX8_undo_X3_talesTold
theorem dX8_undo_0 : decode cX8_undo 0 = .ok (.aload_n 0, 1) := by decide +kernel
theorem dX8_undo_1 : decode cX8_undo 1 = .ok (.getfield 10, 3) := by decide +kernel
theorem dX8_undo_4 : decode cX8_undo 4 = .ok (.getfield 105, 3) := by decide +kernel
theorem dX8_undo_7 : decode cX8_undo 7 = .ok (.ifCond .ne 10, 3) := by decide +kernel
theorem dX8_undo_10 : decode cX8_undo 10 = .ok (.aload_n 0, 1) := by decide +kernel
theorem dX8_undo_11 : decode cX8_undo 11 = .ok (.bipush (-3), 2) := by decide +kernel
theorem dX8_undo_13 : decode cX8_undo 13 = .ok (.invokevirtual 68, 3) := by decide +kernel
theorem dX8_undo_16 : decode cX8_undo 16 = .ok (.ireturn, 1) := by decide +kernel
theorem dX8_undo_17 : decode cX8_undo 17 = .ok (.aload_n 0, 1) := by decide +kernel
theorem dX8_undo_18 : decode cX8_undo 18 = .ok (.getfield 10, 3) := by decide +kernel
theorem dX8_undo_21 : decode cX8_undo 21 = .ok (.invokevirtual 109, 3) := by decide +kernel
theorem dX8_undo_24 : decode cX8_undo 24 = .ok (.aload_n 0, 1) := by decide +kernel
theorem dX8_undo_25 : decode cX8_undo 25 = .ok (.getfield 10, 3) := by decide +kernel
theorem dX8_undo_28 : decode cX8_undo 28 = .ok (.invokevirtual 57, 3) := by decide +kernel
theorem dX8_undo_31 : decode cX8_undo 31 = .ok (.ireturn, 1) := by decide +kernel
set_option maxRecDepth 20000 in
theorem ggX8_type_X8_isUpTo : GoodIn wsX8_type wsX8_isUpTo := goodIn_r _ [6] (by decide +kernel) (by decide +kernel)
set_option maxRecDepth 20000 in
theorem gX8_type_X8_isUpTo : GoodIn wsX8_type (va_wsS RX8 93 yX8_isUpTo wsX8_isUpTo) := goodIn_app (goodIn_of _ (by decide +kernel)) ggX8_type_X8_isUpTo
set_option maxRecDepth 20000 in
theorem ggX8_type_X8_refuse : GoodIn wsX8_type wsX8_refuse := goodIn_r _ [10, 11, 12, 13, 5, 14, 15, 23, 24, 25, 26, 27, 28, 29, 30, 31, 32, 33] (by decide +kernel) (by decide +kernel)
set_option maxRecDepth 20000 in
theorem gX8_type_X8_refuse : GoodIn wsX8_type (wsV RX8 68 RX8 yX8_refuse wsX8_refuse) := goodIn_app (goodIn_of _ (by decide +kernel)) ggX8_type_X8_refuse
set_option maxRecDepth 20000 in
theorem ggX8_type_X6_write : GoodIn wsX8_type wsX6_write := goodIn_r _ [20, 21, 22, 4, 5, 6, 34, 35, 36, 37, 38, 39] (by decide +kernel) (by decide +kernel)
set_option maxRecDepth 20000 in
theorem gX8_type_X6_write : GoodIn wsX8_type (wsV RX8 115 RX6 yX6_write wsX6_write) := goodIn_app (goodIn_of _ (by decide +kernel)) ggX8_type_X6_write
theorem dX8_type_0 : decode cX8_type 0 = .ok (.iload_n 1, 1) := by decide +kernel
theorem dX8_type_1 : decode cX8_type 1 = .ok (.bipush 127, 2) := by decide +kernel
theorem dX8_type_3 : decode cX8_type 3 = .ok (.invokestatic 93, 3) := by decide +kernel
theorem dX8_type_6 : decode cX8_type 6 = .ok (.ifCond .ne 10, 3) := by decide +kernel
theorem dX8_type_9 : decode cX8_type 9 = .ok (.aload_n 0, 1) := by decide +kernel
theorem dX8_type_10 : decode cX8_type 10 = .ok (.bipush (-2), 2) := by decide +kernel
theorem dX8_type_12 : decode cX8_type 12 = .ok (.invokevirtual 68, 3) := by decide +kernel
theorem dX8_type_15 : decode cX8_type 15 = .ok (.ireturn, 1) := by decide +kernel
theorem dX8_type_16 : decode cX8_type 16 = .ok (.aload_n 0, 1) := by decide +kernel
theorem dX8_type_17 : decode cX8_type 17 = .ok (.getfield 28, 3) := by decide +kernel
theorem dX8_type_20 : decode cX8_type 20 = .ok (.getfield 112, 3) := by decide +kernel
theorem dX8_type_23 : decode cX8_type 23 = .ok (.sipush 150, 3) := by decide +kernel
theorem dX8_type_26 : decode cX8_type 26 = .ok (.if_icmp .lt 10, 3) := by decide +kernel
theorem dX8_type_29 : decode cX8_type 29 = .ok (.aload_n 0, 1) := by decide +kernel
theorem dX8_type_30 : decode cX8_type 30 = .ok (.bipush (-4), 2) := by decide +kernel
theorem dX8_type_32 : decode cX8_type 32 = .ok (.invokevirtual 68, 3) := by decide +kernel
theorem dX8_type_35 : decode cX8_type 35 = .ok (.ireturn, 1) := by decide +kernel
theorem dX8_type_36 : decode cX8_type 36 = .ok (.aload_n 0, 1) := by decide +kernel
theorem dX8_type_37 : decode cX8_type 37 = .ok (.getfield 28, 3) := by decide +kernel
theorem dX8_type_40 : decode cX8_type 40 = .ok (.iload_n 1, 1) := by decide +kernel
theorem dX8_type_41 : decode cX8_type 41 = .ok (.invokevirtual 115, 3) := by decide +kernel
theorem dX8_type_44 : decode cX8_type 44 = .ok (.aload_n 0, 1) := by decide +kernel
theorem dX8_type_45 : decode cX8_type 45 = .ok (.getfield 28, 3) := by decide +kernel
theorem dX8_type_48 : decode cX8_type 48 = .ok (.getfield 112, 3) := by decide +kernel
theorem dX8_type_51 : decode cX8_type 51 = .ok (.ireturn, 1) := by decide +kernel
theorem dX8_clear_0 : decode cX8_clear 0 = .ok (.aload_n 0, 1) := by decide +kernel
theorem dX8_clear_1 : decode cX8_clear 1 = .ok (.getfield 28, 3) := by decide +kernel
theorem dX8_clear_4 : decode cX8_clear 4 = .ok (.getfield 112, 3) := by decide +kernel
theorem dX8_clear_7 : decode cX8_clear 7 = .ok (.istore_n 1, 1) := by decide +kernel
theorem dX8_clear_8 : decode cX8_clear 8 = .ok (.aload_n 0, 1) := by decide +kernel
theorem dX8_clear_9 : decode cX8_clear 9 = .ok (.getfield 28, 3) := by decide +kernel
theorem dX8_clear_12 : decode cX8_clear 12 = .ok (.iconst 0, 1) := by decide +kernel
theorem dX8_clear_13 : decode cX8_clear 13 = .ok (.putfield 112, 3) := by decide +kernel
theorem dX8_clear_16 : decode cX8_clear 16 = .ok (.iload_n 1, 1) := by decide +kernel
theorem dX8_clear_17 : decode cX8_clear 17 = .ok (.ireturn, 1) := by decide +kernel
set_option maxRecDepth 20000 in
theorem ggX8_read_X6_readInto : GoodIn wsX8_read wsX6_readInto := goodIn_r _ [8, 9, 10, 11, 12, 13, 14, 15, 16, 17, 18, 19, 20, 21, 22, 23, 24, 25, 26, 27, 28, 29, 30, 31, 32, 7, 33, 34, 35, 36, 37, 38, 39, 40, 41, 42, 43, 44, 45, 46, 47, 48, 49, 50, 51, 52, 53, 54, 55, 56, 57, 58, 59, 60, 61, 62, 63, 64, 65, 66, 67, 68, 69, 70, 71, 72, 73, 74, 75, 76, 77, 78, 79, 80, 81, 82, 83, 84, 85, 86, 87, 88, 89, 90, 91, 92, 93, 94, 95, 96, 97, 98, 99, 100, 101, 102, 103, 104, 105, 106, 107, 108, 109, 110, 111, 112, 113, 114, 115, 116, 117, 118, 119, 120, 121, 122, 123, 124, 125, 126, 127, 128, 129, 130, 131, 132, 133, 134, 135, 136, 137, 138, 139, 140, 141, 142, 143, 144, 145, 146, 147, 148, 149, 150, 151, 152, 153, 154, 155, 156, 157, 158, 159, 160, 161, 162, 163, 164, 165, 166, 167, 168, 169, 170, 171, 172, 173, 174, 199, 200, 201, 202, 203, 204, 205, 206, 207, 208, 209, 210, 211, 212, 213, 214] (by decide +kernel) (by decide +kernel)
set_option maxRecDepth 20000 in
theorem gX8_read_X6_readInto : GoodIn wsX8_read (wsV RX8 119 RX6 yX6_readInto wsX6_readInto) := goodIn_app (goodIn_of _ (by decide +kernel)) ggX8_read_X6_readInto
set_option maxRecDepth 20000 in
theorem ggX8_read_X3_becomeLike : GoodIn wsX8_read wsX3_becomeLike := goodIn_r _ [178, 18, 179, 180, 181, 182, 19, 183, 184, 185, 186, 187, 20, 21, 22, 205, 206, 207, 208, 209, 210, 211, 212, 213, 214] (by decide +kernel) (by decide +kernel)
set_option maxRecDepth 20000 in
theorem gX8_read_X3_becomeLike : GoodIn wsX8_read (wsV RX8 123 RX3 yX3_becomeLike wsX3_becomeLike) := goodIn_app (goodIn_of _ (by decide +kernel)) ggX8_read_X3_becomeLike
theorem dX8_read_0 : decode cX8_read 0 = .ok (.aload_n 0, 1) := by decide +kernel
theorem dX8_read_1 : decode cX8_read 1 = .ok (.getfield 28, 3) := by decide +kernel
theorem dX8_read_4 : decode cX8_read 4 = .ok (.aload_n 0, 1) := by decide +kernel
theorem dX8_read_5 : decode cX8_read 5 = .ok (.getfield 22, 3) := by decide +kernel
theorem dX8_read_8 : decode cX8_read 8 = .ok (.invokevirtual 119, 3) := by decide +kernel
theorem dX8_read_11 : decode cX8_read 11 = .ok (.istore_n 1, 1) := by decide +kernel
theorem dX8_read_12 : decode cX8_read 12 = .ok (.iload_n 1, 1) := by decide +kernel
theorem dX8_read_13 : decode cX8_read 13 = .ok (.ifCond .lt 14, 3) := by decide +kernel
theorem dX8_read_16 : decode cX8_read 16 = .ok (.aload_n 0, 1) := by decide +kernel
theorem dX8_read_17 : decode cX8_read 17 = .ok (.getfield 10, 3) := by decide +kernel
theorem dX8_read_20 : decode cX8_read 20 = .ok (.aload_n 0, 1) := by decide +kernel
theorem dX8_read_21 : decode cX8_read 21 = .ok (.getfield 22, 3) := by decide +kernel
theorem dX8_read_24 : decode cX8_read 24 = .ok (.invokevirtual 123, 3) := by decide +kernel
theorem dX8_read_27 : decode cX8_read 27 = .ok (.iload_n 1, 1) := by decide +kernel
theorem dX8_read_28 : decode cX8_read 28 = .ok (.ireturn, 1) := by decide +kernel
set_option maxRecDepth 20000 in
theorem ggX8_at_X8_isBranch : GoodIn wsX8_at wsX8_isBranch := goodIn_r _ [5, 6, 7, 4, 8] (by decide +kernel) (by decide +kernel)
set_option maxRecDepth 20000 in
theorem gX8_at_X8_isBranch : GoodIn wsX8_at (va_wsS RX8 86 yX8_isBranch wsX8_isBranch) := goodIn_app (goodIn_of _ (by decide +kernel)) ggX8_at_X8_isBranch
set_option maxRecDepth 20000 in
theorem ggX8_at_X8_refuse_ : GoodIn wsX8_at wsX8_refuse_ := goodIn_r _ [12, 13, 28, 29, 30, 31, 32, 33, 34, 35, 36, 37, 38] (by decide +kernel) (by decide +kernel)
set_option maxRecDepth 20000 in
theorem gX8_at_X8_refuse_ : GoodIn wsX8_at (wsV RX8 127 RX8 yX8_refuse_ wsX8_refuse_) := goodIn_app (goodIn_of _ (by decide +kernel)) ggX8_at_X8_refuse_
set_option maxRecDepth 20000 in
theorem ggX8_at_X3_taleOf : GoodIn wsX8_at wsX3_taleOf := goodIn_r _ [18, 19, 3, 4, 5, 6, 7, 8, 39, 40, 41, 42, 43, 44, 45, 46, 47, 48] (by decide +kernel) (by decide +kernel)
set_option maxRecDepth 20000 in
theorem gX8_at_X3_taleOf : GoodIn wsX8_at (wsV RX8 97 RX3 yX3_taleOf wsX3_taleOf) := goodIn_app (goodIn_of _ (by decide +kernel)) ggX8_at_X3_taleOf
set_option maxRecDepth 20000 in
theorem ggX8_at_X7_sizeOf : GoodIn wsX8_at wsX7_sizeOf := goodIn_r _ [23, 24] (by decide +kernel) (by decide +kernel)
set_option maxRecDepth 20000 in
theorem gX8_at_X7_sizeOf : GoodIn wsX8_at (va_wsS RX8 76 yX7_sizeOf wsX7_sizeOf) := goodIn_app (goodIn_of _ (by decide +kernel)) ggX8_at_X7_sizeOf
set_option maxRecDepth 20000 in
theorem ggX8_at_X7_partIn : GoodIn wsX8_at wsX7_partIn := goodIn_r _ [27] (by decide +kernel) (by decide +kernel)
set_option maxRecDepth 20000 in
theorem gX8_at_X7_partIn : GoodIn wsX8_at (va_wsS RX8 130 yX7_partIn wsX7_partIn) := goodIn_app (goodIn_of _ (by decide +kernel)) ggX8_at_X7_partIn
theorem dX8_at_0 : decode cX8_at 0 = .ok (.iload_n 1, 1) := by decide +kernel
theorem dX8_at_1 : decode cX8_at 1 = .ok (.invokestatic 86, 3) := by decide +kernel
theorem dX8_at_4 : decode cX8_at 4 = .ok (.ifCond .eq 8, 3) := by decide +kernel
theorem dX8_at_7 : decode cX8_at 7 = .ok (.iload_n 2, 1) := by decide +kernel
theorem dX8_at_8 : decode cX8_at 8 = .ok (.iconst (-1), 1) := by decide +kernel
theorem dX8_at_9 : decode cX8_at 9 = .ok (.if_icmp .ge 12, 3) := by decide +kernel
theorem dX8_at_12 : decode cX8_at 12 = .ok (.aload_n 0, 1) := by decide +kernel
theorem dX8_at_13 : decode cX8_at 13 = .ok (.bipush (-2), 2) := by decide +kernel
theorem dX8_at_15 : decode cX8_at 15 = .ok (.bipush (-10), 2) := by decide +kernel
theorem dX8_at_17 : decode cX8_at 17 = .ok (.invokevirtual 127, 3) := by decide +kernel
theorem dX8_at_20 : decode cX8_at 20 = .ok (.ireturn, 1) := by decide +kernel
theorem dX8_at_21 : decode cX8_at 21 = .ok (.aload_n 0, 1) := by decide +kernel
theorem dX8_at_22 : decode cX8_at 22 = .ok (.getfield 10, 3) := by decide +kernel
theorem dX8_at_25 : decode cX8_at 25 = .ok (.iload_n 1, 1) := by decide +kernel
theorem dX8_at_26 : decode cX8_at 26 = .ok (.invokevirtual 97, 3) := by decide +kernel
theorem dX8_at_29 : decode cX8_at 29 = .ok (.lstore_n 3, 1) := by decide +kernel
theorem dX8_at_30 : decode cX8_at 30 = .ok (.iload_n 2, 1) := by decide +kernel
theorem dX8_at_31 : decode cX8_at 31 = .ok (.iconst (-1), 1) := by decide +kernel
theorem dX8_at_32 : decode cX8_at 32 = .ok (.if_icmp .ne 8, 3) := by decide +kernel
theorem dX8_at_35 : decode cX8_at 35 = .ok (.lload_n 3, 1) := by decide +kernel
theorem dX8_at_36 : decode cX8_at 36 = .ok (.invokestatic 76, 3) := by decide +kernel
theorem dX8_at_39 : decode cX8_at 39 = .ok (.ireturn, 1) := by decide +kernel
theorem dX8_at_40 : decode cX8_at 40 = .ok (.iload_n 2, 1) := by decide +kernel
theorem dX8_at_41 : decode cX8_at 41 = .ok (.lload_n 3, 1) := by decide +kernel
theorem dX8_at_42 : decode cX8_at 42 = .ok (.invokestatic 76, 3) := by decide +kernel
theorem dX8_at_45 : decode cX8_at 45 = .ok (.if_icmp .ge 11, 3) := by decide +kernel
theorem dX8_at_48 : decode cX8_at 48 = .ok (.lload_n 3, 1) := by decide +kernel
theorem dX8_at_49 : decode cX8_at 49 = .ok (.iload_n 2, 1) := by decide +kernel
theorem dX8_at_50 : decode cX8_at 50 = .ok (.invokestatic 130, 3) := by decide +kernel
theorem dX8_at_53 : decode cX8_at 53 = .ok (.goto 5, 3) := by decide +kernel
theorem dX8_at_56 : decode cX8_at 56 = .ok (.bipush (-5), 2) := by decide +kernel
theorem dX8_at_58 : decode cX8_at 58 = .ok (.ireturn, 1) := by decide +kernel
set_option maxRecDepth 20000 in
theorem ggX8_parent_X8_isBranch : GoodIn wsX8_parent wsX8_isBranch := goodIn_r _ [5, 6, 7, 4, 8] (by decide +kernel) (by decide +kernel)
set_option maxRecDepth 20000 in
theorem gX8_parent_X8_isBranch : GoodIn wsX8_parent (va_wsS RX8 86 yX8_isBranch wsX8_isBranch) := goodIn_app (goodIn_of _ (by decide +kernel)) ggX8_parent_X8_isBranch
set_option maxRecDepth 20000 in
theorem ggX8_parent_X3_parentOf : GoodIn wsX8_parent wsX3_parentOf := goodIn_r _ [13, 14, 3, 4, 5, 6, 7, 8, 35, 36, 37, 38, 39, 40, 41, 42, 43, 44] (by decide +kernel) (by decide +kernel)
set_option maxRecDepth 20000 in
theorem gX8_parent_X3_parentOf : GoodIn wsX8_parent (wsV RX8 134 RX3 yX3_parentOf wsX3_parentOf) := goodIn_app (goodIn_of _ (by decide +kernel)) ggX8_parent_X3_parentOf
set_option maxRecDepth 20000 in
theorem ggX8_parent_X8_refuse : GoodIn wsX8_parent wsX8_refuse := goodIn_r _ [18, 19, 20, 21, 4, 22, 23, 24, 25, 26, 27, 28, 29, 30, 31, 32, 33, 34] (by decide +kernel) (by decide +kernel)
set_option maxRecDepth 20000 in
theorem gX8_parent_X8_refuse : GoodIn wsX8_parent (wsV RX8 68 RX8 yX8_refuse wsX8_refuse) := goodIn_app (goodIn_of _ (by decide +kernel)) ggX8_parent_X8_refuse
theorem dX8_parent_0 : decode cX8_parent 0 = .ok (.iload_n 1, 1) := by decide +kernel
theorem dX8_parent_1 : decode cX8_parent 1 = .ok (.invokestatic 86, 3) := by decide +kernel
theorem dX8_parent_4 : decode cX8_parent 4 = .ok (.ifCond .eq 14, 3) := by decide +kernel
theorem dX8_parent_7 : decode cX8_parent 7 = .ok (.aload_n 0, 1) := by decide +kernel
theorem dX8_parent_8 : decode cX8_parent 8 = .ok (.getfield 10, 3) := by decide +kernel
theorem dX8_parent_11 : decode cX8_parent 11 = .ok (.iload_n 1, 1) := by decide +kernel
theorem dX8_parent_12 : decode cX8_parent 12 = .ok (.invokevirtual 134, 3) := by decide +kernel
theorem dX8_parent_15 : decode cX8_parent 15 = .ok (.goto 9, 3) := by decide +kernel
theorem dX8_parent_18 : decode cX8_parent 18 = .ok (.aload_n 0, 1) := by decide +kernel
theorem dX8_parent_19 : decode cX8_parent 19 = .ok (.bipush (-2), 2) := by decide +kernel
theorem dX8_parent_21 : decode cX8_parent 21 = .ok (.invokevirtual 68, 3) := by decide +kernel
theorem dX8_parent_24 : decode cX8_parent 24 = .ok (.ireturn, 1) := by decide +kernel
set_option maxRecDepth 20000 in
theorem ggX8_pointless_X3_taleOf : GoodIn wsX8_pointless wsX3_taleOf := goodIn_r _ [6, 7, 8, 9, 10, 11, 12, 13, 39, 40, 41, 42, 43, 44, 45, 46, 47, 48] (by decide +kernel) (by decide +kernel)
set_option maxRecDepth 20000 in
theorem gX8_pointless_X3_taleOf : GoodIn wsX8_pointless (wsV RX8 97 RX3 yX3_taleOf wsX3_taleOf) := goodIn_app (goodIn_of _ (by decide +kernel)) ggX8_pointless_X3_taleOf
set_option maxRecDepth 20000 in
theorem ggX8_pointless_X7_has : GoodIn wsX8_pointless wsX7_has := goodIn_r _ [17, 18, 19, 16, 20, 21, 22, 23, 24, 25, 26, 27] (by decide +kernel) (by decide +kernel)
set_option maxRecDepth 20000 in
theorem gX8_pointless_X7_has : GoodIn wsX8_pointless (va_wsS RX8 137 yX7_has wsX7_has) := goodIn_app (goodIn_of _ (by decide +kernel)) ggX8_pointless_X7_has
theorem dX8_pointless_0 : decode cX8_pointless 0 = .ok (.iconst 0, 1) := by decide +kernel
theorem dX8_pointless_1 : decode cX8_pointless 1 = .ok (.istore_n 1, 1) := by decide +kernel
theorem dX8_pointless_2 : decode cX8_pointless 2 = .ok (.iload_n 1, 1) := by decide +kernel
theorem dX8_pointless_3 : decode cX8_pointless 3 = .ok (.bipush 8, 2) := by decide +kernel
theorem dX8_pointless_5 : decode cX8_pointless 5 = .ok (.if_icmp .ge 35, 3) := by decide +kernel
theorem dX8_pointless_8 : decode cX8_pointless 8 = .ok (.aload_n 0, 1) := by decide +kernel
theorem dX8_pointless_9 : decode cX8_pointless 9 = .ok (.getfield 10, 3) := by decide +kernel
theorem dX8_pointless_12 : decode cX8_pointless 12 = .ok (.iload_n 1, 1) := by decide +kernel
theorem dX8_pointless_13 : decode cX8_pointless 13 = .ok (.invokevirtual 97, 3) := by decide +kernel
theorem dX8_pointless_16 : decode cX8_pointless 16 = .ok (.lstore_n 2, 1) := by decide +kernel
theorem dX8_pointless_17 : decode cX8_pointless 17 = .ok (.lload_n 2, 1) := by decide +kernel
theorem dX8_pointless_18 : decode cX8_pointless 18 = .ok (.lconst 0, 1) := by decide +kernel
theorem dX8_pointless_19 : decode cX8_pointless 19 = .ok (.lcmp, 1) := by decide +kernel
theorem dX8_pointless_20 : decode cX8_pointless 20 = .ok (.ifCond .eq 14, 3) := by decide +kernel
theorem dX8_pointless_23 : decode cX8_pointless 23 = .ok (.lload_n 2, 1) := by decide +kernel
theorem dX8_pointless_24 : decode cX8_pointless 24 = .ok (.bipush 9, 2) := by decide +kernel
theorem dX8_pointless_26 : decode cX8_pointless 26 = .ok (.invokestatic 137, 3) := by decide +kernel
theorem dX8_pointless_29 : decode cX8_pointless 29 = .ok (.ifCond .ne 5, 3) := by decide +kernel
theorem dX8_pointless_32 : decode cX8_pointless 32 = .ok (.iload_n 1, 1) := by decide +kernel
theorem dX8_pointless_33 : decode cX8_pointless 33 = .ok (.ireturn, 1) := by decide +kernel
theorem dX8_pointless_34 : decode cX8_pointless 34 = .ok (.iinc 1 1, 3) := by decide +kernel
theorem dX8_pointless_37 : decode cX8_pointless 37 = .ok (.goto (-35), 3) := by decide +kernel
theorem dX8_pointless_40 : decode cX8_pointless 40 = .ok (.iconst (-1), 1) := by decide +kernel
theorem dX8_pointless_41 : decode cX8_pointless 41 = .ok (.ireturn, 1) := by decide +kernel
set_option maxRecDepth 20000 in
theorem ggX8_apart_X8_isBranch : GoodIn wsX8_apart wsX8_isBranch := goodIn_r _ [6, 7, 8, 5, 9] (by decide +kernel) (by decide +kernel)
set_option maxRecDepth 20000 in
theorem gX8_apart_X8_isBranch : GoodIn wsX8_apart (va_wsS RX8 86 yX8_isBranch wsX8_isBranch) := goodIn_app (goodIn_of _ (by decide +kernel)) ggX8_apart_X8_isBranch
set_option maxRecDepth 20000 in
theorem ggX8_apart_X8_refuse : GoodIn wsX8_apart wsX8_refuse := goodIn_r _ [13, 14, 15, 16, 5, 17, 18, 47, 48, 49, 50, 51, 52, 53, 54, 55, 56, 57] (by decide +kernel) (by decide +kernel)
set_option maxRecDepth 20000 in
theorem gX8_apart_X8_refuse : GoodIn wsX8_apart (wsV RX8 68 RX8 yX8_refuse wsX8_refuse) := goodIn_app (goodIn_of _ (by decide +kernel)) ggX8_apart_X8_refuse
set_option maxRecDepth 20000 in
theorem ggX8_apart_X3_taleOf : GoodIn wsX8_apart wsX3_taleOf := goodIn_r _ [23, 24, 4, 5, 6, 7, 8, 9, 58, 59, 60, 61, 62, 63, 64, 65, 66, 67] (by decide +kernel) (by decide +kernel)
set_option maxRecDepth 20000 in
theorem gX8_apart_X3_taleOf : GoodIn wsX8_apart (wsV RX8 97 RX3 yX3_taleOf wsX3_taleOf) := goodIn_app (goodIn_of _ (by decide +kernel)) ggX8_apart_X3_taleOf
set_option maxRecDepth 20000 in
theorem ggX8_apart_X5_between : GoodIn wsX8_apart wsX5_between := goodIn_r _ [29, 30, 31, 32, 33, 34, 35, 36, 37, 38, 28, 39, 40, 41, 42, 43, 44, 45, 46, 68] (by decide +kernel) (by decide +kernel)
set_option maxRecDepth 20000 in
theorem gX8_apart_X5_between : GoodIn wsX8_apart (wsV RX8 141 RX5 yX5_between wsX5_between) := goodIn_app (goodIn_of _ (by decide +kernel)) ggX8_apart_X5_between
theorem dX8_apart_0 : decode cX8_apart 0 = .ok (.iload_n 1, 1) := by decide +kernel
theorem dX8_apart_1 : decode cX8_apart 1 = .ok (.invokestatic 86, 3) := by decide +kernel
theorem dX8_apart_4 : decode cX8_apart 4 = .ok (.ifCond .eq 10, 3) := by decide +kernel
theorem dX8_apart_7 : decode cX8_apart 7 = .ok (.iload_n 2, 1) := by decide +kernel
theorem dX8_apart_8 : decode cX8_apart 8 = .ok (.invokestatic 86, 3) := by decide +kernel
theorem dX8_apart_11 : decode cX8_apart 11 = .ok (.ifCond .ne 10, 3) := by decide +kernel
theorem dX8_apart_14 : decode cX8_apart 14 = .ok (.aload_n 0, 1) := by decide +kernel
theorem dX8_apart_15 : decode cX8_apart 15 = .ok (.bipush (-2), 2) := by decide +kernel
theorem dX8_apart_17 : decode cX8_apart 17 = .ok (.invokevirtual 68, 3) := by decide +kernel
theorem dX8_apart_20 : decode cX8_apart 20 = .ok (.ireturn, 1) := by decide +kernel
theorem dX8_apart_21 : decode cX8_apart 21 = .ok (.aload_n 0, 1) := by decide +kernel
theorem dX8_apart_22 : decode cX8_apart 22 = .ok (.getfield 35, 3) := by decide +kernel
theorem dX8_apart_25 : decode cX8_apart 25 = .ok (.aload_n 0, 1) := by decide +kernel
theorem dX8_apart_26 : decode cX8_apart 26 = .ok (.getfield 10, 3) := by decide +kernel
theorem dX8_apart_29 : decode cX8_apart 29 = .ok (.iload_n 1, 1) := by decide +kernel
theorem dX8_apart_30 : decode cX8_apart 30 = .ok (.invokevirtual 97, 3) := by decide +kernel
theorem dX8_apart_33 : decode cX8_apart 33 = .ok (.aload_n 0, 1) := by decide +kernel
theorem dX8_apart_34 : decode cX8_apart 34 = .ok (.getfield 10, 3) := by decide +kernel
theorem dX8_apart_37 : decode cX8_apart 37 = .ok (.iload_n 2, 1) := by decide +kernel
theorem dX8_apart_38 : decode cX8_apart 38 = .ok (.invokevirtual 97, 3) := by decide +kernel
theorem dX8_apart_41 : decode cX8_apart 41 = .ok (.invokevirtual 141, 3) := by decide +kernel
theorem dX8_apart_44 : decode cX8_apart 44 = .ok (.ireturn, 1) := by decide +kernel
set_option maxRecDepth 20000 in
theorem ggX8_first_X8_isUpTo : GoodIn wsX8_first wsX8_isUpTo := goodIn_r _ [4] (by decide +kernel) (by decide +kernel)
set_option maxRecDepth 20000 in
theorem gX8_first_X8_isUpTo : GoodIn wsX8_first (va_wsS RX8 93 yX8_isUpTo wsX8_isUpTo) := goodIn_app (goodIn_of _ (by decide +kernel)) ggX8_first_X8_isUpTo
set_option maxRecDepth 20000 in
theorem ggX8_first_X8_refuse : GoodIn wsX8_first wsX8_refuse := goodIn_r _ [8, 9, 10, 11, 3, 12, 13, 50, 51, 52, 53, 54, 55, 56, 57, 58, 59, 60] (by decide +kernel) (by decide +kernel)
set_option maxRecDepth 20000 in
theorem gX8_first_X8_refuse : GoodIn wsX8_first (wsV RX8 68 RX8 yX8_refuse wsX8_refuse) := goodIn_app (goodIn_of _ (by decide +kernel)) ggX8_first_X8_refuse
set_option maxRecDepth 20000 in
theorem ggX8_first_X8_slipsFromOthers : GoodIn wsX8_first wsX8_slipsFromOthers := goodIn_r _ [17, 18, 19, 20, 21, 22, 23, 24, 25, 26, 3, 27, 1, 2, 4, 28, 29, 30, 31, 32, 33, 34, 35, 36, 37, 38, 39, 40, 41, 42, 43, 44, 45, 46, 47, 48, 49, 50, 51, 52, 53, 54, 55, 56, 57, 58, 59, 60, 61, 62, 63, 64, 65, 66, 67, 68, 69, 70, 71] (by decide +kernel) (by decide +kernel)
set_option maxRecDepth 20000 in
theorem gX8_first_X8_slipsFromOthers : GoodIn wsX8_first (wsV RX8 145 RX8 yX8_slipsFromOthers wsX8_slipsFromOthers) := goodIn_app (goodIn_of _ (by decide +kernel)) ggX8_first_X8_slipsFromOthers
theorem dX8_first_0 : decode cX8_first 0 = .ok (.iload_n 1, 1) := by decide +kernel
theorem dX8_first_1 : decode cX8_first 1 = .ok (.iconst 1, 1) := by decide +kernel
theorem dX8_first_2 : decode cX8_first 2 = .ok (.invokestatic 93, 3) := by decide +kernel
theorem dX8_first_5 : decode cX8_first 5 = .ok (.ifCond .ne 10, 3) := by decide +kernel
theorem dX8_first_8 : decode cX8_first 8 = .ok (.aload_n 0, 1) := by decide +kernel
theorem dX8_first_9 : decode cX8_first 9 = .ok (.bipush (-2), 2) := by decide +kernel
theorem dX8_first_11 : decode cX8_first 11 = .ok (.invokevirtual 68, 3) := by decide +kernel
theorem dX8_first_14 : decode cX8_first 14 = .ok (.ireturn, 1) := by decide +kernel
theorem dX8_first_15 : decode cX8_first 15 = .ok (.iconst (-1), 1) := by decide +kernel
theorem dX8_first_16 : decode cX8_first 16 = .ok (.istore_n 2, 1) := by decide +kernel
theorem dX8_first_17 : decode cX8_first 17 = .ok (.iconst (-1), 1) := by decide +kernel
theorem dX8_first_18 : decode cX8_first 18 = .ok (.istore_n 3, 1) := by decide +kernel
theorem dX8_first_19 : decode cX8_first 19 = .ok (.iconst 0, 1) := by decide +kernel
theorem dX8_first_20 : decode cX8_first 20 = .ok (.istore 4, 2) := by decide +kernel
theorem dX8_first_22 : decode cX8_first 22 = .ok (.iload 4, 2) := by decide +kernel
theorem dX8_first_24 : decode cX8_first 24 = .ok (.bipush 8, 2) := by decide +kernel
theorem dX8_first_26 : decode cX8_first 26 = .ok (.if_icmp .ge 40, 3) := by decide +kernel
theorem dX8_first_29 : decode cX8_first 29 = .ok (.aload_n 0, 1) := by decide +kernel
theorem dX8_first_30 : decode cX8_first 30 = .ok (.iload 4, 2) := by decide +kernel
theorem dX8_first_32 : decode cX8_first 32 = .ok (.invokevirtual 145, 3) := by decide +kernel
theorem dX8_first_35 : decode cX8_first 35 = .ok (.istore 5, 2) := by decide +kernel
theorem dX8_first_37 : decode cX8_first 37 = .ok (.iload 5, 2) := by decide +kernel
theorem dX8_first_39 : decode cX8_first 39 = .ok (.iconst (-1), 1) := by decide +kernel
theorem dX8_first_40 : decode cX8_first 40 = .ok (.if_icmp .eq 20, 3) := by decide +kernel
theorem dX8_first_43 : decode cX8_first 43 = .ok (.iload_n 2, 1) := by decide +kernel
theorem dX8_first_44 : decode cX8_first 44 = .ok (.iconst (-1), 1) := by decide +kernel
theorem dX8_first_45 : decode cX8_first 45 = .ok (.if_icmp .eq 9, 3) := by decide +kernel
theorem dX8_first_48 : decode cX8_first 48 = .ok (.iload 5, 2) := by decide +kernel
theorem dX8_first_50 : decode cX8_first 50 = .ok (.iload_n 3, 1) := by decide +kernel
theorem dX8_first_51 : decode cX8_first 51 = .ok (.if_icmp .ge 9, 3) := by decide +kernel
theorem dX8_first_54 : decode cX8_first 54 = .ok (.iload 4, 2) := by decide +kernel
theorem dX8_first_56 : decode cX8_first 56 = .ok (.istore_n 2, 1) := by decide +kernel
theorem dX8_first_57 : decode cX8_first 57 = .ok (.iload 5, 2) := by decide +kernel
theorem dX8_first_59 : decode cX8_first 59 = .ok (.istore_n 3, 1) := by decide +kernel
theorem dX8_first_60 : decode cX8_first 60 = .ok (.iinc 4 1, 3) := by decide +kernel
theorem dX8_first_63 : decode cX8_first 63 = .ok (.goto (-41), 3) := by decide +kernel
theorem dX8_first_66 : decode cX8_first 66 = .ok (.iload_n 1, 1) := by decide +kernel
theorem dX8_first_67 : decode cX8_first 67 = .ok (.ifCond .ne 7, 3) := by decide +kernel
theorem dX8_first_70 : decode cX8_first 70 = .ok (.iload_n 2, 1) := by decide +kernel
theorem dX8_first_71 : decode cX8_first 71 = .ok (.goto 4, 3) := by decide +kernel
theorem dX8_first_74 : decode cX8_first 74 = .ok (.iload_n 3, 1) := by decide +kernel
theorem dX8_first_75 : decode cX8_first 75 = .ok (.ireturn, 1) := by decide +kernel
set_option maxRecDepth 20000 in
theorem ggX8_older_X8_isBranch : GoodIn wsX8_older wsX8_isBranch := goodIn_r _ [5, 6, 7, 4, 8] (by decide +kernel) (by decide +kernel)
set_option maxRecDepth 20000 in
theorem gX8_older_X8_isBranch : GoodIn wsX8_older (va_wsS RX8 86 yX8_isBranch wsX8_isBranch) := goodIn_app (goodIn_of _ (by decide +kernel)) ggX8_older_X8_isBranch
set_option maxRecDepth 20000 in
theorem ggX8_older_X8_refuse : GoodIn wsX8_older wsX8_refuse := goodIn_r _ [12, 13, 14, 15, 4, 16, 17, 49, 50, 51, 52, 53, 54, 55, 56, 57, 58, 59] (by decide +kernel) (by decide +kernel)
set_option maxRecDepth 20000 in
theorem gX8_older_X8_refuse : GoodIn wsX8_older (wsV RX8 68 RX8 yX8_refuse wsX8_refuse) := goodIn_app (goodIn_of _ (by decide +kernel)) ggX8_older_X8_refuse
set_option maxRecDepth 20000 in
theorem ggX8_older_X3_taleOf : GoodIn wsX8_older wsX3_taleOf := goodIn_r _ [22, 23, 3, 4, 5, 6, 7, 8, 60, 61, 62, 63, 64, 65, 66, 67, 68, 69] (by decide +kernel) (by decide +kernel)
set_option maxRecDepth 20000 in
theorem gX8_older_X3_taleOf : GoodIn wsX8_older (wsV RX8 97 RX3 yX3_taleOf wsX3_taleOf) := goodIn_app (goodIn_of _ (by decide +kernel)) ggX8_older_X3_taleOf
set_option maxRecDepth 20000 in
theorem ggX8_older_X7_unlike : GoodIn wsX8_older wsX7_unlike := goodIn_r _ [27, 28, 29, 26, 30, 31, 32, 33, 34, 35, 36, 37, 38, 39, 40, 41, 42, 43, 44] (by decide +kernel) (by decide +kernel)
set_option maxRecDepth 20000 in
theorem gX8_older_X7_unlike : GoodIn wsX8_older (va_wsS RX8 148 yX7_unlike wsX7_unlike) := goodIn_app (goodIn_of _ (by decide +kernel)) ggX8_older_X7_unlike
set_option maxRecDepth 20000 in
theorem ggX8_older_J6_compare_7cf53 : GoodIn wsX8_older wsJ6_compare_7cf53 := goodIn_r _ [47] (by decide +kernel) (by decide +kernel)
set_option maxRecDepth 20000 in
theorem gX8_older_J6_compare_7cf53 : GoodIn wsX8_older (va_wsS RX8 151 yJ6_compare_7cf53 wsJ6_compare_7cf53) := goodIn_app (goodIn_of _ (by decide +kernel)) ggX8_older_J6_compare_7cf53
set_option maxRecDepth 20000 in
theorem ggX8_older_X7_sizeOf : GoodIn wsX8_older wsX7_sizeOf := goodIn_r _ [33, 34] (by decide +kernel) (by decide +kernel)
set_option maxRecDepth 20000 in
theorem gX8_older_X7_sizeOf : GoodIn wsX8_older (va_wsS RX8 76 yX7_sizeOf wsX7_sizeOf) := goodIn_app (goodIn_of _ (by decide +kernel)) ggX8_older_X7_sizeOf
theorem dX8_older_0 : decode cX8_older 0 = .ok (.iload_n 1, 1) := by decide +kernel
theorem dX8_older_1 : decode cX8_older 1 = .ok (.invokestatic 86, 3) := by decide +kernel
theorem dX8_older_4 : decode cX8_older 4 = .ok (.ifCond .eq 10, 3) := by decide +kernel
theorem dX8_older_7 : decode cX8_older 7 = .ok (.iload_n 2, 1) := by decide +kernel
theorem dX8_older_8 : decode cX8_older 8 = .ok (.invokestatic 86, 3) := by decide +kernel
theorem dX8_older_11 : decode cX8_older 11 = .ok (.ifCond .ne 10, 3) := by decide +kernel
theorem dX8_older_14 : decode cX8_older 14 = .ok (.aload_n 0, 1) := by decide +kernel
theorem dX8_older_15 : decode cX8_older 15 = .ok (.bipush (-2), 2) := by decide +kernel
theorem dX8_older_17 : decode cX8_older 17 = .ok (.invokevirtual 68, 3) := by decide +kernel
theorem dX8_older_20 : decode cX8_older 20 = .ok (.ireturn, 1) := by decide +kernel
theorem dX8_older_21 : decode cX8_older 21 = .ok (.aload_n 0, 1) := by decide +kernel
theorem dX8_older_22 : decode cX8_older 22 = .ok (.getfield 10, 3) := by decide +kernel
theorem dX8_older_25 : decode cX8_older 25 = .ok (.iload_n 1, 1) := by decide +kernel
theorem dX8_older_26 : decode cX8_older 26 = .ok (.invokevirtual 97, 3) := by decide +kernel
theorem dX8_older_29 : decode cX8_older 29 = .ok (.lstore_n 3, 1) := by decide +kernel
theorem dX8_older_30 : decode cX8_older 30 = .ok (.aload_n 0, 1) := by decide +kernel
theorem dX8_older_31 : decode cX8_older 31 = .ok (.getfield 10, 3) := by decide +kernel
theorem dX8_older_34 : decode cX8_older 34 = .ok (.iload_n 2, 1) := by decide +kernel
theorem dX8_older_35 : decode cX8_older 35 = .ok (.invokevirtual 97, 3) := by decide +kernel
theorem dX8_older_38 : decode cX8_older 38 = .ok (.lstore 5, 2) := by decide +kernel
theorem dX8_older_40 : decode cX8_older 40 = .ok (.lload_n 3, 1) := by decide +kernel
theorem dX8_older_41 : decode cX8_older 41 = .ok (.invokestatic 148, 3) := by decide +kernel
theorem dX8_older_44 : decode cX8_older 44 = .ok (.lload 5, 2) := by decide +kernel
theorem dX8_older_46 : decode cX8_older 46 = .ok (.invokestatic 148, 3) := by decide +kernel
theorem dX8_older_49 : decode cX8_older 49 = .ok (.invokestatic 151, 3) := by decide +kernel
theorem dX8_older_52 : decode cX8_older 52 = .ok (.istore 7, 2) := by decide +kernel
theorem dX8_older_54 : decode cX8_older 54 = .ok (.iload 7, 2) := by decide +kernel
theorem dX8_older_56 : decode cX8_older 56 = .ok (.ifCond .ne 17, 3) := by decide +kernel
theorem dX8_older_59 : decode cX8_older 59 = .ok (.lload_n 3, 1) := by decide +kernel
theorem dX8_older_60 : decode cX8_older 60 = .ok (.invokestatic 76, 3) := by decide +kernel
theorem dX8_older_63 : decode cX8_older 63 = .ok (.lload 5, 2) := by decide +kernel
theorem dX8_older_65 : decode cX8_older 65 = .ok (.invokestatic 76, 3) := by decide +kernel
theorem dX8_older_68 : decode cX8_older 68 = .ok (.invokestatic 151, 3) := by decide +kernel
theorem dX8_older_71 : decode cX8_older 71 = .ok (.istore 7, 2) := by decide +kernel
theorem dX8_older_73 : decode cX8_older 73 = .ok (.iload 7, 2) := by decide +kernel
theorem dX8_older_75 : decode cX8_older 75 = .ok (.ifCond .ne 5, 3) := by decide +kernel
theorem dX8_older_78 : decode cX8_older 78 = .ok (.iconst 2, 1) := by decide +kernel
theorem dX8_older_79 : decode cX8_older 79 = .ok (.ireturn, 1) := by decide +kernel
theorem dX8_older_80 : decode cX8_older 80 = .ok (.iload 7, 2) := by decide +kernel
theorem dX8_older_82 : decode cX8_older 82 = .ok (.ifCond .le 7, 3) := by decide +kernel
theorem dX8_older_85 : decode cX8_older 85 = .ok (.iconst 0, 1) := by decide +kernel
theorem dX8_older_86 : decode cX8_older 86 = .ok (.goto 4, 3) := by decide +kernel
theorem dX8_older_89 : decode cX8_older 89 = .ok (.iconst 1, 1) := by decide +kernel
theorem dX8_older_90 : decode cX8_older 90 = .ok (.ireturn, 1) := by decide +kernel
set_option maxRecDepth 20000 in
theorem ggX8_fits_X8_isBranch : GoodIn wsX8_fits wsX8_isBranch := goodIn_r _ [6, 7, 8, 5, 9] (by decide +kernel) (by decide +kernel)
set_option maxRecDepth 20000 in
theorem gX8_fits_X8_isBranch : GoodIn wsX8_fits (va_wsS RX8 86 yX8_isBranch wsX8_isBranch) := goodIn_app (goodIn_of _ (by decide +kernel)) ggX8_fits_X8_isBranch
set_option maxRecDepth 20000 in
theorem ggX8_fits_X8_isUpTo : GoodIn wsX8_fits wsX8_isUpTo := goodIn_r _ [9] (by decide +kernel) (by decide +kernel)
set_option maxRecDepth 20000 in
theorem gX8_fits_X8_isUpTo : GoodIn wsX8_fits (va_wsS RX8 93 yX8_isUpTo wsX8_isUpTo) := goodIn_app (goodIn_of _ (by decide +kernel)) ggX8_fits_X8_isUpTo
set_option maxRecDepth 20000 in
theorem ggX8_fits_X8_refuse_ : GoodIn wsX8_fits wsX8_refuse_ := goodIn_r _ [13, 14, 45, 46, 47, 48, 49, 50, 51, 52, 53, 54, 55] (by decide +kernel) (by decide +kernel)
set_option maxRecDepth 20000 in
theorem gX8_fits_X8_refuse_ : GoodIn wsX8_fits (wsV RX8 127 RX8 yX8_refuse_ wsX8_refuse_) := goodIn_app (goodIn_of _ (by decide +kernel)) ggX8_fits_X8_refuse_
set_option maxRecDepth 20000 in
theorem ggX8_fits_X3_taleOf : GoodIn wsX8_fits wsX3_taleOf := goodIn_r _ [19, 20, 4, 5, 6, 7, 8, 9, 56, 57, 58, 59, 60, 61, 62, 63, 64, 65] (by decide +kernel) (by decide +kernel)
set_option maxRecDepth 20000 in
theorem gX8_fits_X3_taleOf : GoodIn wsX8_fits (wsV RX8 97 RX3 yX3_taleOf wsX3_taleOf) := goodIn_app (goodIn_of _ (by decide +kernel)) ggX8_fits_X3_taleOf
set_option maxRecDepth 20000 in
theorem ggX8_fits_X7_placesOf : GoodIn wsX8_fits wsX7_placesOf := goodIn_r _ [24, 25, 26, 23, 27, 28, 29, 30, 31, 32, 33, 34] (by decide +kernel) (by decide +kernel)
set_option maxRecDepth 20000 in
theorem gX8_fits_X7_placesOf : GoodIn wsX8_fits (va_wsS RX8 156 yX7_placesOf wsX7_placesOf) := goodIn_app (goodIn_of _ (by decide +kernel)) ggX8_fits_X7_placesOf
set_option maxRecDepth 20000 in
theorem ggX8_fits_J6_bitCount_0f7a4 : GoodIn wsX8_fits wsJ6_bitCount_0f7a4 := goodIn_r _ [38, 39, 40, 41] (by decide +kernel) (by decide +kernel)
set_option maxRecDepth 20000 in
theorem gX8_fits_J6_bitCount_0f7a4 : GoodIn wsX8_fits (va_wsS RX8 159 yJ6_bitCount_0f7a4 wsJ6_bitCount_0f7a4) := goodIn_app (goodIn_of _ (by decide +kernel)) ggX8_fits_J6_bitCount_0f7a4
set_option maxRecDepth 20000 in
theorem ggX8_fits_X8_lowestOf : GoodIn wsX8_fits wsX8_lowestOf := goodIn_r _ [44] (by decide +kernel) (by decide +kernel)
set_option maxRecDepth 20000 in
theorem gX8_fits_X8_lowestOf : GoodIn wsX8_fits (va_wsS RX8 162 yX8_lowestOf wsX8_lowestOf) := goodIn_app (goodIn_of _ (by decide +kernel)) ggX8_fits_X8_lowestOf
theorem dX8_fits_0 : decode cX8_fits 0 = .ok (.iload_n 1, 1) := by decide +kernel
theorem dX8_fits_1 : decode cX8_fits 1 = .ok (.invokestatic 86, 3) := by decide +kernel
theorem dX8_fits_4 : decode cX8_fits 4 = .ok (.ifCond .eq 11, 3) := by decide +kernel
theorem dX8_fits_7 : decode cX8_fits 7 = .ok (.iload_n 2, 1) := by decide +kernel
theorem dX8_fits_8 : decode cX8_fits 8 = .ok (.iconst 1, 1) := by decide +kernel
theorem dX8_fits_9 : decode cX8_fits 9 = .ok (.invokestatic 93, 3) := by decide +kernel
theorem dX8_fits_12 : decode cX8_fits 12 = .ok (.ifCond .ne 12, 3) := by decide +kernel
theorem dX8_fits_15 : decode cX8_fits 15 = .ok (.aload_n 0, 1) := by decide +kernel
theorem dX8_fits_16 : decode cX8_fits 16 = .ok (.bipush (-2), 2) := by decide +kernel
theorem dX8_fits_18 : decode cX8_fits 18 = .ok (.bipush (-10), 2) := by decide +kernel
theorem dX8_fits_20 : decode cX8_fits 20 = .ok (.invokevirtual 127, 3) := by decide +kernel
theorem dX8_fits_23 : decode cX8_fits 23 = .ok (.ireturn, 1) := by decide +kernel
theorem dX8_fits_24 : decode cX8_fits 24 = .ok (.aload_n 0, 1) := by decide +kernel
theorem dX8_fits_25 : decode cX8_fits 25 = .ok (.getfield 10, 3) := by decide +kernel
theorem dX8_fits_28 : decode cX8_fits 28 = .ok (.getfield 72, 3) := by decide +kernel
theorem dX8_fits_31 : decode cX8_fits 31 = .ok (.aload_n 0, 1) := by decide +kernel
theorem dX8_fits_32 : decode cX8_fits 32 = .ok (.getfield 10, 3) := by decide +kernel
theorem dX8_fits_35 : decode cX8_fits 35 = .ok (.iload_n 1, 1) := by decide +kernel
theorem dX8_fits_36 : decode cX8_fits 36 = .ok (.invokevirtual 97, 3) := by decide +kernel
theorem dX8_fits_39 : decode cX8_fits 39 = .ok (.invokestatic 156, 3) := by decide +kernel
theorem dX8_fits_42 : decode cX8_fits 42 = .ok (.istore_n 3, 1) := by decide +kernel
theorem dX8_fits_43 : decode cX8_fits 43 = .ok (.iload_n 2, 1) := by decide +kernel
theorem dX8_fits_44 : decode cX8_fits 44 = .ok (.ifCond .ne 8, 3) := by decide +kernel
theorem dX8_fits_47 : decode cX8_fits 47 = .ok (.iload_n 3, 1) := by decide +kernel
theorem dX8_fits_48 : decode cX8_fits 48 = .ok (.invokestatic 159, 3) := by decide +kernel
theorem dX8_fits_51 : decode cX8_fits 51 = .ok (.ireturn, 1) := by decide +kernel
theorem dX8_fits_52 : decode cX8_fits 52 = .ok (.iload_n 3, 1) := by decide +kernel
theorem dX8_fits_53 : decode cX8_fits 53 = .ok (.invokestatic 162, 3) := by decide +kernel
theorem dX8_fits_56 : decode cX8_fits 56 = .ok (.ireturn, 1) := by decide +kernel
set_option maxRecDepth 20000 in
theorem ggX8_covers_X8_isBranch : GoodIn wsX8_covers wsX8_isBranch := goodIn_r _ [6, 7, 8, 5, 9] (by decide +kernel) (by decide +kernel)
set_option maxRecDepth 20000 in
theorem gX8_covers_X8_isBranch : GoodIn wsX8_covers (va_wsS RX8 86 yX8_isBranch wsX8_isBranch) := goodIn_app (goodIn_of _ (by decide +kernel)) ggX8_covers_X8_isBranch
set_option maxRecDepth 20000 in
theorem ggX8_covers_X8_refuse : GoodIn wsX8_covers wsX8_refuse := goodIn_r _ [13, 14, 15, 16, 5, 17, 18, 42, 43, 44, 45, 46, 47, 48, 49, 50, 51, 52] (by decide +kernel) (by decide +kernel)
set_option maxRecDepth 20000 in
theorem gX8_covers_X8_refuse : GoodIn wsX8_covers (wsV RX8 68 RX8 yX8_refuse wsX8_refuse) := goodIn_app (goodIn_of _ (by decide +kernel)) ggX8_covers_X8_refuse
set_option maxRecDepth 20000 in
theorem ggX8_covers_X3_taleOf : GoodIn wsX8_covers wsX3_taleOf := goodIn_r _ [23, 24, 4, 5, 6, 7, 8, 9, 53, 54, 55, 56, 57, 58, 59, 60, 61, 62] (by decide +kernel) (by decide +kernel)
set_option maxRecDepth 20000 in
theorem gX8_covers_X3_taleOf : GoodIn wsX8_covers (wsV RX8 97 RX3 yX3_taleOf wsX3_taleOf) := goodIn_app (goodIn_of _ (by decide +kernel)) ggX8_covers_X3_taleOf
set_option maxRecDepth 20000 in
theorem ggX8_covers_X7_isCovered : GoodIn wsX8_covers wsX7_isCovered := goodIn_r _ [28, 29, 30, 27, 31, 32, 33, 34, 35, 36, 37, 38, 39, 40, 41] (by decide +kernel) (by decide +kernel)
set_option maxRecDepth 20000 in
theorem gX8_covers_X7_isCovered : GoodIn wsX8_covers (va_wsS RX8 165 yX7_isCovered wsX7_isCovered) := goodIn_app (goodIn_of _ (by decide +kernel)) ggX8_covers_X7_isCovered
theorem dX8_covers_0 : decode cX8_covers 0 = .ok (.iload_n 1, 1) := by decide +kernel
theorem dX8_covers_1 : decode cX8_covers 1 = .ok (.invokestatic 86, 3) := by decide +kernel
theorem dX8_covers_4 : decode cX8_covers 4 = .ok (.ifCond .ne 10, 3) := by decide +kernel
theorem dX8_covers_7 : decode cX8_covers 7 = .ok (.aload_n 0, 1) := by decide +kernel
theorem dX8_covers_8 : decode cX8_covers 8 = .ok (.bipush (-2), 2) := by decide +kernel
theorem dX8_covers_10 : decode cX8_covers 10 = .ok (.invokevirtual 68, 3) := by decide +kernel
theorem dX8_covers_13 : decode cX8_covers 13 = .ok (.ireturn, 1) := by decide +kernel
theorem dX8_covers_14 : decode cX8_covers 14 = .ok (.aload_n 0, 1) := by decide +kernel
theorem dX8_covers_15 : decode cX8_covers 15 = .ok (.getfield 10, 3) := by decide +kernel
theorem dX8_covers_18 : decode cX8_covers 18 = .ok (.iload_n 1, 1) := by decide +kernel
theorem dX8_covers_19 : decode cX8_covers 19 = .ok (.invokevirtual 97, 3) := by decide +kernel
theorem dX8_covers_22 : decode cX8_covers 22 = .ok (.aload_n 0, 1) := by decide +kernel
theorem dX8_covers_23 : decode cX8_covers 23 = .ok (.getfield 10, 3) := by decide +kernel
theorem dX8_covers_26 : decode cX8_covers 26 = .ok (.getfield 72, 3) := by decide +kernel
theorem dX8_covers_29 : decode cX8_covers 29 = .ok (.invokestatic 165, 3) := by decide +kernel
theorem dX8_covers_32 : decode cX8_covers 32 = .ok (.ifCond .eq 7, 3) := by decide +kernel
theorem dX8_covers_35 : decode cX8_covers 35 = .ok (.iconst 1, 1) := by decide +kernel
theorem dX8_covers_36 : decode cX8_covers 36 = .ok (.goto 4, 3) := by decide +kernel
theorem dX8_covers_39 : decode cX8_covers 39 = .ok (.iconst 0, 1) := by decide +kernel
theorem dX8_covers_40 : decode cX8_covers 40 = .ok (.ireturn, 1) := by decide +kernel
set_option maxRecDepth 20000 in
theorem ggX8_heard_X8_isPart : GoodIn wsX8_heard wsX8_isPart := goodIn_r _ [6, 7, 8, 5, 9] (by decide +kernel) (by decide +kernel)
set_option maxRecDepth 20000 in
theorem gX8_heard_X8_isPart : GoodIn wsX8_heard (va_wsS RX8 64 yX8_isPart wsX8_isPart) := goodIn_app (goodIn_of _ (by decide +kernel)) ggX8_heard_X8_isPart
set_option maxRecDepth 20000 in
theorem ggX8_heard_X8_isUpTo : GoodIn wsX8_heard wsX8_isUpTo := goodIn_r _ [9] (by decide +kernel) (by decide +kernel)
set_option maxRecDepth 20000 in
theorem gX8_heard_X8_isUpTo : GoodIn wsX8_heard (va_wsS RX8 93 yX8_isUpTo wsX8_isUpTo) := goodIn_app (goodIn_of _ (by decide +kernel)) ggX8_heard_X8_isUpTo
set_option maxRecDepth 20000 in
theorem ggX8_heard_X8_refuse : GoodIn wsX8_heard wsX8_refuse := goodIn_r _ [13, 14, 15, 16, 5, 17, 18, 27, 28, 29, 30, 31, 32, 33, 34, 35, 36, 37] (by decide +kernel) (by decide +kernel)
set_option maxRecDepth 20000 in
theorem gX8_heard_X8_refuse : GoodIn wsX8_heard (wsV RX8 68 RX8 yX8_refuse wsX8_refuse) := goodIn_app (goodIn_of _ (by decide +kernel)) ggX8_heard_X8_refuse
set_option maxRecDepth 20000 in
theorem ggX8_heard_X3_hear : GoodIn wsX8_heard wsX3_hear := goodIn_r _ [23, 24, 25, 26, 8, 5, 9, 38, 39, 40, 41, 42, 43, 44, 45, 46, 47] (by decide +kernel) (by decide +kernel)
set_option maxRecDepth 20000 in
theorem gX8_heard_X3_hear : GoodIn wsX8_heard (wsV RX8 172 RX3 yX3_hear wsX3_hear) := goodIn_app (goodIn_of _ (by decide +kernel)) ggX8_heard_X3_hear
theorem dX8_heard_0 : decode cX8_heard 0 = .ok (.iload_n 1, 1) := by decide +kernel
theorem dX8_heard_1 : decode cX8_heard 1 = .ok (.invokestatic 64, 3) := by decide +kernel
theorem dX8_heard_4 : decode cX8_heard 4 = .ok (.ifCond .eq 11, 3) := by decide +kernel
theorem dX8_heard_7 : decode cX8_heard 7 = .ok (.iload_n 2, 1) := by decide +kernel
theorem dX8_heard_8 : decode cX8_heard 8 = .ok (.iconst 1, 1) := by decide +kernel
theorem dX8_heard_9 : decode cX8_heard 9 = .ok (.invokestatic 93, 3) := by decide +kernel
theorem dX8_heard_12 : decode cX8_heard 12 = .ok (.ifCond .ne 10, 3) := by decide +kernel
theorem dX8_heard_15 : decode cX8_heard 15 = .ok (.aload_n 0, 1) := by decide +kernel
theorem dX8_heard_16 : decode cX8_heard 16 = .ok (.bipush (-2), 2) := by decide +kernel
theorem dX8_heard_18 : decode cX8_heard 18 = .ok (.invokevirtual 68, 3) := by decide +kernel
theorem dX8_heard_21 : decode cX8_heard 21 = .ok (.ireturn, 1) := by decide +kernel
theorem dX8_heard_22 : decode cX8_heard 22 = .ok (.aload_n 0, 1) := by decide +kernel
theorem dX8_heard_23 : decode cX8_heard 23 = .ok (.getfield 10, 3) := by decide +kernel
theorem dX8_heard_26 : decode cX8_heard 26 = .ok (.getfield 169, 3) := by decide +kernel
theorem dX8_heard_29 : decode cX8_heard 29 = .ok (.bipush 6, 2) := by decide +kernel
theorem dX8_heard_31 : decode cX8_heard 31 = .ok (.if_icmp .lt 10, 3) := by decide +kernel
theorem dX8_heard_34 : decode cX8_heard 34 = .ok (.aload_n 0, 1) := by decide +kernel
theorem dX8_heard_35 : decode cX8_heard 35 = .ok (.bipush (-4), 2) := by decide +kernel
theorem dX8_heard_37 : decode cX8_heard 37 = .ok (.invokevirtual 68, 3) := by decide +kernel
theorem dX8_heard_40 : decode cX8_heard 40 = .ok (.ireturn, 1) := by decide +kernel
theorem dX8_heard_41 : decode cX8_heard 41 = .ok (.aload_n 0, 1) := by decide +kernel
theorem dX8_heard_42 : decode cX8_heard 42 = .ok (.getfield 10, 3) := by decide +kernel
theorem dX8_heard_45 : decode cX8_heard 45 = .ok (.iload_n 1, 1) := by decide +kernel
theorem dX8_heard_46 : decode cX8_heard 46 = .ok (.iload_n 2, 1) := by decide +kernel
theorem dX8_heard_47 : decode cX8_heard 47 = .ok (.invokevirtual 172, 3) := by decide +kernel
theorem dX8_heard_50 : decode cX8_heard 50 = .ok (.aload_n 0, 1) := by decide +kernel
theorem dX8_heard_51 : decode cX8_heard 51 = .ok (.getfield 10, 3) := by decide +kernel
theorem dX8_heard_54 : decode cX8_heard 54 = .ok (.getfield 169, 3) := by decide +kernel
theorem dX8_heard_57 : decode cX8_heard 57 = .ok (.ireturn, 1) := by decide +kernel
theorem dX8_forget_0 : decode cX8_forget 0 = .ok (.aload_n 0, 1) := by decide +kernel
theorem dX8_forget_1 : decode cX8_forget 1 = .ok (.getfield 10, 3) := by decide +kernel
theorem dX8_forget_4 : decode cX8_forget 4 = .ok (.getfield 169, 3) := by decide +kernel
theorem dX8_forget_7 : decode cX8_forget 7 = .ok (.istore_n 1, 1) := by decide +kernel
theorem dX8_forget_8 : decode cX8_forget 8 = .ok (.aload_n 0, 1) := by decide +kernel
theorem dX8_forget_9 : decode cX8_forget 9 = .ok (.getfield 10, 3) := by decide +kernel
theorem dX8_forget_12 : decode cX8_forget 12 = .ok (.iconst 0, 1) := by decide +kernel
theorem dX8_forget_13 : decode cX8_forget 13 = .ok (.putfield 169, 3) := by decide +kernel
theorem dX8_forget_16 : decode cX8_forget 16 = .ok (.iload_n 1, 1) := by decide +kernel
theorem dX8_forget_17 : decode cX8_forget 17 = .ok (.ireturn, 1) := by decide +kernel
set_option maxRecDepth 20000 in
theorem ggX8_door_X3_letThrough : GoodIn wsX8_door wsX3_letThrough := goodIn_r _ [6, 7, 8, 9, 10, 11, 12, 5, 13, 14, 15, 16, 17, 18, 19, 20, 21, 22, 23, 24, 25, 26, 27, 28, 29, 30, 31, 32, 33, 45, 46, 47, 48, 49, 50, 51, 52, 53, 54] (by decide +kernel) (by decide +kernel)
set_option maxRecDepth 20000 in
theorem gX8_door_X3_letThrough : GoodIn wsX8_door (wsV RX8 176 RX3 yX3_letThrough wsX3_letThrough) := goodIn_app (goodIn_of _ (by decide +kernel)) ggX8_door_X3_letThrough
theorem dX8_door_0 : decode cX8_door 0 = .ok (.aload_n 0, 1) := by decide +kernel
theorem dX8_door_1 : decode cX8_door 1 = .ok (.getfield 10, 3) := by decide +kernel
theorem dX8_door_4 : decode cX8_door 4 = .ok (.invokevirtual 176, 3) := by decide +kernel
theorem dX8_door_7 : decode cX8_door 7 = .ok (.ireturn, 1) := by decide +kernel
set_option maxRecDepth 20000 in
theorem ggX8_next_X3_letThrough : GoodIn wsX8_next wsX3_letThrough := goodIn_r _ [10, 11, 12, 13, 14, 15, 16, 9, 17, 18, 19, 20, 21, 22, 23, 24, 25, 26, 27, 28, 29, 30, 31, 32, 33, 34, 35, 36, 37, 57, 58, 59, 60, 61, 62, 63, 64, 65, 66] (by decide +kernel) (by decide +kernel)
set_option maxRecDepth 20000 in
theorem gX8_next_X3_letThrough : GoodIn wsX8_next (wsV RX8 176 RX3 yX3_letThrough wsX3_letThrough) := goodIn_app (goodIn_of _ (by decide +kernel)) ggX8_next_X3_letThrough
set_option maxRecDepth 20000 in
theorem ggX8_next_X3_branchesWith : GoodIn wsX8_next wsX3_branchesWith := goodIn_r _ [33, 18, 34, 35, 21, 36, 37, 20, 22, 23, 24, 25, 26, 27, 28, 29, 57, 58, 59, 60, 61, 62, 63, 64, 65, 66] (by decide +kernel) (by decide +kernel)
set_option maxRecDepth 20000 in
theorem gX8_next_X3_branchesWith : GoodIn wsX8_next (wsV RX8 179 RX3 yX3_branchesWith wsX3_branchesWith) := goodIn_app (goodIn_of _ (by decide +kernel)) ggX8_next_X3_branchesWith
set_option maxRecDepth 20000 in
theorem ggX8_next_J6_bitCount_0f7a4 : GoodIn wsX8_next wsJ6_bitCount_0f7a4 := goodIn_r _ [42, 43, 44, 45] (by decide +kernel) (by decide +kernel)
set_option maxRecDepth 20000 in
theorem gX8_next_J6_bitCount_0f7a4 : GoodIn wsX8_next (va_wsS RX8 159 yJ6_bitCount_0f7a4 wsJ6_bitCount_0f7a4) := goodIn_app (goodIn_of _ (by decide +kernel)) ggX8_next_J6_bitCount_0f7a4
theorem dX8_next_0 : decode cX8_next 0 = .ok (.aload_n 0, 1) := by decide +kernel
theorem dX8_next_1 : decode cX8_next 1 = .ok (.getfield 10, 3) := by decide +kernel
theorem dX8_next_4 : decode cX8_next 4 = .ok (.invokevirtual 176, 3) := by decide +kernel
theorem dX8_next_7 : decode cX8_next 7 = .ok (.istore_n 1, 1) := by decide +kernel
theorem dX8_next_8 : decode cX8_next 8 = .ok (.iload_n 1, 1) := by decide +kernel
theorem dX8_next_9 : decode cX8_next 9 = .ok (.ifCond .ne 5, 3) := by decide +kernel
theorem dX8_next_12 : decode cX8_next 12 = .ok (.iconst (-1), 1) := by decide +kernel
theorem dX8_next_13 : decode cX8_next 13 = .ok (.ireturn, 1) := by decide +kernel
theorem dX8_next_14 : decode cX8_next 14 = .ok (.iconst (-1), 1) := by decide +kernel
theorem dX8_next_15 : decode cX8_next 15 = .ok (.istore_n 2, 1) := by decide +kernel
theorem dX8_next_16 : decode cX8_next 16 = .ok (.iconst (-1), 1) := by decide +kernel
theorem dX8_next_17 : decode cX8_next 17 = .ok (.istore_n 3, 1) := by decide +kernel
theorem dX8_next_18 : decode cX8_next 18 = .ok (.iconst 0, 1) := by decide +kernel
theorem dX8_next_19 : decode cX8_next 19 = .ok (.istore 4, 2) := by decide +kernel
theorem dX8_next_21 : decode cX8_next 21 = .ok (.iload 4, 2) := by decide +kernel
theorem dX8_next_23 : decode cX8_next 23 = .ok (.bipush 10, 2) := by decide +kernel
theorem dX8_next_25 : decode cX8_next 25 = .ok (.if_icmp .ge 56, 3) := by decide +kernel
theorem dX8_next_28 : decode cX8_next 28 = .ok (.iload_n 1, 1) := by decide +kernel
theorem dX8_next_29 : decode cX8_next 29 = .ok (.aload_n 0, 1) := by decide +kernel
theorem dX8_next_30 : decode cX8_next 30 = .ok (.getfield 10, 3) := by decide +kernel
theorem dX8_next_33 : decode cX8_next 33 = .ok (.iload 4, 2) := by decide +kernel
theorem dX8_next_35 : decode cX8_next 35 = .ok (.invokevirtual 179, 3) := by decide +kernel
theorem dX8_next_38 : decode cX8_next 38 = .ok (.iand, 1) := by decide +kernel
theorem dX8_next_39 : decode cX8_next 39 = .ok (.invokestatic 159, 3) := by decide +kernel
theorem dX8_next_42 : decode cX8_next 42 = .ok (.istore 5, 2) := by decide +kernel
theorem dX8_next_44 : decode cX8_next 44 = .ok (.iload 5, 2) := by decide +kernel
theorem dX8_next_46 : decode cX8_next 46 = .ok (.iload_n 1, 1) := by decide +kernel
theorem dX8_next_47 : decode cX8_next 47 = .ok (.invokestatic 159, 3) := by decide +kernel
theorem dX8_next_50 : decode cX8_next 50 = .ok (.iload 5, 2) := by decide +kernel
theorem dX8_next_52 : decode cX8_next 52 = .ok (.isub, 1) := by decide +kernel
theorem dX8_next_53 : decode cX8_next 53 = .ok (.invokestatic 182, 3) := by decide +kernel
theorem dX8_next_56 : decode cX8_next 56 = .ok (.istore 6, 2) := by decide +kernel
theorem dX8_next_58 : decode cX8_next 58 = .ok (.iload_n 2, 1) := by decide +kernel
theorem dX8_next_59 : decode cX8_next 59 = .ok (.iconst (-1), 1) := by decide +kernel
theorem dX8_next_60 : decode cX8_next 60 = .ok (.if_icmp .eq 9, 3) := by decide +kernel
theorem dX8_next_63 : decode cX8_next 63 = .ok (.iload 6, 2) := by decide +kernel
theorem dX8_next_65 : decode cX8_next 65 = .ok (.iload_n 3, 1) := by decide +kernel
theorem dX8_next_66 : decode cX8_next 66 = .ok (.if_icmp .ge 9, 3) := by decide +kernel
theorem dX8_next_69 : decode cX8_next 69 = .ok (.iload 4, 2) := by decide +kernel
theorem dX8_next_71 : decode cX8_next 71 = .ok (.istore_n 2, 1) := by decide +kernel
theorem dX8_next_72 : decode cX8_next 72 = .ok (.iload 6, 2) := by decide +kernel
theorem dX8_next_74 : decode cX8_next 74 = .ok (.istore_n 3, 1) := by decide +kernel
theorem dX8_next_75 : decode cX8_next 75 = .ok (.iinc 4 1, 3) := by decide +kernel
theorem dX8_next_78 : decode cX8_next 78 = .ok (.goto (-57), 3) := by decide +kernel
theorem dX8_next_81 : decode cX8_next 81 = .ok (.iload_n 2, 1) := by decide +kernel
theorem dX8_next_82 : decode cX8_next 82 = .ok (.ireturn, 1) := by decide +kernel
set_option maxRecDepth 20000 in
theorem ggX8_fun_X8_isBranch : GoodIn wsX8_fun wsX8_isBranch := goodIn_r _ [5, 6, 7, 4, 8] (by decide +kernel) (by decide +kernel)
set_option maxRecDepth 20000 in
theorem gX8_fun_X8_isBranch : GoodIn wsX8_fun (va_wsS RX8 86 yX8_isBranch wsX8_isBranch) := goodIn_app (goodIn_of _ (by decide +kernel)) ggX8_fun_X8_isBranch
set_option maxRecDepth 20000 in
theorem ggX8_fun_X3_taleOf : GoodIn wsX8_fun wsX3_taleOf := goodIn_r _ [13, 14, 3, 4, 5, 6, 7, 8, 46, 47, 48, 49, 50, 51, 52, 53, 54, 55] (by decide +kernel) (by decide +kernel)
set_option maxRecDepth 20000 in
theorem gX8_fun_X3_taleOf : GoodIn wsX8_fun (wsV RX8 97 RX3 yX3_taleOf wsX3_taleOf) := goodIn_app (goodIn_of _ (by decide +kernel)) ggX8_fun_X3_taleOf
set_option maxRecDepth 20000 in
theorem ggX8_fun_X4_funOf : GoodIn wsX8_fun wsX4_funOf := goodIn_r _ [18, 19, 20, 21, 22, 23, 24, 25, 26, 27, 28, 17, 29] (by decide +kernel) (by decide +kernel)
set_option maxRecDepth 20000 in
theorem gX8_fun_X4_funOf : GoodIn wsX8_fun (va_wsS RX8 187 yX4_funOf wsX4_funOf) := goodIn_app (goodIn_of _ (by decide +kernel)) ggX8_fun_X4_funOf
set_option maxRecDepth 20000 in
theorem ggX8_fun_X8_refuse_ : GoodIn wsX8_fun wsX8_refuse_ := goodIn_r _ [33, 34, 35, 36, 37, 38, 39, 40, 41, 42, 43, 44, 45] (by decide +kernel) (by decide +kernel)
set_option maxRecDepth 20000 in
theorem gX8_fun_X8_refuse_ : GoodIn wsX8_fun (wsV RX8 127 RX8 yX8_refuse_ wsX8_refuse_) := goodIn_app (goodIn_of _ (by decide +kernel)) ggX8_fun_X8_refuse_
theorem dX8_fun_0 : decode cX8_fun 0 = .ok (.iload_n 1, 1) := by decide +kernel
theorem dX8_fun_1 : decode cX8_fun 1 = .ok (.invokestatic 86, 3) := by decide +kernel
theorem dX8_fun_4 : decode cX8_fun 4 = .ok (.ifCond .eq 17, 3) := by decide +kernel
theorem dX8_fun_7 : decode cX8_fun 7 = .ok (.aload_n 0, 1) := by decide +kernel
theorem dX8_fun_8 : decode cX8_fun 8 = .ok (.getfield 10, 3) := by decide +kernel
theorem dX8_fun_11 : decode cX8_fun 11 = .ok (.iload_n 1, 1) := by decide +kernel
theorem dX8_fun_12 : decode cX8_fun 12 = .ok (.invokevirtual 97, 3) := by decide +kernel
theorem dX8_fun_15 : decode cX8_fun 15 = .ok (.invokestatic 187, 3) := by decide +kernel
theorem dX8_fun_18 : decode cX8_fun 18 = .ok (.goto 12, 3) := by decide +kernel
theorem dX8_fun_21 : decode cX8_fun 21 = .ok (.aload_n 0, 1) := by decide +kernel
theorem dX8_fun_22 : decode cX8_fun 22 = .ok (.bipush (-2), 2) := by decide +kernel
theorem dX8_fun_24 : decode cX8_fun 24 = .ok (.sipush (-1000), 3) := by decide +kernel
theorem dX8_fun_27 : decode cX8_fun 27 = .ok (.invokevirtual 127, 3) := by decide +kernel
theorem dX8_fun_30 : decode cX8_fun 30 = .ok (.ireturn, 1) := by decide +kernel
set_option maxRecDepth 20000 in
theorem ggX8_funniest_X8_isUpTo : GoodIn wsX8_funniest wsX8_isUpTo := goodIn_r _ [5] (by decide +kernel) (by decide +kernel)
set_option maxRecDepth 20000 in
theorem gX8_funniest_X8_isUpTo : GoodIn wsX8_funniest (va_wsS RX8 93 yX8_isUpTo wsX8_isUpTo) := goodIn_app (goodIn_of _ (by decide +kernel)) ggX8_funniest_X8_isUpTo
set_option maxRecDepth 20000 in
theorem ggX8_funniest_X8_refuse_ : GoodIn wsX8_funniest wsX8_refuse_ := goodIn_r _ [9, 10, 44, 45, 46, 47, 48, 49, 50, 51, 52, 53, 54] (by decide +kernel) (by decide +kernel)
set_option maxRecDepth 20000 in
theorem gX8_funniest_X8_refuse_ : GoodIn wsX8_funniest (wsV RX8 127 RX8 yX8_refuse_ wsX8_refuse_) := goodIn_app (goodIn_of _ (by decide +kernel)) ggX8_funniest_X8_refuse_
set_option maxRecDepth 20000 in
theorem ggX8_funniest_X2_rowOf : GoodIn wsX8_funniest wsX2_rowOf := goodIn_r _ [15, 16, 3, 4, 5, 17, 18, 14, 19, 20, 21, 22, 23, 24, 25, 26, 27, 28, 29, 30, 31, 32, 33, 34, 35, 36, 37, 38, 39, 40, 41, 55] (by decide +kernel) (by decide +kernel)
set_option maxRecDepth 20000 in
theorem gX8_funniest_X2_rowOf : GoodIn wsX8_funniest (wsV RX8 192 RX2 yX2_rowOf wsX2_rowOf) := goodIn_app (goodIn_of _ (by decide +kernel)) ggX8_funniest_X2_rowOf
set_option maxRecDepth 20000 in
theorem ggX8_funniest_X4_funOf : GoodIn wsX8_funniest wsX4_funOf := goodIn_r _ [34, 35, 28, 25, 29, 30, 36, 37, 38, 39, 40, 33, 41] (by decide +kernel) (by decide +kernel)
set_option maxRecDepth 20000 in
theorem gX8_funniest_X4_funOf : GoodIn wsX8_funniest (va_wsS RX8 187 yX4_funOf wsX4_funOf) := goodIn_app (goodIn_of _ (by decide +kernel)) ggX8_funniest_X4_funOf
set_option maxRecDepth 20000 in
theorem ggX8_funniest_X7_partIn : GoodIn wsX8_funniest wsX7_partIn := goodIn_r _ [38] (by decide +kernel) (by decide +kernel)
set_option maxRecDepth 20000 in
theorem gX8_funniest_X7_partIn : GoodIn wsX8_funniest (va_wsS RX8 130 yX7_partIn wsX7_partIn) := goodIn_app (goodIn_of _ (by decide +kernel)) ggX8_funniest_X7_partIn
theorem dX8_funniest_0 : decode cX8_funniest 0 = .ok (.iload_n 1, 1) := by decide +kernel
theorem dX8_funniest_1 : decode cX8_funniest 1 = .ok (.iconst 4, 1) := by decide +kernel
theorem dX8_funniest_2 : decode cX8_funniest 2 = .ok (.invokestatic 93, 3) := by decide +kernel
theorem dX8_funniest_5 : decode cX8_funniest 5 = .ok (.ifCond .eq 8, 3) := by decide +kernel
theorem dX8_funniest_8 : decode cX8_funniest 8 = .ok (.iload_n 2, 1) := by decide +kernel
theorem dX8_funniest_9 : decode cX8_funniest 9 = .ok (.iconst (-1), 1) := by decide +kernel
theorem dX8_funniest_10 : decode cX8_funniest 10 = .ok (.if_icmp .ge 13, 3) := by decide +kernel
theorem dX8_funniest_13 : decode cX8_funniest 13 = .ok (.aload_n 0, 1) := by decide +kernel
theorem dX8_funniest_14 : decode cX8_funniest 14 = .ok (.bipush (-2), 2) := by decide +kernel
theorem dX8_funniest_16 : decode cX8_funniest 16 = .ok (.sipush (-1000), 3) := by decide +kernel
theorem dX8_funniest_19 : decode cX8_funniest 19 = .ok (.invokevirtual 127, 3) := by decide +kernel
theorem dX8_funniest_22 : decode cX8_funniest 22 = .ok (.ireturn, 1) := by decide +kernel
theorem dX8_funniest_23 : decode cX8_funniest 23 = .ok (.iload_n 2, 1) := by decide +kernel
theorem dX8_funniest_24 : decode cX8_funniest 24 = .ok (.iload_n 1, 1) := by decide +kernel
theorem dX8_funniest_25 : decode cX8_funniest 25 = .ok (.if_icmp .lt 6, 3) := by decide +kernel
theorem dX8_funniest_28 : decode cX8_funniest 28 = .ok (.bipush (-5), 2) := by decide +kernel
theorem dX8_funniest_30 : decode cX8_funniest 30 = .ok (.ireturn, 1) := by decide +kernel
theorem dX8_funniest_31 : decode cX8_funniest 31 = .ok (.aload_n 0, 1) := by decide +kernel
theorem dX8_funniest_32 : decode cX8_funniest 32 = .ok (.getfield 42, 3) := by decide +kernel
theorem dX8_funniest_35 : decode cX8_funniest 35 = .ok (.iload_n 1, 1) := by decide +kernel
theorem dX8_funniest_36 : decode cX8_funniest 36 = .ok (.invokevirtual 192, 3) := by decide +kernel
theorem dX8_funniest_39 : decode cX8_funniest 39 = .ok (.lstore_n 3, 1) := by decide +kernel
theorem dX8_funniest_40 : decode cX8_funniest 40 = .ok (.iload_n 2, 1) := by decide +kernel
theorem dX8_funniest_41 : decode cX8_funniest 41 = .ok (.iconst (-1), 1) := by decide +kernel
theorem dX8_funniest_42 : decode cX8_funniest 42 = .ok (.if_icmp .ne 10, 3) := by decide +kernel
theorem dX8_funniest_45 : decode cX8_funniest 45 = .ok (.lload_n 3, 1) := by decide +kernel
theorem dX8_funniest_46 : decode cX8_funniest 46 = .ok (.invokestatic 187, 3) := by decide +kernel
theorem dX8_funniest_49 : decode cX8_funniest 49 = .ok (.goto 8, 3) := by decide +kernel
theorem dX8_funniest_52 : decode cX8_funniest 52 = .ok (.lload_n 3, 1) := by decide +kernel
theorem dX8_funniest_53 : decode cX8_funniest 53 = .ok (.iload_n 2, 1) := by decide +kernel
theorem dX8_funniest_54 : decode cX8_funniest 54 = .ok (.invokestatic 130, 3) := by decide +kernel
theorem dX8_funniest_57 : decode cX8_funniest 57 = .ok (.ireturn, 1) := by decide +kernel
set_option maxRecDepth 20000 in
theorem ggX8_slip_X8_isBranch : GoodIn wsX8_slip wsX8_isBranch := goodIn_r _ [5, 6, 7, 4, 8] (by decide +kernel) (by decide +kernel)
set_option maxRecDepth 20000 in
theorem gX8_slip_X8_isBranch : GoodIn wsX8_slip (va_wsS RX8 86 yX8_isBranch wsX8_isBranch) := goodIn_app (goodIn_of _ (by decide +kernel)) ggX8_slip_X8_isBranch
set_option maxRecDepth 20000 in
theorem ggX8_slip_X3_taleOf : GoodIn wsX8_slip wsX3_taleOf := goodIn_r _ [13, 14, 3, 4, 5, 6, 7, 8, 82, 83, 84, 85, 86, 87, 88, 89, 90, 91] (by decide +kernel) (by decide +kernel)
set_option maxRecDepth 20000 in
theorem gX8_slip_X3_taleOf : GoodIn wsX8_slip (wsV RX8 97 RX3 yX3_taleOf wsX3_taleOf) := goodIn_app (goodIn_of _ (by decide +kernel)) ggX8_slip_X3_taleOf
set_option maxRecDepth 20000 in
theorem ggX8_slip_X4_funniestSlip : GoodIn wsX8_slip wsX4_funniestSlip := goodIn_r _ [18, 19, 20, 17, 21, 22, 23, 24, 25, 26, 27, 28, 29, 30, 31, 32, 33, 34, 35, 36, 37, 38, 39, 40, 41, 42, 43, 44, 45, 46, 47, 48, 49, 50, 51, 52, 53, 54, 55, 56, 57, 58, 59, 60, 61] (by decide +kernel) (by decide +kernel)
set_option maxRecDepth 20000 in
theorem gX8_slip_X4_funniestSlip : GoodIn wsX8_slip (va_wsS RX8 195 yX4_funniestSlip wsX4_funniestSlip) := goodIn_app (goodIn_of _ (by decide +kernel)) ggX8_slip_X4_funniestSlip
set_option maxRecDepth 20000 in
theorem ggX8_slip_X8_refuse : GoodIn wsX8_slip wsX8_refuse := goodIn_r _ [65, 66, 67, 68, 4, 69, 70, 71, 72, 73, 74, 75, 76, 77, 78, 79, 80, 81] (by decide +kernel) (by decide +kernel)
set_option maxRecDepth 20000 in
theorem gX8_slip_X8_refuse : GoodIn wsX8_slip (wsV RX8 68 RX8 yX8_refuse wsX8_refuse) := goodIn_app (goodIn_of _ (by decide +kernel)) ggX8_slip_X8_refuse
theorem dX8_slip_0 : decode cX8_slip 0 = .ok (.iload_n 1, 1) := by decide +kernel
theorem dX8_slip_1 : decode cX8_slip 1 = .ok (.invokestatic 86, 3) := by decide +kernel
theorem dX8_slip_4 : decode cX8_slip 4 = .ok (.ifCond .eq 17, 3) := by decide +kernel
theorem dX8_slip_7 : decode cX8_slip 7 = .ok (.aload_n 0, 1) := by decide +kernel
theorem dX8_slip_8 : decode cX8_slip 8 = .ok (.getfield 10, 3) := by decide +kernel
theorem dX8_slip_11 : decode cX8_slip 11 = .ok (.iload_n 1, 1) := by decide +kernel
theorem dX8_slip_12 : decode cX8_slip 12 = .ok (.invokevirtual 97, 3) := by decide +kernel
theorem dX8_slip_15 : decode cX8_slip 15 = .ok (.invokestatic 195, 3) := by decide +kernel
theorem dX8_slip_18 : decode cX8_slip 18 = .ok (.goto 9, 3) := by decide +kernel
theorem dX8_slip_21 : decode cX8_slip 21 = .ok (.aload_n 0, 1) := by decide +kernel
theorem dX8_slip_22 : decode cX8_slip 22 = .ok (.bipush (-2), 2) := by decide +kernel
theorem dX8_slip_24 : decode cX8_slip 24 = .ok (.invokevirtual 68, 3) := by decide +kernel
theorem dX8_slip_27 : decode cX8_slip 27 = .ok (.ireturn, 1) := by decide +kernel
set_option maxRecDepth 20000 in
theorem ggX8_pawned_X8_isUpTo : GoodIn wsX8_pawned wsX8_isUpTo := goodIn_r _ [5] (by decide +kernel) (by decide +kernel)
set_option maxRecDepth 20000 in
theorem gX8_pawned_X8_isUpTo : GoodIn wsX8_pawned (va_wsS RX8 93 yX8_isUpTo wsX8_isUpTo) := goodIn_app (goodIn_of _ (by decide +kernel)) ggX8_pawned_X8_isUpTo
set_option maxRecDepth 20000 in
theorem ggX8_pawned_X8_refuse : GoodIn wsX8_pawned wsX8_refuse := goodIn_r _ [9, 10, 11, 12, 4, 13, 14, 47, 48, 49, 50, 51, 52, 53, 54, 55, 56, 57] (by decide +kernel) (by decide +kernel)
set_option maxRecDepth 20000 in
theorem gX8_pawned_X8_refuse : GoodIn wsX8_pawned (wsV RX8 68 RX8 yX8_refuse wsX8_refuse) := goodIn_app (goodIn_of _ (by decide +kernel)) ggX8_pawned_X8_refuse
set_option maxRecDepth 20000 in
theorem ggX8_pawned_X3_branchesWithout : GoodIn wsX8_pawned wsX3_branchesWithout := goodIn_r _ [19, 20, 21, 22, 23, 24, 25, 26, 27, 28, 29, 30, 31, 58, 59, 60, 61, 62, 63, 64, 65, 66, 67] (by decide +kernel) (by decide +kernel)
set_option maxRecDepth 20000 in
theorem gX8_pawned_X3_branchesWithout : GoodIn wsX8_pawned (wsV RX8 198 RX3 yX3_branchesWithout wsX3_branchesWithout) := goodIn_app (goodIn_of _ (by decide +kernel)) ggX8_pawned_X3_branchesWithout
set_option maxRecDepth 20000 in
theorem ggX8_pawned_X3_fewestWith : GoodIn wsX8_pawned wsX3_fewestWith := goodIn_r _ [35, 36, 37, 38, 39, 40, 41, 42, 43, 44, 45, 18, 46, 20, 21, 22, 23, 24, 25, 26, 27, 28, 29, 30, 31, 58, 59, 60, 61, 62, 63, 64, 65, 66, 67] (by decide +kernel) (by decide +kernel)
set_option maxRecDepth 20000 in
theorem gX8_pawned_X3_fewestWith : GoodIn wsX8_pawned (wsV RX8 201 RX3 yX3_fewestWith wsX3_fewestWith) := goodIn_app (goodIn_of _ (by decide +kernel)) ggX8_pawned_X3_fewestWith
theorem dX8_pawned_0 : decode cX8_pawned 0 = .ok (.iload_n 1, 1) := by decide +kernel
theorem dX8_pawned_1 : decode cX8_pawned 1 = .ok (.sipush 1023, 3) := by decide +kernel
theorem dX8_pawned_4 : decode cX8_pawned 4 = .ok (.invokestatic 93, 3) := by decide +kernel
theorem dX8_pawned_7 : decode cX8_pawned 7 = .ok (.ifCond .eq 11, 3) := by decide +kernel
theorem dX8_pawned_10 : decode cX8_pawned 10 = .ok (.iload_n 2, 1) := by decide +kernel
theorem dX8_pawned_11 : decode cX8_pawned 11 = .ok (.iconst 1, 1) := by decide +kernel
theorem dX8_pawned_12 : decode cX8_pawned 12 = .ok (.invokestatic 93, 3) := by decide +kernel
theorem dX8_pawned_15 : decode cX8_pawned 15 = .ok (.ifCond .ne 10, 3) := by decide +kernel
theorem dX8_pawned_18 : decode cX8_pawned 18 = .ok (.aload_n 0, 1) := by decide +kernel
theorem dX8_pawned_19 : decode cX8_pawned 19 = .ok (.bipush (-2), 2) := by decide +kernel
theorem dX8_pawned_21 : decode cX8_pawned 21 = .ok (.invokevirtual 68, 3) := by decide +kernel
theorem dX8_pawned_24 : decode cX8_pawned 24 = .ok (.ireturn, 1) := by decide +kernel
theorem dX8_pawned_25 : decode cX8_pawned 25 = .ok (.iload_n 2, 1) := by decide +kernel
theorem dX8_pawned_26 : decode cX8_pawned 26 = .ok (.ifCond .ne 14, 3) := by decide +kernel
theorem dX8_pawned_29 : decode cX8_pawned 29 = .ok (.aload_n 0, 1) := by decide +kernel
theorem dX8_pawned_30 : decode cX8_pawned 30 = .ok (.getfield 10, 3) := by decide +kernel
theorem dX8_pawned_33 : decode cX8_pawned 33 = .ok (.iload_n 1, 1) := by decide +kernel
theorem dX8_pawned_34 : decode cX8_pawned 34 = .ok (.invokevirtual 198, 3) := by decide +kernel
theorem dX8_pawned_37 : decode cX8_pawned 37 = .ok (.goto 11, 3) := by decide +kernel
theorem dX8_pawned_40 : decode cX8_pawned 40 = .ok (.aload_n 0, 1) := by decide +kernel
theorem dX8_pawned_41 : decode cX8_pawned 41 = .ok (.getfield 10, 3) := by decide +kernel
theorem dX8_pawned_44 : decode cX8_pawned 44 = .ok (.iload_n 1, 1) := by decide +kernel
theorem dX8_pawned_45 : decode cX8_pawned 45 = .ok (.invokevirtual 201, 3) := by decide +kernel
theorem dX8_pawned_48 : decode cX8_pawned 48 = .ok (.ireturn, 1) := by decide +kernel
set_option maxRecDepth 20000 in
theorem ggX8_odds_X8_isBranch : GoodIn wsX8_odds wsX8_isBranch := goodIn_r _ [6, 7, 8, 5, 9] (by decide +kernel) (by decide +kernel)
set_option maxRecDepth 20000 in
theorem gX8_odds_X8_isBranch : GoodIn wsX8_odds (va_wsS RX8 86 yX8_isBranch wsX8_isBranch) := goodIn_app (goodIn_of _ (by decide +kernel)) ggX8_odds_X8_isBranch
set_option maxRecDepth 20000 in
theorem ggX8_odds_X8_isPart : GoodIn wsX8_odds wsX8_isPart := goodIn_r _ [12, 7, 8, 5, 9] (by decide +kernel) (by decide +kernel)
set_option maxRecDepth 20000 in
theorem gX8_odds_X8_isPart : GoodIn wsX8_odds (va_wsS RX8 64 yX8_isPart wsX8_isPart) := goodIn_app (goodIn_of _ (by decide +kernel)) ggX8_odds_X8_isPart
set_option maxRecDepth 20000 in
theorem ggX8_odds_X8_isUpTo : GoodIn wsX8_odds wsX8_isUpTo := goodIn_r _ [9] (by decide +kernel) (by decide +kernel)
set_option maxRecDepth 20000 in
theorem gX8_odds_X8_isUpTo : GoodIn wsX8_odds (va_wsS RX8 93 yX8_isUpTo wsX8_isUpTo) := goodIn_app (goodIn_of _ (by decide +kernel)) ggX8_odds_X8_isUpTo
set_option maxRecDepth 20000 in
theorem ggX8_odds_X8_refuse : GoodIn wsX8_odds wsX8_refuse := goodIn_r _ [16, 17, 18, 19, 5, 20, 21, 64, 65, 66, 67, 68, 69, 70, 71, 72, 73, 74] (by decide +kernel) (by decide +kernel)
set_option maxRecDepth 20000 in
theorem gX8_odds_X8_refuse : GoodIn wsX8_odds (wsV RX8 68 RX8 yX8_refuse wsX8_refuse) := goodIn_app (goodIn_of _ (by decide +kernel)) ggX8_odds_X8_refuse
set_option maxRecDepth 20000 in
theorem ggX8_odds_X3_taleOf : GoodIn wsX8_odds wsX3_taleOf := goodIn_r _ [26, 27, 4, 5, 6, 7, 8, 9, 75, 76, 77, 78, 79, 80, 81, 82, 83, 84] (by decide +kernel) (by decide +kernel)
set_option maxRecDepth 20000 in
theorem gX8_odds_X3_taleOf : GoodIn wsX8_odds (wsV RX8 97 RX3 yX3_taleOf wsX3_taleOf) := goodIn_app (goodIn_of _ (by decide +kernel)) ggX8_odds_X3_taleOf
set_option maxRecDepth 20000 in
theorem ggX8_odds_X7_sizeOf : GoodIn wsX8_odds wsX7_sizeOf := goodIn_r _ [31, 32] (by decide +kernel) (by decide +kernel)
set_option maxRecDepth 20000 in
theorem gX8_odds_X7_sizeOf : GoodIn wsX8_odds (va_wsS RX8 76 yX7_sizeOf wsX7_sizeOf) := goodIn_app (goodIn_of _ (by decide +kernel)) ggX8_odds_X7_sizeOf
set_option maxRecDepth 20000 in
theorem ggX8_odds_X7_timesIn : GoodIn wsX8_odds wsX7_timesIn := goodIn_r _ [35, 36, 29, 30, 31, 32, 37, 38, 39] (by decide +kernel) (by decide +kernel)
set_option maxRecDepth 20000 in
theorem gX8_odds_X7_timesIn : GoodIn wsX8_odds (va_wsS RX8 204 yX7_timesIn wsX7_timesIn) := goodIn_app (goodIn_of _ (by decide +kernel)) ggX8_odds_X7_timesIn
set_option maxRecDepth 20000 in
theorem ggX8_odds_X1_becomeOdds : GoodIn wsX8_odds wsX1_becomeOdds := goodIn_r _ [44, 45, 46, 47, 48, 49, 50, 43, 51, 52, 53, 54, 55, 56, 57, 58, 59, 60, 61, 62, 63, 85, 86] (by decide +kernel) (by decide +kernel)
set_option maxRecDepth 20000 in
theorem gX8_odds_X1_becomeOdds : GoodIn wsX8_odds (wsV RX8 207 RX1 yX1_becomeOdds wsX1_becomeOdds) := goodIn_app (goodIn_of _ (by decide +kernel)) ggX8_odds_X1_becomeOdds
theorem dX8_odds_0 : decode cX8_odds 0 = .ok (.iload_n 1, 1) := by decide +kernel
theorem dX8_odds_1 : decode cX8_odds 1 = .ok (.invokestatic 86, 3) := by decide +kernel
theorem dX8_odds_4 : decode cX8_odds 4 = .ok (.ifCond .eq 28, 3) := by decide +kernel
theorem dX8_odds_7 : decode cX8_odds 7 = .ok (.iload_n 2, 1) := by decide +kernel
theorem dX8_odds_8 : decode cX8_odds 8 = .ok (.invokestatic 64, 3) := by decide +kernel
theorem dX8_odds_11 : decode cX8_odds 11 = .ok (.ifCond .eq 21, 3) := by decide +kernel
theorem dX8_odds_14 : decode cX8_odds 14 = .ok (.iload_n 3, 1) := by decide +kernel
theorem dX8_odds_15 : decode cX8_odds 15 = .ok (.iconst 4, 1) := by decide +kernel
theorem dX8_odds_16 : decode cX8_odds 16 = .ok (.invokestatic 93, 3) := by decide +kernel
theorem dX8_odds_19 : decode cX8_odds 19 = .ok (.ifCond .eq 13, 3) := by decide +kernel
theorem dX8_odds_22 : decode cX8_odds 22 = .ok (.iload 4, 2) := by decide +kernel
theorem dX8_odds_24 : decode cX8_odds 24 = .ok (.bipush 10, 2) := by decide +kernel
theorem dX8_odds_26 : decode cX8_odds 26 = .ok (.invokestatic 93, 3) := by decide +kernel
theorem dX8_odds_29 : decode cX8_odds 29 = .ok (.ifCond .ne 10, 3) := by decide +kernel
theorem dX8_odds_32 : decode cX8_odds 32 = .ok (.aload_n 0, 1) := by decide +kernel
theorem dX8_odds_33 : decode cX8_odds 33 = .ok (.bipush (-2), 2) := by decide +kernel
theorem dX8_odds_35 : decode cX8_odds 35 = .ok (.invokevirtual 68, 3) := by decide +kernel
theorem dX8_odds_38 : decode cX8_odds 38 = .ok (.ireturn, 1) := by decide +kernel
theorem dX8_odds_39 : decode cX8_odds 39 = .ok (.aload_n 0, 1) := by decide +kernel
theorem dX8_odds_40 : decode cX8_odds 40 = .ok (.getfield 10, 3) := by decide +kernel
theorem dX8_odds_43 : decode cX8_odds 43 = .ok (.iload_n 1, 1) := by decide +kernel
theorem dX8_odds_44 : decode cX8_odds 44 = .ok (.invokevirtual 97, 3) := by decide +kernel
theorem dX8_odds_47 : decode cX8_odds 47 = .ok (.lstore 5, 2) := by decide +kernel
theorem dX8_odds_49 : decode cX8_odds 49 = .ok (.aload_n 0, 1) := by decide +kernel
theorem dX8_odds_50 : decode cX8_odds 50 = .ok (.getfield 49, 3) := by decide +kernel
theorem dX8_odds_53 : decode cX8_odds 53 = .ok (.lload 5, 2) := by decide +kernel
theorem dX8_odds_55 : decode cX8_odds 55 = .ok (.invokestatic 76, 3) := by decide +kernel
theorem dX8_odds_58 : decode cX8_odds 58 = .ok (.lload 5, 2) := by decide +kernel
theorem dX8_odds_60 : decode cX8_odds 60 = .ok (.iload_n 2, 1) := by decide +kernel
theorem dX8_odds_61 : decode cX8_odds 61 = .ok (.invokestatic 204, 3) := by decide +kernel
theorem dX8_odds_64 : decode cX8_odds 64 = .ok (.iload_n 3, 1) := by decide +kernel
theorem dX8_odds_65 : decode cX8_odds 65 = .ok (.iload 4, 2) := by decide +kernel
theorem dX8_odds_67 : decode cX8_odds 67 = .ok (.invokevirtual 207, 3) := by decide +kernel
theorem dX8_odds_70 : decode cX8_odds 70 = .ok (.iconst 1, 1) := by decide +kernel
theorem dX8_odds_71 : decode cX8_odds 71 = .ok (.ireturn, 1) := by decide +kernel
set_option maxRecDepth 20000 in
theorem ggX8_centuries_X8_isBranch : GoodIn wsX8_centuries wsX8_isBranch := goodIn_r _ [6, 7, 8, 5, 9] (by decide +kernel) (by decide +kernel)
set_option maxRecDepth 20000 in
theorem gX8_centuries_X8_isBranch : GoodIn wsX8_centuries (va_wsS RX8 86 yX8_isBranch wsX8_isBranch) := goodIn_app (goodIn_of _ (by decide +kernel)) ggX8_centuries_X8_isBranch
set_option maxRecDepth 20000 in
theorem ggX8_centuries_X8_isUpTo : GoodIn wsX8_centuries wsX8_isUpTo := goodIn_r _ [9] (by decide +kernel) (by decide +kernel)
set_option maxRecDepth 20000 in
theorem gX8_centuries_X8_isUpTo : GoodIn wsX8_centuries (va_wsS RX8 93 yX8_isUpTo wsX8_isUpTo) := goodIn_app (goodIn_of _ (by decide +kernel)) ggX8_centuries_X8_isUpTo
set_option maxRecDepth 20000 in
theorem ggX8_centuries_X8_refuse : GoodIn wsX8_centuries wsX8_refuse := goodIn_r _ [13, 14, 15, 16, 5, 17, 18, 75, 76, 77, 78, 79, 80, 81, 82, 83, 84, 85] (by decide +kernel) (by decide +kernel)
set_option maxRecDepth 20000 in
theorem gX8_centuries_X8_refuse : GoodIn wsX8_centuries (wsV RX8 68 RX8 yX8_refuse wsX8_refuse) := goodIn_app (goodIn_of _ (by decide +kernel)) ggX8_centuries_X8_refuse
set_option maxRecDepth 20000 in
theorem ggX8_centuries_X3_taleOf : GoodIn wsX8_centuries wsX3_taleOf := goodIn_r _ [23, 24, 4, 5, 6, 7, 8, 9, 86, 87, 88, 89, 90, 91, 92, 93, 94, 95] (by decide +kernel) (by decide +kernel)
set_option maxRecDepth 20000 in
theorem gX8_centuries_X3_taleOf : GoodIn wsX8_centuries (wsV RX8 97 RX3 yX3_taleOf wsX3_taleOf) := goodIn_app (goodIn_of _ (by decide +kernel)) ggX8_centuries_X3_taleOf
set_option maxRecDepth 20000 in
theorem ggX8_centuries_X0_centuriesOfDuck : GoodIn wsX8_centuries wsX0_centuriesOfDuck := goodIn_r _ [28, 29, 30, 31, 32, 33, 34, 35, 36, 37, 38, 39, 40, 41, 42, 43, 44, 27, 45, 46, 47, 48, 49, 50, 51, 52, 53, 54, 55, 56, 57, 58, 59, 60, 61, 62, 63, 64, 65, 66, 67, 68, 69, 70, 71, 72, 73, 74] (by decide +kernel) (by decide +kernel)
set_option maxRecDepth 20000 in
theorem gX8_centuries_X0_centuriesOfDuck : GoodIn wsX8_centuries (va_wsS RX8 212 yX0_centuriesOfDuck wsX0_centuriesOfDuck) := goodIn_app (goodIn_of _ (by decide +kernel)) ggX8_centuries_X0_centuriesOfDuck
theorem dX8_centuries_0 : decode cX8_centuries 0 = .ok (.iload_n 1, 1) := by decide +kernel
theorem dX8_centuries_1 : decode cX8_centuries 1 = .ok (.invokestatic 86, 3) := by decide +kernel
theorem dX8_centuries_4 : decode cX8_centuries 4 = .ok (.ifCond .eq 21, 3) := by decide +kernel
theorem dX8_centuries_7 : decode cX8_centuries 7 = .ok (.iload_n 2, 1) := by decide +kernel
theorem dX8_centuries_8 : decode cX8_centuries 8 = .ok (.ldc 211, 2) := by decide +kernel
theorem dX8_centuries_10 : decode cX8_centuries 10 = .ok (.invokestatic 93, 3) := by decide +kernel
theorem dX8_centuries_13 : decode cX8_centuries 13 = .ok (.ifCond .eq 12, 3) := by decide +kernel
theorem dX8_centuries_16 : decode cX8_centuries 16 = .ok (.iload_n 3, 1) := by decide +kernel
theorem dX8_centuries_17 : decode cX8_centuries 17 = .ok (.bipush 60, 2) := by decide +kernel
theorem dX8_centuries_19 : decode cX8_centuries 19 = .ok (.invokestatic 93, 3) := by decide +kernel
theorem dX8_centuries_22 : decode cX8_centuries 22 = .ok (.ifCond .ne 10, 3) := by decide +kernel
theorem dX8_centuries_25 : decode cX8_centuries 25 = .ok (.aload_n 0, 1) := by decide +kernel
theorem dX8_centuries_26 : decode cX8_centuries 26 = .ok (.bipush (-2), 2) := by decide +kernel
theorem dX8_centuries_28 : decode cX8_centuries 28 = .ok (.invokevirtual 68, 3) := by decide +kernel
theorem dX8_centuries_31 : decode cX8_centuries 31 = .ok (.ireturn, 1) := by decide +kernel
theorem dX8_centuries_32 : decode cX8_centuries 32 = .ok (.aload_n 0, 1) := by decide +kernel
theorem dX8_centuries_33 : decode cX8_centuries 33 = .ok (.getfield 10, 3) := by decide +kernel
theorem dX8_centuries_36 : decode cX8_centuries 36 = .ok (.iload_n 1, 1) := by decide +kernel
theorem dX8_centuries_37 : decode cX8_centuries 37 = .ok (.invokevirtual 97, 3) := by decide +kernel
theorem dX8_centuries_40 : decode cX8_centuries 40 = .ok (.iload_n 2, 1) := by decide +kernel
theorem dX8_centuries_41 : decode cX8_centuries 41 = .ok (.iload_n 3, 1) := by decide +kernel
theorem dX8_centuries_42 : decode cX8_centuries 42 = .ok (.invokestatic 212, 3) := by decide +kernel
theorem dX8_centuries_45 : decode cX8_centuries 45 = .ok (.ireturn, 1) := by decide +kernel
set_option maxRecDepth 20000 in
theorem ggX8_part_X8_isUpTo : GoodIn wsX8_part wsX8_isUpTo := goodIn_r _ [7] (by decide +kernel) (by decide +kernel)
set_option maxRecDepth 20000 in
theorem gX8_part_X8_isUpTo : GoodIn wsX8_part (va_wsS RX8 93 yX8_isUpTo wsX8_isUpTo) := goodIn_app (goodIn_of _ (by decide +kernel)) ggX8_part_X8_isUpTo
set_option maxRecDepth 20000 in
theorem ggX8_part_X8_refuse : GoodIn wsX8_part wsX8_refuse := goodIn_r _ [11, 12, 13, 14, 6, 15, 16, 17, 18, 19, 20, 21, 22, 23, 24, 25, 26, 27] (by decide +kernel) (by decide +kernel)
set_option maxRecDepth 20000 in
theorem gX8_part_X8_refuse : GoodIn wsX8_part (wsV RX8 68 RX8 yX8_refuse wsX8_refuse) := goodIn_app (goodIn_of _ (by decide +kernel)) ggX8_part_X8_refuse
theorem dX8_part_0 : decode cX8_part 0 = .ok (.iload_n 1, 1) := by decide +kernel
theorem dX8_part_1 : decode cX8_part 1 = .ok (.iconst 1, 1) := by decide +kernel
theorem dX8_part_2 : decode cX8_part 2 = .ok (.invokestatic 93, 3) := by decide +kernel
theorem dX8_part_5 : decode cX8_part 5 = .ok (.ifCond .ne 11, 3) := by decide +kernel
theorem dX8_part_8 : decode cX8_part 8 = .ok (.aload_n 0, 1) := by decide +kernel
theorem dX8_part_9 : decode cX8_part 9 = .ok (.bipush (-2), 2) := by decide +kernel
theorem dX8_part_11 : decode cX8_part 11 = .ok (.invokevirtual 68, 3) := by decide +kernel
theorem dX8_part_14 : decode cX8_part 14 = .ok (.i2l, 1) := by decide +kernel
theorem dX8_part_15 : decode cX8_part 15 = .ok (.lreturn, 1) := by decide +kernel
theorem dX8_part_16 : decode cX8_part 16 = .ok (.iload_n 1, 1) := by decide +kernel
theorem dX8_part_17 : decode cX8_part 17 = .ok (.ifCond .ne 13, 3) := by decide +kernel
theorem dX8_part_20 : decode cX8_part 20 = .ok (.aload_n 0, 1) := by decide +kernel
theorem dX8_part_21 : decode cX8_part 21 = .ok (.getfield 49, 3) := by decide +kernel
theorem dX8_part_24 : decode cX8_part 24 = .ok (.getfield 218, 3) := by decide +kernel
theorem dX8_part_27 : decode cX8_part 27 = .ok (.goto 10, 3) := by decide +kernel
theorem dX8_part_30 : decode cX8_part 30 = .ok (.aload_n 0, 1) := by decide +kernel
theorem dX8_part_31 : decode cX8_part 31 = .ok (.getfield 49, 3) := by decide +kernel
theorem dX8_part_34 : decode cX8_part 34 = .ok (.getfield 221, 3) := by decide +kernel
theorem dX8_part_37 : decode cX8_part 37 = .ok (.lreturn, 1) := by decide +kernel
set_option maxRecDepth 20000 in
theorem ggX8_image_X8_isUpTo : GoodIn wsX8_image wsX8_isUpTo := goodIn_r _ [9] (by decide +kernel) (by decide +kernel)
set_option maxRecDepth 20000 in
theorem gX8_image_X8_isUpTo : GoodIn wsX8_image (va_wsS RX8 93 yX8_isUpTo wsX8_isUpTo) := goodIn_app (goodIn_of _ (by decide +kernel)) ggX8_image_X8_isUpTo
set_option maxRecDepth 20000 in
theorem ggX8_image_X8_refuse : GoodIn wsX8_image wsX8_refuse := goodIn_r _ [13, 14, 15, 16, 8, 17, 18, 38, 39, 40, 41, 42, 43, 44, 45, 46, 47, 48] (by decide +kernel) (by decide +kernel)
set_option maxRecDepth 20000 in
theorem gX8_image_X8_refuse : GoodIn wsX8_image (wsV RX8 68 RX8 yX8_refuse wsX8_refuse) := goodIn_app (goodIn_of _ (by decide +kernel)) ggX8_image_X8_refuse
set_option maxRecDepth 20000 in
theorem ggX8_image_X3_becomeLike : GoodIn wsX8_image wsX3_becomeLike := goodIn_r _ [23, 24, 25, 26, 27, 28, 29, 30, 31, 32, 33, 34, 35, 36, 37, 49, 50, 51, 52, 53, 54, 55, 56, 57, 58] (by decide +kernel) (by decide +kernel)
set_option maxRecDepth 20000 in
theorem gX8_image_X3_becomeLike : GoodIn wsX8_image (wsV RX8 123 RX3 yX3_becomeLike wsX3_becomeLike) := goodIn_app (goodIn_of _ (by decide +kernel)) ggX8_image_X3_becomeLike
theorem dX8_image_0 : decode cX8_image 0 = .ok (.iload_n 1, 1) := by decide +kernel
theorem dX8_image_1 : decode cX8_image 1 = .ok (.iconst 1, 1) := by decide +kernel
theorem dX8_image_2 : decode cX8_image 2 = .ok (.invokestatic 93, 3) := by decide +kernel
theorem dX8_image_5 : decode cX8_image 5 = .ok (.ifCond .ne 10, 3) := by decide +kernel
theorem dX8_image_8 : decode cX8_image 8 = .ok (.aload_n 0, 1) := by decide +kernel
theorem dX8_image_9 : decode cX8_image 9 = .ok (.bipush (-2), 2) := by decide +kernel
theorem dX8_image_11 : decode cX8_image 11 = .ok (.invokevirtual 68, 3) := by decide +kernel
theorem dX8_image_14 : decode cX8_image 14 = .ok (.ireturn, 1) := by decide +kernel
theorem dX8_image_15 : decode cX8_image 15 = .ok (.iload_n 1, 1) := by decide +kernel
theorem dX8_image_16 : decode cX8_image 16 = .ok (.ifCond .ne 22, 3) := by decide +kernel
theorem dX8_image_19 : decode cX8_image 19 = .ok (.aload_n 0, 1) := by decide +kernel
theorem dX8_image_20 : decode cX8_image 20 = .ok (.getfield 16, 3) := by decide +kernel
theorem dX8_image_23 : decode cX8_image 23 = .ok (.aload_n 0, 1) := by decide +kernel
theorem dX8_image_24 : decode cX8_image 24 = .ok (.getfield 10, 3) := by decide +kernel
theorem dX8_image_27 : decode cX8_image 27 = .ok (.invokevirtual 123, 3) := by decide +kernel
theorem dX8_image_30 : decode cX8_image 30 = .ok (.aload_n 0, 1) := by decide +kernel
theorem dX8_image_31 : decode cX8_image 31 = .ok (.iconst 1, 1) := by decide +kernel
theorem dX8_image_32 : decode cX8_image 32 = .ok (.putfield 224, 3) := by decide +kernel
theorem dX8_image_35 : decode cX8_image 35 = .ok (.goto 19, 3) := by decide +kernel
theorem dX8_image_38 : decode cX8_image 38 = .ok (.aload_n 0, 1) := by decide +kernel
theorem dX8_image_39 : decode cX8_image 39 = .ok (.getfield 19, 3) := by decide +kernel
theorem dX8_image_42 : decode cX8_image 42 = .ok (.aload_n 0, 1) := by decide +kernel
theorem dX8_image_43 : decode cX8_image 43 = .ok (.getfield 10, 3) := by decide +kernel
theorem dX8_image_46 : decode cX8_image 46 = .ok (.invokevirtual 123, 3) := by decide +kernel
theorem dX8_image_49 : decode cX8_image 49 = .ok (.aload_n 0, 1) := by decide +kernel
theorem dX8_image_50 : decode cX8_image 50 = .ok (.iconst 1, 1) := by decide +kernel
theorem dX8_image_51 : decode cX8_image 51 = .ok (.putfield 228, 3) := by decide +kernel
theorem dX8_image_54 : decode cX8_image 54 = .ok (.iconst 1, 1) := by decide +kernel
theorem dX8_image_55 : decode cX8_image 55 = .ok (.ireturn, 1) := by decide +kernel
set_option maxRecDepth 20000 in
theorem ggX8_from_X8_isUpTo : GoodIn wsX8_from wsX8_isUpTo := goodIn_r _ [9] (by decide +kernel) (by decide +kernel)
set_option maxRecDepth 20000 in
theorem gX8_from_X8_isUpTo : GoodIn wsX8_from (va_wsS RX8 93 yX8_isUpTo wsX8_isUpTo) := goodIn_app (goodIn_of _ (by decide +kernel)) ggX8_from_X8_isUpTo
set_option maxRecDepth 20000 in
theorem ggX8_from_X8_refuse : GoodIn wsX8_from wsX8_refuse := goodIn_r _ [13, 14, 15, 16, 8, 17, 18, 38, 39, 40, 41, 42, 43, 44, 45, 46, 47, 48] (by decide +kernel) (by decide +kernel)
set_option maxRecDepth 20000 in
theorem gX8_from_X8_refuse : GoodIn wsX8_from (wsV RX8 68 RX8 yX8_refuse wsX8_refuse) := goodIn_app (goodIn_of _ (by decide +kernel)) ggX8_from_X8_refuse
set_option maxRecDepth 20000 in
theorem ggX8_from_X3_becomeLike : GoodIn wsX8_from wsX3_becomeLike := goodIn_r _ [23, 24, 25, 26, 27, 28, 29, 30, 31, 32, 33, 34, 35, 36, 37, 49, 50, 51, 52, 53, 54, 55, 56, 57, 58] (by decide +kernel) (by decide +kernel)
set_option maxRecDepth 20000 in
theorem gX8_from_X3_becomeLike : GoodIn wsX8_from (wsV RX8 123 RX3 yX3_becomeLike wsX3_becomeLike) := goodIn_app (goodIn_of _ (by decide +kernel)) ggX8_from_X3_becomeLike
theorem dX8_from_0 : decode cX8_from 0 = .ok (.iload_n 1, 1) := by decide +kernel
theorem dX8_from_1 : decode cX8_from 1 = .ok (.iconst 1, 1) := by decide +kernel
theorem dX8_from_2 : decode cX8_from 2 = .ok (.invokestatic 93, 3) := by decide +kernel
theorem dX8_from_5 : decode cX8_from 5 = .ok (.ifCond .ne 10, 3) := by decide +kernel
theorem dX8_from_8 : decode cX8_from 8 = .ok (.aload_n 0, 1) := by decide +kernel
theorem dX8_from_9 : decode cX8_from 9 = .ok (.bipush (-2), 2) := by decide +kernel
theorem dX8_from_11 : decode cX8_from 11 = .ok (.invokevirtual 68, 3) := by decide +kernel
theorem dX8_from_14 : decode cX8_from 14 = .ok (.ireturn, 1) := by decide +kernel
theorem dX8_from_15 : decode cX8_from 15 = .ok (.iload_n 1, 1) := by decide +kernel
theorem dX8_from_16 : decode cX8_from 16 = .ok (.ifCond .ne 13, 3) := by decide +kernel
theorem dX8_from_19 : decode cX8_from 19 = .ok (.aload_n 0, 1) := by decide +kernel
theorem dX8_from_20 : decode cX8_from 20 = .ok (.getfield 224, 3) := by decide +kernel
theorem dX8_from_23 : decode cX8_from 23 = .ok (.ifCond .ne 20, 3) := by decide +kernel
theorem dX8_from_26 : decode cX8_from 26 = .ok (.goto 10, 3) := by decide +kernel
theorem dX8_from_29 : decode cX8_from 29 = .ok (.aload_n 0, 1) := by decide +kernel
theorem dX8_from_30 : decode cX8_from 30 = .ok (.getfield 228, 3) := by decide +kernel
theorem dX8_from_33 : decode cX8_from 33 = .ok (.ifCond .ne 10, 3) := by decide +kernel
theorem dX8_from_36 : decode cX8_from 36 = .ok (.aload_n 0, 1) := by decide +kernel
theorem dX8_from_37 : decode cX8_from 37 = .ok (.bipush (-3), 2) := by decide +kernel
theorem dX8_from_39 : decode cX8_from 39 = .ok (.invokevirtual 68, 3) := by decide +kernel
theorem dX8_from_42 : decode cX8_from 42 = .ok (.ireturn, 1) := by decide +kernel
theorem dX8_from_43 : decode cX8_from 43 = .ok (.aload_n 0, 1) := by decide +kernel
theorem dX8_from_44 : decode cX8_from 44 = .ok (.getfield 10, 3) := by decide +kernel
theorem dX8_from_47 : decode cX8_from 47 = .ok (.iload_n 1, 1) := by decide +kernel
theorem dX8_from_48 : decode cX8_from 48 = .ok (.ifCond .ne 10, 3) := by decide +kernel
theorem dX8_from_51 : decode cX8_from 51 = .ok (.aload_n 0, 1) := by decide +kernel
theorem dX8_from_52 : decode cX8_from 52 = .ok (.getfield 16, 3) := by decide +kernel
theorem dX8_from_55 : decode cX8_from 55 = .ok (.goto 7, 3) := by decide +kernel
theorem dX8_from_58 : decode cX8_from 58 = .ok (.aload_n 0, 1) := by decide +kernel
theorem dX8_from_59 : decode cX8_from 59 = .ok (.getfield 19, 3) := by decide +kernel
theorem dX8_from_62 : decode cX8_from 62 = .ok (.invokevirtual 123, 3) := by decide +kernel
theorem dX8_from_65 : decode cX8_from 65 = .ok (.iconst 1, 1) := by decide +kernel
theorem dX8_from_66 : decode cX8_from 66 = .ok (.ireturn, 1) := by decide +kernel
set_option maxRecDepth 20000 in
theorem ggX8_status_X8_refuse_ : GoodIn wsX8_status wsX8_refuse_ := goodIn_r _ [6, 1, 7, 8, 9, 10, 11, 12, 13, 14, 15, 16, 17] (by decide +kernel) (by decide +kernel)
set_option maxRecDepth 20000 in
theorem gX8_status_X8_refuse_ : GoodIn wsX8_status (wsV RX8 127 RX8 yX8_refuse_ wsX8_refuse_) := goodIn_app (goodIn_of _ (by decide +kernel)) ggX8_status_X8_refuse_
theorem dX8_status_0 : decode cX8_status 0 = .ok (.iload_n 1, 1) := by decide +kernel
theorem dX8_status_1 : decode cX8_status 1 = .ok (.ifCond .lt 12, 3) := by decide +kernel
theorem dX8_status_4 : decode cX8_status 4 = .ok (.iload_n 1, 1) := by decide +kernel
theorem dX8_status_5 : decode cX8_status 5 = .ok (.aload_n 0, 1) := by decide +kernel
theorem dX8_status_6 : decode cX8_status 6 = .ok (.getfield 53, 3) := by decide +kernel
theorem dX8_status_9 : decode cX8_status 9 = .ok (.arraylength, 1) := by decide +kernel
theorem dX8_status_10 : decode cX8_status 10 = .ok (.if_icmp .lt 11, 3) := by decide +kernel
theorem dX8_status_13 : decode cX8_status 13 = .ok (.aload_n 0, 1) := by decide +kernel
theorem dX8_status_14 : decode cX8_status 14 = .ok (.bipush (-2), 2) := by decide +kernel
theorem dX8_status_16 : decode cX8_status 16 = .ok (.iconst (-1), 1) := by decide +kernel
theorem dX8_status_17 : decode cX8_status 17 = .ok (.invokevirtual 127, 3) := by decide +kernel
theorem dX8_status_20 : decode cX8_status 20 = .ok (.ireturn, 1) := by decide +kernel
theorem dX8_status_21 : decode cX8_status 21 = .ok (.aload_n 0, 1) := by decide +kernel
theorem dX8_status_22 : decode cX8_status 22 = .ok (.getfield 53, 3) := by decide +kernel
theorem dX8_status_25 : decode cX8_status 25 = .ok (.iload_n 1, 1) := by decide +kernel
theorem dX8_status_26 : decode cX8_status 26 = .ok (.iaload, 1) := by decide +kernel
theorem dX8_status_27 : decode cX8_status 27 = .ok (.ireturn, 1) := by decide +kernel
set_option maxRecDepth 20000 in
theorem ggX8_count_X8_isUpTo : GoodIn wsX8_count wsX8_isUpTo := goodIn_r _ [4] (by decide +kernel) (by decide +kernel)
set_option maxRecDepth 20000 in
theorem gX8_count_X8_isUpTo : GoodIn wsX8_count (va_wsS RX8 93 yX8_isUpTo wsX8_isUpTo) := goodIn_app (goodIn_of _ (by decide +kernel)) ggX8_count_X8_isUpTo
set_option maxRecDepth 20000 in
theorem ggX8_count_X8_howMany : GoodIn wsX8_count wsX8_howMany := goodIn_r _ [8, 9, 10, 11, 12, 13, 14, 15, 16, 17, 18, 19, 20, 21, 22, 23, 24, 25, 26, 27, 28, 29, 30, 31, 32, 33, 34, 35, 36, 37, 38, 39, 40, 41, 42, 43, 44, 45, 46, 47, 48, 58, 59, 60, 61, 62, 63, 64, 65, 66, 67, 68, 69, 70, 71, 72, 73, 74, 75, 76, 77, 78, 79, 80, 81, 82, 83, 84] (by decide +kernel) (by decide +kernel)
set_option maxRecDepth 20000 in
theorem gX8_count_X8_howMany : GoodIn wsX8_count (wsV RX8 231 RX8 yX8_howMany wsX8_howMany) := goodIn_app (goodIn_of _ (by decide +kernel)) ggX8_count_X8_howMany
set_option maxRecDepth 20000 in
theorem ggX8_count_X8_refuse : GoodIn wsX8_count wsX8_refuse := goodIn_r _ [52, 53, 54, 55, 3, 56, 57, 58, 59, 60, 61, 62, 63, 64, 65, 66, 67, 68] (by decide +kernel) (by decide +kernel)
set_option maxRecDepth 20000 in
theorem gX8_count_X8_refuse : GoodIn wsX8_count (wsV RX8 68 RX8 yX8_refuse wsX8_refuse) := goodIn_app (goodIn_of _ (by decide +kernel)) ggX8_count_X8_refuse
theorem dX8_count_0 : decode cX8_count 0 = .ok (.iload_n 1, 1) := by decide +kernel
theorem dX8_count_1 : decode cX8_count 1 = .ok (.iconst 5, 1) := by decide +kernel
theorem dX8_count_2 : decode cX8_count 2 = .ok (.invokestatic 93, 3) := by decide +kernel
theorem dX8_count_5 : decode cX8_count 5 = .ok (.ifCond .eq 11, 3) := by decide +kernel
theorem dX8_count_8 : decode cX8_count 8 = .ok (.aload_n 0, 1) := by decide +kernel
theorem dX8_count_9 : decode cX8_count 9 = .ok (.iload_n 1, 1) := by decide +kernel
theorem dX8_count_10 : decode cX8_count 10 = .ok (.invokevirtual 231, 3) := by decide +kernel
theorem dX8_count_13 : decode cX8_count 13 = .ok (.goto 9, 3) := by decide +kernel
theorem dX8_count_16 : decode cX8_count 16 = .ok (.aload_n 0, 1) := by decide +kernel
theorem dX8_count_17 : decode cX8_count 17 = .ok (.bipush (-2), 2) := by decide +kernel
theorem dX8_count_19 : decode cX8_count 19 = .ok (.invokevirtual 68, 3) := by decide +kernel
theorem dX8_count_22 : decode cX8_count 22 = .ok (.ireturn, 1) := by decide +kernel
set_option maxRecDepth 20000 in
theorem ggX8_digest_X8_howMany : GoodIn wsX8_digest wsX8_howMany := goodIn_r _ [11, 3, 12, 13, 14, 15, 16, 17, 18, 19, 20, 21, 22, 23, 24, 25, 26, 27, 28, 29, 30, 31, 32, 33, 34, 35, 36, 37, 38, 39, 40, 41, 42, 43, 44, 45, 46, 47, 48, 49, 50, 65, 66, 67, 68, 69, 70, 71, 72, 73, 74, 75, 78, 79, 80, 81, 82, 83, 84, 85, 86, 87, 88, 89, 90, 91, 92, 93] (by decide +kernel) (by decide +kernel)
set_option maxRecDepth 20000 in
theorem gX8_digest_X8_howMany : GoodIn wsX8_digest (wsV RX8 231 RX8 yX8_howMany wsX8_howMany) := goodIn_app (goodIn_of _ (by decide +kernel)) ggX8_digest_X8_howMany
set_option maxRecDepth 20000 in
theorem ggX8_digest_X3_digestedOnto : GoodIn wsX8_digest wsX3_digestedOnto := goodIn_r _ [54, 55, 26, 56, 57, 58, 59, 60, 49, 32, 29, 33, 34, 61, 62, 20, 63, 64, 36, 37, 78, 79, 80, 81, 82, 83, 84, 85, 86, 87] (by decide +kernel) (by decide +kernel)
set_option maxRecDepth 20000 in
theorem gX8_digest_X3_digestedOnto : GoodIn wsX8_digest (wsV RX8 238 RX3 yX3_digestedOnto wsX3_digestedOnto) := goodIn_app (goodIn_of _ (by decide +kernel)) ggX8_digest_X3_digestedOnto
theorem dX8_digest_0 : decode cX8_digest 0 = .ok (.ldc2_w 234, 3) := by decide +kernel
theorem dX8_digest_3 : decode cX8_digest 3 = .ok (.lstore_n 1, 1) := by decide +kernel
theorem dX8_digest_4 : decode cX8_digest 4 = .ok (.iconst 0, 1) := by decide +kernel
theorem dX8_digest_5 : decode cX8_digest 5 = .ok (.istore_n 3, 1) := by decide +kernel
theorem dX8_digest_6 : decode cX8_digest 6 = .ok (.iload_n 3, 1) := by decide +kernel
theorem dX8_digest_7 : decode cX8_digest 7 = .ok (.bipush 6, 2) := by decide +kernel
theorem dX8_digest_9 : decode cX8_digest 9 = .ok (.if_icmp .ge 22, 3) := by decide +kernel
theorem dX8_digest_12 : decode cX8_digest 12 = .ok (.ldc2_w 236, 3) := by decide +kernel
theorem dX8_digest_15 : decode cX8_digest 15 = .ok (.lload_n 1, 1) := by decide +kernel
theorem dX8_digest_16 : decode cX8_digest 16 = .ok (.lmul, 1) := by decide +kernel
theorem dX8_digest_17 : decode cX8_digest 17 = .ok (.aload_n 0, 1) := by decide +kernel
theorem dX8_digest_18 : decode cX8_digest 18 = .ok (.iload_n 3, 1) := by decide +kernel
theorem dX8_digest_19 : decode cX8_digest 19 = .ok (.invokevirtual 231, 3) := by decide +kernel
theorem dX8_digest_22 : decode cX8_digest 22 = .ok (.i2l, 1) := by decide +kernel
theorem dX8_digest_23 : decode cX8_digest 23 = .ok (.ladd, 1) := by decide +kernel
theorem dX8_digest_24 : decode cX8_digest 24 = .ok (.lstore_n 1, 1) := by decide +kernel
theorem dX8_digest_25 : decode cX8_digest 25 = .ok (.iinc 3 1, 3) := by decide +kernel
theorem dX8_digest_28 : decode cX8_digest 28 = .ok (.goto (-22), 3) := by decide +kernel
theorem dX8_digest_31 : decode cX8_digest 31 = .ok (.aload_n 0, 1) := by decide +kernel
theorem dX8_digest_32 : decode cX8_digest 32 = .ok (.getfield 10, 3) := by decide +kernel
theorem dX8_digest_35 : decode cX8_digest 35 = .ok (.lload_n 1, 1) := by decide +kernel
theorem dX8_digest_36 : decode cX8_digest 36 = .ok (.invokevirtual 238, 3) := by decide +kernel
theorem dX8_digest_39 : decode cX8_digest 39 = .ok (.lstore_n 1, 1) := by decide +kernel
theorem dX8_digest_40 : decode cX8_digest 40 = .ok (.ldc2_w 236, 3) := by decide +kernel
theorem dX8_digest_43 : decode cX8_digest 43 = .ok (.lload_n 1, 1) := by decide +kernel
theorem dX8_digest_44 : decode cX8_digest 44 = .ok (.lmul, 1) := by decide +kernel
theorem dX8_digest_45 : decode cX8_digest 45 = .ok (.aload_n 0, 1) := by decide +kernel
theorem dX8_digest_46 : decode cX8_digest 46 = .ok (.getfield 49, 3) := by decide +kernel
theorem dX8_digest_49 : decode cX8_digest 49 = .ok (.getfield 218, 3) := by decide +kernel
theorem dX8_digest_52 : decode cX8_digest 52 = .ok (.ladd, 1) := by decide +kernel
theorem dX8_digest_53 : decode cX8_digest 53 = .ok (.lstore_n 1, 1) := by decide +kernel
theorem dX8_digest_54 : decode cX8_digest 54 = .ok (.ldc2_w 236, 3) := by decide +kernel
theorem dX8_digest_57 : decode cX8_digest 57 = .ok (.lload_n 1, 1) := by decide +kernel
theorem dX8_digest_58 : decode cX8_digest 58 = .ok (.lmul, 1) := by decide +kernel
theorem dX8_digest_59 : decode cX8_digest 59 = .ok (.aload_n 0, 1) := by decide +kernel
theorem dX8_digest_60 : decode cX8_digest 60 = .ok (.getfield 49, 3) := by decide +kernel
theorem dX8_digest_63 : decode cX8_digest 63 = .ok (.getfield 221, 3) := by decide +kernel
theorem dX8_digest_66 : decode cX8_digest 66 = .ok (.ladd, 1) := by decide +kernel
theorem dX8_digest_67 : decode cX8_digest 67 = .ok (.lreturn, 1) := by decide +kernel
theorem dX8_isUpTo_0 : decode cX8_isUpTo 0 = .ok (.iload_n 0, 1) := by decide +kernel
theorem dX8_isUpTo_1 : decode cX8_isUpTo 1 = .ok (.ifCond .lt 12, 3) := by decide +kernel
theorem dX8_isUpTo_4 : decode cX8_isUpTo 4 = .ok (.iload_n 0, 1) := by decide +kernel
theorem dX8_isUpTo_5 : decode cX8_isUpTo 5 = .ok (.iload_n 1, 1) := by decide +kernel
theorem dX8_isUpTo_6 : decode cX8_isUpTo 6 = .ok (.if_icmp .gt 7, 3) := by decide +kernel
theorem dX8_isUpTo_9 : decode cX8_isUpTo 9 = .ok (.iconst 1, 1) := by decide +kernel
theorem dX8_isUpTo_10 : decode cX8_isUpTo 10 = .ok (.goto 4, 3) := by decide +kernel
theorem dX8_isUpTo_13 : decode cX8_isUpTo 13 = .ok (.iconst 0, 1) := by decide +kernel
theorem dX8_isUpTo_14 : decode cX8_isUpTo 14 = .ok (.ireturn, 1) := by decide +kernel
set_option maxRecDepth 20000 in
theorem ggX8_isBranch_X8_isUpTo : GoodIn wsX8_isBranch wsX8_isUpTo := goodIn_r _ [4] (by decide +kernel) (by decide +kernel)
set_option maxRecDepth 20000 in
theorem gX8_isBranch_X8_isUpTo : GoodIn wsX8_isBranch (va_wsS RX8 93 yX8_isUpTo wsX8_isUpTo) := goodIn_app (goodIn_of _ (by decide +kernel)) ggX8_isBranch_X8_isUpTo
theorem dX8_isBranch_0 : decode cX8_isBranch 0 = .ok (.iload_n 0, 1) := by decide +kernel
theorem dX8_isBranch_1 : decode cX8_isBranch 1 = .ok (.bipush 7, 2) := by decide +kernel
theorem dX8_isBranch_3 : decode cX8_isBranch 3 = .ok (.invokestatic 93, 3) := by decide +kernel
theorem dX8_isBranch_6 : decode cX8_isBranch 6 = .ok (.ireturn, 1) := by decide +kernel
set_option maxRecDepth 20000 in
theorem ggX8_isPart_X8_isUpTo : GoodIn wsX8_isPart wsX8_isUpTo := goodIn_r _ [4] (by decide +kernel) (by decide +kernel)
set_option maxRecDepth 20000 in
theorem gX8_isPart_X8_isUpTo : GoodIn wsX8_isPart (va_wsS RX8 93 yX8_isUpTo wsX8_isUpTo) := goodIn_app (goodIn_of _ (by decide +kernel)) ggX8_isPart_X8_isUpTo
theorem dX8_isPart_0 : decode cX8_isPart 0 = .ok (.iload_n 0, 1) := by decide +kernel
theorem dX8_isPart_1 : decode cX8_isPart 1 = .ok (.bipush 9, 2) := by decide +kernel
theorem dX8_isPart_3 : decode cX8_isPart 3 = .ok (.invokestatic 93, 3) := by decide +kernel
theorem dX8_isPart_6 : decode cX8_isPart 6 = .ok (.ireturn, 1) := by decide +kernel
set_option maxRecDepth 20000 in
theorem ggX8_refuse_X8_refuse_ : GoodIn wsX8_refuse wsX8_refuse_ := goodIn_r _ [5, 6, 7, 8, 9, 10, 11, 12, 13, 14, 15, 16, 17] (by decide +kernel) (by decide +kernel)
set_option maxRecDepth 20000 in
theorem gX8_refuse_X8_refuse_ : GoodIn wsX8_refuse (wsV RX8 127 RX8 yX8_refuse_ wsX8_refuse_) := goodIn_app (goodIn_of _ (by decide +kernel)) ggX8_refuse_X8_refuse_
theorem dX8_refuse_0 : decode cX8_refuse 0 = .ok (.aload_n 0, 1) := by decide +kernel
theorem dX8_refuse_1 : decode cX8_refuse 1 = .ok (.iload_n 1, 1) := by decide +kernel
theorem dX8_refuse_2 : decode cX8_refuse 2 = .ok (.iload_n 1, 1) := by decide +kernel
theorem dX8_refuse_3 : decode cX8_refuse 3 = .ok (.invokevirtual 127, 3) := by decide +kernel
theorem dX8_refuse_6 : decode cX8_refuse 6 = .ok (.ireturn, 1) := by decide +kernel
theorem dX8_refuse__0 : decode cX8_refuse_ 0 = .ok (.bipush (-2), 2) := by decide +kernel
theorem dX8_refuse__2 : decode cX8_refuse_ 2 = .ok (.iload_n 1, 1) := by decide +kernel
theorem dX8_refuse__3 : decode cX8_refuse_ 3 = .ok (.isub, 1) := by decide +kernel
theorem dX8_refuse__4 : decode cX8_refuse_ 4 = .ok (.istore_n 3, 1) := by decide +kernel
theorem dX8_refuse__5 : decode cX8_refuse_ 5 = .ok (.iload_n 3, 1) := by decide +kernel
theorem dX8_refuse__6 : decode cX8_refuse_ 6 = .ok (.ifCond .lt 22, 3) := by decide +kernel
theorem dX8_refuse__9 : decode cX8_refuse_ 9 = .ok (.iload_n 3, 1) := by decide +kernel
theorem dX8_refuse__10 : decode cX8_refuse_ 10 = .ok (.aload_n 0, 1) := by decide +kernel
theorem dX8_refuse__11 : decode cX8_refuse_ 11 = .ok (.getfield 53, 3) := by decide +kernel
theorem dX8_refuse__14 : decode cX8_refuse_ 14 = .ok (.arraylength, 1) := by decide +kernel
theorem dX8_refuse__15 : decode cX8_refuse_ 15 = .ok (.if_icmp .ge 13, 3) := by decide +kernel
theorem dX8_refuse__18 : decode cX8_refuse_ 18 = .ok (.aload_n 0, 1) := by decide +kernel
theorem dX8_refuse__19 : decode cX8_refuse_ 19 = .ok (.getfield 53, 3) := by decide +kernel
theorem dX8_refuse__22 : decode cX8_refuse_ 22 = .ok (.iload_n 3, 1) := by decide +kernel
theorem dX8_refuse__23 : decode cX8_refuse_ 23 = .ok (.dup2, 1) := by decide +kernel
theorem dX8_refuse__24 : decode cX8_refuse_ 24 = .ok (.iaload, 1) := by decide +kernel
theorem dX8_refuse__25 : decode cX8_refuse_ 25 = .ok (.iconst 1, 1) := by decide +kernel
theorem dX8_refuse__26 : decode cX8_refuse_ 26 = .ok (.iadd, 1) := by decide +kernel
theorem dX8_refuse__27 : decode cX8_refuse_ 27 = .ok (.iastore, 1) := by decide +kernel
theorem dX8_refuse__28 : decode cX8_refuse_ 28 = .ok (.iload_n 2, 1) := by decide +kernel
theorem dX8_refuse__29 : decode cX8_refuse_ 29 = .ok (.ireturn, 1) := by decide +kernel
set_option maxRecDepth 20000 in
theorem ggX8_howMany_X3_talesTold : GoodIn wsX8_howMany wsX3_talesTold := goodIn_r _ [11, 12, 13, 14, 10, 15, 16, 17, 18, 19, 20, 21, 22, 23, 24, 25, 26, 27, 28, 29, 30, 31, 32, 33, 34, 52, 53, 54, 55, 56, 57, 58, 59, 60, 61] (by decide +kernel) (by decide +kernel)
set_option maxRecDepth 20000 in
theorem gX8_howMany_X3_talesTold : GoodIn wsX8_howMany (wsV RX8 57 RX3 yX3_talesTold wsX3_talesTold) := goodIn_app (goodIn_of _ (by decide +kernel)) ggX8_howMany_X3_talesTold
set_option maxRecDepth 20000 in
theorem ggX8_howMany_X3_partsOfAll : GoodIn wsX8_howMany wsX3_partsOfAll := goodIn_r _ [38, 16, 39, 22, 19, 23, 24, 52, 53, 54, 55, 56, 57, 58, 59, 60, 61] (by decide +kernel) (by decide +kernel)
set_option maxRecDepth 20000 in
theorem gX8_howMany_X3_partsOfAll : GoodIn wsX8_howMany (wsV RX8 242 RX3 yX3_partsOfAll wsX3_partsOfAll) := goodIn_app (goodIn_of _ (by decide +kernel)) ggX8_howMany_X3_partsOfAll
set_option maxRecDepth 20000 in
theorem ggX8_howMany_X7_sizeOf : GoodIn wsX8_howMany wsX7_sizeOf := goodIn_r _ [23, 24] (by decide +kernel) (by decide +kernel)
set_option maxRecDepth 20000 in
theorem gX8_howMany_X7_sizeOf : GoodIn wsX8_howMany (va_wsS RX8 76 yX7_sizeOf wsX7_sizeOf) := goodIn_app (goodIn_of _ (by decide +kernel)) ggX8_howMany_X7_sizeOf
theorem dX8_howMany_0 : decode cX8_howMany 0 = .ok (.iload_n 1, 1) := by decide +kernel
theorem dX8_howMany_1 : decode cX8_howMany 1 = .ok (.tableswitch 78 0 4 #[35, 43, 51, 62, 70], 35) := by decide +kernel
theorem dX8_howMany_36 : decode cX8_howMany 36 = .ok (.aload_n 0, 1) := by decide +kernel
theorem dX8_howMany_37 : decode cX8_howMany 37 = .ok (.getfield 10, 3) := by decide +kernel
theorem dX8_howMany_40 : decode cX8_howMany 40 = .ok (.invokevirtual 57, 3) := by decide +kernel
theorem dX8_howMany_43 : decode cX8_howMany 43 = .ok (.ireturn, 1) := by decide +kernel
theorem dX8_howMany_44 : decode cX8_howMany 44 = .ok (.aload_n 0, 1) := by decide +kernel
theorem dX8_howMany_45 : decode cX8_howMany 45 = .ok (.getfield 10, 3) := by decide +kernel
theorem dX8_howMany_48 : decode cX8_howMany 48 = .ok (.invokevirtual 242, 3) := by decide +kernel
theorem dX8_howMany_51 : decode cX8_howMany 51 = .ok (.ireturn, 1) := by decide +kernel
theorem dX8_howMany_52 : decode cX8_howMany 52 = .ok (.aload_n 0, 1) := by decide +kernel
theorem dX8_howMany_53 : decode cX8_howMany 53 = .ok (.getfield 10, 3) := by decide +kernel
theorem dX8_howMany_56 : decode cX8_howMany 56 = .ok (.getfield 72, 3) := by decide +kernel
theorem dX8_howMany_59 : decode cX8_howMany 59 = .ok (.invokestatic 76, 3) := by decide +kernel
theorem dX8_howMany_62 : decode cX8_howMany 62 = .ok (.ireturn, 1) := by decide +kernel
theorem dX8_howMany_63 : decode cX8_howMany 63 = .ok (.aload_n 0, 1) := by decide +kernel
theorem dX8_howMany_64 : decode cX8_howMany 64 = .ok (.getfield 10, 3) := by decide +kernel
theorem dX8_howMany_67 : decode cX8_howMany 67 = .ok (.getfield 169, 3) := by decide +kernel
theorem dX8_howMany_70 : decode cX8_howMany 70 = .ok (.ireturn, 1) := by decide +kernel
theorem dX8_howMany_71 : decode cX8_howMany 71 = .ok (.aload_n 0, 1) := by decide +kernel
theorem dX8_howMany_72 : decode cX8_howMany 72 = .ok (.getfield 10, 3) := by decide +kernel
theorem dX8_howMany_75 : decode cX8_howMany 75 = .ok (.getfield 105, 3) := by decide +kernel
theorem dX8_howMany_78 : decode cX8_howMany 78 = .ok (.ireturn, 1) := by decide +kernel
theorem dX8_howMany_79 : decode cX8_howMany 79 = .ok (.aload_n 0, 1) := by decide +kernel
theorem dX8_howMany_80 : decode cX8_howMany 80 = .ok (.getfield 28, 3) := by decide +kernel
theorem dX8_howMany_83 : decode cX8_howMany 83 = .ok (.getfield 112, 3) := by decide +kernel
theorem dX8_howMany_86 : decode cX8_howMany 86 = .ok (.ireturn, 1) := by decide +kernel
theorem dX8_lowestOf_0 : decode cX8_lowestOf 0 = .ok (.iconst 0, 1) := by decide +kernel
theorem dX8_lowestOf_1 : decode cX8_lowestOf 1 = .ok (.istore_n 1, 1) := by decide +kernel
theorem dX8_lowestOf_2 : decode cX8_lowestOf 2 = .ok (.iload_n 1, 1) := by decide +kernel
theorem dX8_lowestOf_3 : decode cX8_lowestOf 3 = .ok (.bipush 32, 2) := by decide +kernel
theorem dX8_lowestOf_5 : decode cX8_lowestOf 5 = .ok (.if_icmp .ge 20, 3) := by decide +kernel
theorem dX8_lowestOf_8 : decode cX8_lowestOf 8 = .ok (.iload_n 0, 1) := by decide +kernel
theorem dX8_lowestOf_9 : decode cX8_lowestOf 9 = .ok (.iload_n 1, 1) := by decide +kernel
theorem dX8_lowestOf_10 : decode cX8_lowestOf 10 = .ok (.iushr, 1) := by decide +kernel
theorem dX8_lowestOf_11 : decode cX8_lowestOf 11 = .ok (.iconst 1, 1) := by decide +kernel
theorem dX8_lowestOf_12 : decode cX8_lowestOf 12 = .ok (.iand, 1) := by decide +kernel
theorem dX8_lowestOf_13 : decode cX8_lowestOf 13 = .ok (.iconst 1, 1) := by decide +kernel
theorem dX8_lowestOf_14 : decode cX8_lowestOf 14 = .ok (.if_icmp .ne 5, 3) := by decide +kernel
theorem dX8_lowestOf_17 : decode cX8_lowestOf 17 = .ok (.iload_n 1, 1) := by decide +kernel
theorem dX8_lowestOf_18 : decode cX8_lowestOf 18 = .ok (.ireturn, 1) := by decide +kernel
theorem dX8_lowestOf_19 : decode cX8_lowestOf 19 = .ok (.iinc 1 1, 3) := by decide +kernel
theorem dX8_lowestOf_22 : decode cX8_lowestOf 22 = .ok (.goto (-20), 3) := by decide +kernel
theorem dX8_lowestOf_25 : decode cX8_lowestOf 25 = .ok (.iconst (-1), 1) := by decide +kernel
theorem dX8_lowestOf_26 : decode cX8_lowestOf 26 = .ok (.ireturn, 1) := by decide +kernel
set_option maxRecDepth 20000 in
theorem ggX8_slipsFromOthers_X3_taleOf : GoodIn wsX8_slipsFromOthers wsX3_taleOf := goodIn_r _ [7, 8, 9, 10, 11, 12, 13, 14, 48, 49, 50, 51, 52, 53, 54, 55, 56, 57] (by decide +kernel) (by decide +kernel)
set_option maxRecDepth 20000 in
theorem gX8_slipsFromOthers_X3_taleOf : GoodIn wsX8_slipsFromOthers (wsV RX8 97 RX3 yX3_taleOf wsX3_taleOf) := goodIn_app (goodIn_of _ (by decide +kernel)) ggX8_slipsFromOthers_X3_taleOf
set_option maxRecDepth 20000 in
theorem ggX8_slipsFromOthers_X5_between : GoodIn wsX8_slipsFromOthers wsX5_between := goodIn_r _ [19, 20, 21, 22, 23, 24, 25, 26, 27, 28, 18, 29, 30, 31, 32, 33, 34, 35, 36, 58] (by decide +kernel) (by decide +kernel)
set_option maxRecDepth 20000 in
theorem gX8_slipsFromOthers_X5_between : GoodIn wsX8_slipsFromOthers (wsV RX8 141 RX5 yX5_between wsX5_between) := goodIn_app (goodIn_of _ (by decide +kernel)) ggX8_slipsFromOthers_X5_between
theorem dX8_slipsFromOthers_0 : decode cX8_slipsFromOthers 0 = .ok (.aload_n 0, 1) := by decide +kernel
theorem dX8_slipsFromOthers_1 : decode cX8_slipsFromOthers 1 = .ok (.getfield 10, 3) := by decide +kernel
theorem dX8_slipsFromOthers_4 : decode cX8_slipsFromOthers 4 = .ok (.iload_n 1, 1) := by decide +kernel
theorem dX8_slipsFromOthers_5 : decode cX8_slipsFromOthers 5 = .ok (.invokevirtual 97, 3) := by decide +kernel
theorem dX8_slipsFromOthers_8 : decode cX8_slipsFromOthers 8 = .ok (.lstore_n 2, 1) := by decide +kernel
theorem dX8_slipsFromOthers_9 : decode cX8_slipsFromOthers 9 = .ok (.lload_n 2, 1) := by decide +kernel
theorem dX8_slipsFromOthers_10 : decode cX8_slipsFromOthers 10 = .ok (.lconst 0, 1) := by decide +kernel
theorem dX8_slipsFromOthers_11 : decode cX8_slipsFromOthers 11 = .ok (.lcmp, 1) := by decide +kernel
theorem dX8_slipsFromOthers_12 : decode cX8_slipsFromOthers 12 = .ok (.ifCond .ne 5, 3) := by decide +kernel
theorem dX8_slipsFromOthers_15 : decode cX8_slipsFromOthers 15 = .ok (.iconst (-1), 1) := by decide +kernel
theorem dX8_slipsFromOthers_16 : decode cX8_slipsFromOthers 16 = .ok (.ireturn, 1) := by decide +kernel
theorem dX8_slipsFromOthers_17 : decode cX8_slipsFromOthers 17 = .ok (.iconst 0, 1) := by decide +kernel
theorem dX8_slipsFromOthers_18 : decode cX8_slipsFromOthers 18 = .ok (.istore 4, 2) := by decide +kernel
theorem dX8_slipsFromOthers_20 : decode cX8_slipsFromOthers 20 = .ok (.iconst 0, 1) := by decide +kernel
theorem dX8_slipsFromOthers_21 : decode cX8_slipsFromOthers 21 = .ok (.istore 5, 2) := by decide +kernel
theorem dX8_slipsFromOthers_23 : decode cX8_slipsFromOthers 23 = .ok (.iload 5, 2) := by decide +kernel
theorem dX8_slipsFromOthers_25 : decode cX8_slipsFromOthers 25 = .ok (.bipush 8, 2) := by decide +kernel
theorem dX8_slipsFromOthers_27 : decode cX8_slipsFromOthers 27 = .ok (.if_icmp .ge 51, 3) := by decide +kernel
theorem dX8_slipsFromOthers_30 : decode cX8_slipsFromOthers 30 = .ok (.iload 5, 2) := by decide +kernel
theorem dX8_slipsFromOthers_32 : decode cX8_slipsFromOthers 32 = .ok (.iload_n 1, 1) := by decide +kernel
theorem dX8_slipsFromOthers_33 : decode cX8_slipsFromOthers 33 = .ok (.if_icmp .eq 39, 3) := by decide +kernel
