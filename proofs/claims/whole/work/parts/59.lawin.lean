set_option maxRecDepth 20000 in
theorem wsL_in_r1 : GoodIn lw_tbl wsL_law_r1 := goodIn_r _ [58, 59, 40, 710, 711, 47, 60, 61, 62, 63, 64, 65, 66, 67, 41, 175, 176, 177, 178, 111, 112, 43, 179, 138] (by decide +kernel) (by decide +kernel)
set_option maxRecDepth 20000 in
theorem wsL_in_r2 : GoodIn lw_tbl wsL_law_r2 := goodIn_r _ [139, 44, 180, 150, 151, 45, 181, 160, 161, 46, 182, 110, 183, 68, 69, 70, 71, 109, 75, 76, 77, 78, 79, 80] (by decide +kernel) (by decide +kernel)
set_option maxRecDepth 20000 in
theorem wsL_in_r3 : GoodIn lw_tbl wsL_law_r3 := goodIn_r _ [81, 72, 73, 42, 74, 114, 115, 116, 137, 117, 141, 142, 143, 144, 146, 153, 154, 155, 156, 163, 164, 165, 166, 168] (by decide +kernel) (by decide +kernel)
set_option maxRecDepth 20000 in
theorem wsL_in_r4 : GoodIn lw_tbl wsL_law_r4 := goodIn_r _ [712, 713, 714, 715, 720, 721, 724, 725, 726, 727, 728, 729, 730, 731, 802, 732, 733, 735, 736, 738, 744, 745, 746, 716] (by decide +kernel) (by decide +kernel)
set_option maxRecDepth 20000 in
theorem wsL_in_r5 : GoodIn lw_tbl wsL_law_r5 := goodIn_r _ [718, 17, 719, 722, 723, 209, 210, 211, 212, 213, 214, 215, 216, 217, 218, 219, 220, 221, 222, 48, 223, 224, 225, 226] (by decide +kernel) (by decide +kernel)
set_option maxRecDepth 20000 in
theorem wsL_in_r6 : GoodIn lw_tbl wsL_law_r6 := goodIn_r _ [227, 228, 229, 230, 231, 232, 49, 233, 234, 235, 236, 237, 238, 239, 240, 82, 84, 86, 241, 242, 243, 803, 804, 805] (by decide +kernel) (by decide +kernel)
set_option maxRecDepth 20000 in
theorem wsL_in_r7 : GoodIn lw_tbl wsL_law_r7 := goodIn_r _ [806, 807, 809, 18, 810, 244, 245, 246, 247, 83, 248, 249, 250, 251, 252, 253, 254, 256, 0, 257, 258, 260, 1, 261] (by decide +kernel) (by decide +kernel)
set_option maxRecDepth 20000 in
theorem wsL_in_r8 : GoodIn lw_tbl wsL_law_r8 := goodIn_r _ [262, 263, 264, 265, 811, 812, 813, 814, 815, 816, 817, 818, 819, 820, 821, 822, 824, 19, 825, 826, 828, 20, 829, 830] (by decide +kernel) (by decide +kernel)
set_option maxRecDepth 20000 in
theorem wsL_in_r9 : GoodIn lw_tbl wsL_law_r9 := goodIn_r _ [831, 832, 833, 835, 21, 836, 837, 838, 839, 840, 266, 267, 268, 269, 841, 842, 843, 844, 270, 271, 272, 273, 274, 275] (by decide +kernel) (by decide +kernel)
set_option maxRecDepth 20000 in
theorem wsL_in_r10 : GoodIn lw_tbl wsL_law_r10 := goodIn_r _ [276, 277, 278, 279, 280, 281, 283, 2, 284, 285, 287, 286, 50, 289, 290, 291, 292, 294, 295, 296, 297, 298, 299, 300] (by decide +kernel) (by decide +kernel)
set_option maxRecDepth 20000 in
theorem wsL_in_r11 : GoodIn lw_tbl wsL_law_r11 := goodIn_r _ [301, 845, 846, 847, 848, 849, 850, 851, 852, 853, 855, 22, 856, 857, 859, 23, 860, 302, 303, 304, 305, 306, 307, 308] (by decide +kernel) (by decide +kernel)
set_option maxRecDepth 20000 in
theorem wsL_in_r12 : GoodIn lw_tbl wsL_law_r12 := goodIn_r _ [309, 310, 311, 312, 313, 314, 315, 316, 317, 318, 319, 320, 321, 322, 323, 324, 325, 326, 327, 328, 329, 861, 862, 863] (by decide +kernel) (by decide +kernel)
set_option maxRecDepth 20000 in
theorem wsL_in_r13 : GoodIn lw_tbl wsL_law_r13 := goodIn_r _ [864, 865, 866, 867, 868, 869, 871, 24, 872, 873, 874, 875, 876, 877, 878, 879, 880, 881, 882, 883, 884, 885, 886, 887] (by decide +kernel) (by decide +kernel)
set_option maxRecDepth 20000 in
theorem wsL_in_r14 : GoodIn lw_tbl wsL_law_r14 := goodIn_r _ [888, 889, 890, 891, 892, 893, 894, 330, 331, 332, 333, 87, 334, 335, 336, 337, 895, 896, 897, 898, 338, 339, 340, 341] (by decide +kernel) (by decide +kernel)
set_option maxRecDepth 20000 in
theorem wsL_in_r15 : GoodIn lw_tbl wsL_law_r15 := goodIn_r _ [119, 342, 343, 344, 345, 118, 1028, 1029, 1030, 1031, 1032, 739, 347, 348, 349, 350, 1033, 1034, 1035, 1036, 351, 352, 353, 354] (by decide +kernel) (by decide +kernel)
set_option maxRecDepth 20000 in
theorem wsL_in_r16 : GoodIn lw_tbl wsL_law_r16 := goodIn_r _ [355, 356, 357, 358, 121, 120, 122, 359, 360, 362, 3, 363, 123, 364, 366, 4, 367, 368, 369, 370, 371, 373, 5, 374] (by decide +kernel) (by decide +kernel)
set_option maxRecDepth 20000 in
theorem wsL_in_r17 : GoodIn lw_tbl wsL_law_r17 := goodIn_r _ [375, 376, 377, 378, 380, 6, 381, 383, 385, 7, 386, 387, 388, 389, 51, 390, 1117, 391, 392, 393, 394, 395, 1118, 397] (by decide +kernel) (by decide +kernel)
set_option maxRecDepth 20000 in
theorem wsL_in_r18 : GoodIn lw_tbl wsL_law_r18 := goodIn_r _ [398, 399, 400, 401, 402, 403, 404, 405, 406, 52, 407, 408, 409, 410, 411, 413, 414, 53, 415, 416, 417, 54, 418, 419] (by decide +kernel) (by decide +kernel)
set_option maxRecDepth 20000 in
theorem wsL_in_r19 : GoodIn lw_tbl wsL_law_r19 := goodIn_r _ [420, 421, 422, 423, 424, 425, 426, 427, 428, 429, 431, 433, 435, 437, 8, 438, 440, 442, 9, 443, 444, 446, 10, 447] (by decide +kernel) (by decide +kernel)
set_option maxRecDepth 20000 in
theorem wsL_in_r20 : GoodIn lw_tbl wsL_law_r20 := goodIn_r _ [448, 450, 452, 454, 11, 455, 456, 457, 458, 459, 460, 461, 1037, 1038, 1039, 1040, 740, 742, 1041, 1043, 30, 1044, 741, 743] (by decide +kernel) (by decide +kernel)
set_option maxRecDepth 20000 in
theorem wsL_in_r21 : GoodIn lw_tbl wsL_law_r21 := goodIn_r _ [1045, 1046, 1047, 1048, 1049, 1050, 1051, 1052, 1053, 1054, 1055, 1057, 31, 1058, 1059, 1061, 32, 1062, 1063, 1065, 33, 1066, 1067, 1069] (by decide +kernel) (by decide +kernel)
set_option maxRecDepth 20000 in
theorem wsL_in_r22 : GoodIn lw_tbl wsL_law_r22 := goodIn_r _ [34, 1070, 1071, 1073, 35, 1074, 1075, 1077, 36, 1078, 462, 463, 464, 465, 466, 899, 900, 901, 902, 467, 468, 469, 470, 471] (by decide +kernel) (by decide +kernel)
set_option maxRecDepth 20000 in
theorem wsL_in_r23 : GoodIn lw_tbl wsL_law_r23 := goodIn_r _ [903, 904, 905, 906, 472, 473, 474, 475, 476, 907, 908, 909, 910, 477, 478, 479, 480, 481, 482, 483, 484, 485, 486, 488] (by decide +kernel) (by decide +kernel)
set_option maxRecDepth 20000 in
theorem wsL_in_r24 : GoodIn lw_tbl wsL_law_r24 := goodIn_r _ [12, 489, 491, 492, 55, 493, 490, 911, 912, 913, 914, 915, 917, 25, 918, 919, 920, 921, 922, 923, 924, 494, 495, 496] (by decide +kernel) (by decide +kernel)
set_option maxRecDepth 20000 in
theorem wsL_in_r25 : GoodIn lw_tbl wsL_law_r25 := goodIn_r _ [497, 498, 500, 13, 501, 925, 926, 927, 928, 929, 502, 503, 504, 505, 506, 507, 508, 509, 510, 511, 512, 930, 931, 932] (by decide +kernel) (by decide +kernel)
set_option maxRecDepth 20000 in
theorem wsL_in_r26 : GoodIn lw_tbl wsL_law_r26 := goodIn_r _ [933, 934, 935, 936, 937, 938, 939, 513, 514, 515, 516, 517, 518, 519, 520, 521, 522, 523, 524, 525, 526, 940, 941, 942] (by decide +kernel) (by decide +kernel)
set_option maxRecDepth 20000 in
theorem wsL_in_r27 : GoodIn lw_tbl wsL_law_r27 := goodIn_r _ [943, 944, 946, 26, 947, 527, 528, 529, 530, 531, 532, 533, 534, 948, 949, 950, 951, 535, 536, 537, 538, 85, 539, 540] (by decide +kernel) (by decide +kernel)
set_option maxRecDepth 20000 in
theorem wsL_in_r28 : GoodIn lw_tbl wsL_law_r28 := goodIn_r _ [541, 542, 952, 953, 954, 955, 543, 544, 545, 546, 956, 957, 958, 959, 547, 548, 549, 550, 551, 552, 553, 554, 555, 556] (by decide +kernel) (by decide +kernel)
set_option maxRecDepth 20000 in
theorem wsL_in_r29 : GoodIn lw_tbl wsL_law_r29 := goodIn_r _ [557, 558, 559, 960, 961, 962, 963, 560, 561, 562, 563, 565, 566, 567, 564, 964, 965, 966, 967, 968, 568, 569, 570, 571] (by decide +kernel) (by decide +kernel)
set_option maxRecDepth 20000 in
theorem wsL_in_r30 : GoodIn lw_tbl wsL_law_r30 := goodIn_r _ [572, 573, 56, 574, 575, 576, 577, 578, 579, 969, 970, 971, 972, 973, 974, 975, 580, 581, 582, 583, 584, 585, 586, 587] (by decide +kernel) (by decide +kernel)
set_option maxRecDepth 20000 in
theorem wsL_in_r31 : GoodIn lw_tbl wsL_law_r31 := goodIn_r _ [589, 590, 591, 592, 593, 594, 595, 596, 597, 598, 976, 977, 978, 979, 980, 981, 599, 600, 601, 602, 603, 604, 605, 606] (by decide +kernel) (by decide +kernel)
set_option maxRecDepth 20000 in
theorem wsL_in_r32 : GoodIn lw_tbl wsL_law_r32 := goodIn_r _ [607, 982, 983, 984, 985, 608, 609, 610, 611, 612, 613, 614, 615, 616, 617, 619, 14, 620, 986, 987, 988, 989, 990, 991] (by decide +kernel) (by decide +kernel)
set_option maxRecDepth 20000 in
theorem wsL_in_r33 : GoodIn lw_tbl wsL_law_r33 := goodIn_r _ [992, 993, 994, 996, 27, 997, 621, 622, 623, 624, 625, 626, 627, 628, 629, 630, 631, 638, 632, 633, 634, 635, 636, 637] (by decide +kernel) (by decide +kernel)
set_option maxRecDepth 20000 in
theorem wsL_in_r34 : GoodIn lw_tbl wsL_law_r34 := goodIn_r _ [639, 641, 15, 642, 643, 644, 645, 998, 999, 1000, 1001, 1002, 1003, 1004, 1005, 1006, 1007, 1008, 1009, 1010, 1012, 28, 1013, 734] (by decide +kernel) (by decide +kernel)
set_option maxRecDepth 20000 in
theorem wsL_in_r35 : GoodIn lw_tbl wsL_law_r35 := goodIn_r _ [646, 647, 648, 649, 650, 651, 652, 57, 653, 654, 655, 656, 657, 658, 659, 660, 661, 662, 663, 664, 665, 1014, 1015, 1016] (by decide +kernel) (by decide +kernel)
set_option maxRecDepth 20000 in
theorem wsL_in_r36 : GoodIn lw_tbl wsL_law_r36 := goodIn_r _ [1017, 1018, 1019, 737, 1020, 1022, 29, 1023, 1024, 1025, 1026, 1027, 666, 667, 668, 669, 167, 169, 1079, 1080, 1081, 1082, 670, 671] (by decide +kernel) (by decide +kernel)
set_option maxRecDepth 20000 in
theorem wsL_in_r37 : GoodIn lw_tbl wsL_law_r37 := goodIn_r _ [672, 673, 184, 185, 1083, 1084, 1085, 1086, 674, 675, 676, 677, 1087, 1088, 1089, 1090, 678, 679, 680, 681, 1091, 1092, 1093, 1094] (by decide +kernel) (by decide +kernel)
set_option maxRecDepth 20000 in
theorem wsL_in_r38 : GoodIn lw_tbl wsL_law_r38 := goodIn_r _ [1095, 682, 683, 684, 685, 686, 688, 16, 689, 690, 691, 692, 693, 694, 1096, 1097, 1098, 1099, 1100, 1102, 37, 1103, 1104, 1106] (by decide +kernel) (by decide +kernel)
set_option maxRecDepth 20000 in
theorem wsL_in_r39 : GoodIn lw_tbl wsL_law_r39 := goodIn_r _ [38, 1107, 695, 696, 697, 698, 699, 700, 701, 702, 703, 704, 705, 706, 707, 708, 709, 1108, 1109, 1110, 1111, 1112, 1113, 1114] (by decide +kernel) (by decide +kernel)
set_option maxRecDepth 20000 in
theorem wsL_in_r40 : GoodIn lw_tbl wsL_law_r40 := goodIn_r _ [1115, 1116] (by decide +kernel) (by decide +kernel)
set_option maxRecDepth 20000 in
theorem wsL_in_X8 : GoodIn lw_tbl wsX80 := goodIn_r _ [186, 188, 190, 192, 194, 196, 198, 200, 202, 204, 206] (by decide +kernel) (by decide +kernel)
set_option maxRecDepth 20000 in
theorem wsL_in_X9 : GoodIn lw_tbl wsX90 := goodIn_r _ [747, 749, 751, 753, 755, 757, 759, 761, 763, 765, 767, 769, 771, 773, 775, 777, 779, 781, 783, 785, 787, 789, 791, 793, 795, 797, 799] (by decide +kernel) (by decide +kernel)
set_option maxRecDepth 20000 in
theorem wsL_in_X3 : GoodIn lw_tbl wsX30 := goodIn_r _ [88, 90, 92, 94, 96, 98, 100, 102, 104, 106] (by decide +kernel) (by decide +kernel)
set_option maxRecDepth 20000 in
theorem wsL_in_X6 : GoodIn lw_tbl wsX60 := goodIn_r _ [124, 126, 128, 130, 132, 134] (by decide +kernel) (by decide +kernel)
set_option maxRecDepth 20000 in
theorem wsL_in_X5 : GoodIn lw_tbl wsX50 := goodIn_r _ [147] (by decide +kernel) (by decide +kernel)
set_option maxRecDepth 20000 in
theorem wsL_in_X2 : GoodIn lw_tbl wsX20 := goodIn_r _ [157] (by decide +kernel) (by decide +kernel)
set_option maxRecDepth 20000 in
theorem wsL_in_X1 : GoodIn lw_tbl wsX10 := goodIn_r _ [170, 172] (by decide +kernel) (by decide +kernel)
set_option maxRecDepth 20000 in
theorem wsL_law_in : ∀ w ∈ wsL_law, w ∈ lw_tbl := fun w h => ((goodIn_app (goodIn_app (goodIn_app (goodIn_app (goodIn_app (goodIn_app (goodIn_app (goodIn_app (goodIn_app wsL_in_r1 (goodIn_app wsL_in_r2 (goodIn_app wsL_in_r3 (goodIn_app wsL_in_r4 (goodIn_app wsL_in_r5 (goodIn_app wsL_in_r6 (goodIn_app wsL_in_r7 (goodIn_app wsL_in_r8 (goodIn_app wsL_in_r9 (goodIn_app wsL_in_r10 (goodIn_app wsL_in_r11 (goodIn_app wsL_in_r12 (goodIn_app wsL_in_r13 (goodIn_app wsL_in_r14 (goodIn_app wsL_in_r15 (goodIn_app wsL_in_r16 (goodIn_app wsL_in_r17 (goodIn_app wsL_in_r18 (goodIn_app wsL_in_r19 (goodIn_app wsL_in_r20 (goodIn_app wsL_in_r21 (goodIn_app wsL_in_r22 (goodIn_app wsL_in_r23 (goodIn_app wsL_in_r24 (goodIn_app wsL_in_r25 (goodIn_app wsL_in_r26 (goodIn_app wsL_in_r27 (goodIn_app wsL_in_r28 (goodIn_app wsL_in_r29 (goodIn_app wsL_in_r30 (goodIn_app wsL_in_r31 (goodIn_app wsL_in_r32 (goodIn_app wsL_in_r33 (goodIn_app wsL_in_r34 (goodIn_app wsL_in_r35 (goodIn_app wsL_in_r36 (goodIn_app wsL_in_r37 (goodIn_app wsL_in_r38 (goodIn_app wsL_in_r39 wsL_in_r40))))))))))))))))))))))))))))))))))))))) wsL_in_X8) wsL_in_X9) wsL_in_X3) wsL_in_X6) wsL_in_X5) wsL_in_X2) wsL_in_X1) (fun _ h => absurd h List.not_mem_nil)) w h).1
theorem inX0 : ∀ w ∈ wsX00, w ∈ lw_tbl := by decide +kernel
theorem inlX1 : ∀ w ∈ wsX10, w ∈ wsL_law := fun _ h => List.mem_append_left _ (List.mem_append_right _ h)
theorem inX1 : ∀ w ∈ wsX10, w ∈ lw_tbl := fun w h => wsL_law_in w (inlX1 w h)
theorem inlX2 : ∀ w ∈ wsX20, w ∈ wsL_law := fun _ h => List.mem_append_left _ (List.mem_append_left _ (List.mem_append_right _ h))
theorem inX2 : ∀ w ∈ wsX20, w ∈ lw_tbl := fun w h => wsL_law_in w (inlX2 w h)
theorem inlX3 : ∀ w ∈ wsX30, w ∈ wsL_law := fun _ h => List.mem_append_left _ (List.mem_append_left _ (List.mem_append_left _ (List.mem_append_left _ (List.mem_append_left _ (List.mem_append_right _ h)))))
theorem inX3 : ∀ w ∈ wsX30, w ∈ lw_tbl := fun w h => wsL_law_in w (inlX3 w h)
theorem inX4 : ∀ w ∈ wsX40, w ∈ lw_tbl := by decide +kernel
theorem inlX5 : ∀ w ∈ wsX50, w ∈ wsL_law := fun _ h => List.mem_append_left _ (List.mem_append_left _ (List.mem_append_left _ (List.mem_append_right _ h)))
theorem inX5 : ∀ w ∈ wsX50, w ∈ lw_tbl := fun w h => wsL_law_in w (inlX5 w h)
theorem inlX6 : ∀ w ∈ wsX60, w ∈ wsL_law := fun _ h => List.mem_append_left _ (List.mem_append_left _ (List.mem_append_left _ (List.mem_append_left _ (List.mem_append_right _ h))))
theorem inX6 : ∀ w ∈ wsX60, w ∈ lw_tbl := fun w h => wsL_law_in w (inlX6 w h)
theorem inX7 : ∀ w ∈ wsX70, w ∈ lw_tbl := by decide +kernel
theorem inlX8 : ∀ w ∈ wsX80, w ∈ wsL_law := fun _ h => List.mem_append_left _ (List.mem_append_left _ (List.mem_append_left _ (List.mem_append_left _ (List.mem_append_left _ (List.mem_append_left _ (List.mem_append_left _ (List.mem_append_right _ h)))))))
theorem inX8 : ∀ w ∈ wsX80, w ∈ lw_tbl := fun w h => wsL_law_in w (inlX8 w h)
theorem inlX9 : ∀ w ∈ wsX90, w ∈ wsL_law := fun _ h => List.mem_append_left _ (List.mem_append_left _ (List.mem_append_left _ (List.mem_append_left _ (List.mem_append_left _ (List.mem_append_left _ (List.mem_append_right _ h))))))
theorem inX9 : ∀ w ∈ wsX90, w ∈ lw_tbl := fun w h => wsL_law_in w (inlX9 w h)
theorem inJx145de : ∀ w ∈ wsJx145de0, w ∈ lw_tbl := by decide +kernel
theorem inJx9f9b0 : ∀ w ∈ wsJx9f9b00, w ∈ lw_tbl := by decide +kernel
theorem inJxb160c : ∀ w ∈ wsJxb160c0, w ∈ lw_tbl := by decide +kernel
theorem inJ6 : ∀ w ∈ wsJ60, w ∈ lw_tbl := by decide +kernel
theorem inJ9 : ∀ w ∈ wsJ90, w ∈ lw_tbl := by decide +kernel
theorem inJ0 : ∀ w ∈ wsJ00, w ∈ lw_tbl := by decide +kernel
theorem inJ1 : ∀ w ∈ wsJ10, w ∈ lw_tbl := by decide +kernel
theorem inJ2 : ∀ w ∈ wsJ20, w ∈ lw_tbl := by decide +kernel
theorem inJ10 : ∀ w ∈ wsJ100, w ∈ lw_tbl := by decide +kernel
theorem inJxfd54e : ∀ w ∈ wsJxfd54e0, w ∈ lw_tbl := by decide +kernel
theorem inJx3cf43 : ∀ w ∈ wsJx3cf430, w ∈ lw_tbl := by decide +kernel
theorem inJ7 : ∀ w ∈ wsJ70, w ∈ lw_tbl := by decide +kernel
theorem inJ3 : ∀ w ∈ wsJ30, w ∈ lw_tbl := by decide +kernel
