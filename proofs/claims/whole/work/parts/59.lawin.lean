set_option maxRecDepth 20000 in
theorem wsL_in_r1 : GoodIn lw_tbl wsL_law_r1 := goodIn_r _ [60, 61, 42, 730, 731, 49, 62, 63, 64, 65, 66, 67, 68, 69, 43, 190, 191, 192, 193, 113, 114, 45, 194, 140] (by decide +kernel) (by decide +kernel)
set_option maxRecDepth 20000 in
theorem wsL_in_r2 : GoodIn lw_tbl wsL_law_r2 := goodIn_r _ [141, 46, 195, 152, 153, 47, 196, 175, 176, 48, 197, 112, 198, 70, 71, 72, 73, 111, 77, 78, 79, 80, 81, 82] (by decide +kernel) (by decide +kernel)
set_option maxRecDepth 20000 in
theorem wsL_in_r3 : GoodIn lw_tbl wsL_law_r3 := goodIn_r _ [83, 74, 75, 44, 76, 116, 117, 118, 139, 119, 143, 144, 145, 146, 148, 155, 156, 157, 158, 174, 159, 178, 179, 180] (by decide +kernel) (by decide +kernel)
set_option maxRecDepth 20000 in
theorem wsL_in_r4 : GoodIn lw_tbl wsL_law_r4 := goodIn_r _ [181, 183, 732, 733, 734, 735, 740, 741, 744, 745, 746, 747, 748, 749, 750, 751, 752, 753, 755, 756, 758, 764, 765, 766] (by decide +kernel) (by decide +kernel)
set_option maxRecDepth 20000 in
theorem wsL_in_r5 : GoodIn lw_tbl wsL_law_r5 := goodIn_r _ [736, 738, 19, 739, 742, 743, 224, 225, 226, 227, 228, 229, 230, 231, 232, 233, 234, 235, 236, 237, 50, 238, 239, 240] (by decide +kernel) (by decide +kernel)
set_option maxRecDepth 20000 in
theorem wsL_in_r6 : GoodIn lw_tbl wsL_law_r6 := goodIn_r _ [241, 242, 243, 244, 245, 246, 247, 51, 248, 249, 250, 251, 252, 253, 254, 255, 84, 86, 88, 256, 257, 258, 822, 823] (by decide +kernel) (by decide +kernel)
set_option maxRecDepth 20000 in
theorem wsL_in_r7 : GoodIn lw_tbl wsL_law_r7 := goodIn_r _ [824, 825, 826, 828, 20, 829, 259, 260, 261, 262, 85, 263, 264, 265, 266, 267, 268, 269, 271, 0, 272, 273, 275, 1] (by decide +kernel) (by decide +kernel)
set_option maxRecDepth 20000 in
theorem wsL_in_r8 : GoodIn lw_tbl wsL_law_r8 := goodIn_r _ [276, 277, 278, 279, 280, 830, 831, 832, 833, 834, 835, 836, 837, 838, 839, 840, 841, 843, 21, 844, 845, 847, 22, 848] (by decide +kernel) (by decide +kernel)
set_option maxRecDepth 20000 in
theorem wsL_in_r9 : GoodIn lw_tbl wsL_law_r9 := goodIn_r _ [849, 850, 851, 852, 854, 23, 855, 856, 857, 858, 859, 281, 282, 283, 284, 860, 861, 862, 863, 285, 286, 287, 288, 289] (by decide +kernel) (by decide +kernel)
set_option maxRecDepth 20000 in
theorem wsL_in_r10 : GoodIn lw_tbl wsL_law_r10 := goodIn_r _ [290, 291, 292, 293, 294, 295, 296, 298, 2, 299, 300, 302, 301, 52, 304, 305, 306, 307, 309, 310, 311, 312, 313, 314] (by decide +kernel) (by decide +kernel)
set_option maxRecDepth 20000 in
theorem wsL_in_r11 : GoodIn lw_tbl wsL_law_r11 := goodIn_r _ [315, 316, 864, 865, 866, 867, 868, 869, 870, 871, 872, 874, 24, 875, 876, 878, 25, 879, 317, 318, 319, 320, 321, 322] (by decide +kernel) (by decide +kernel)
set_option maxRecDepth 20000 in
theorem wsL_in_r12 : GoodIn lw_tbl wsL_law_r12 := goodIn_r _ [323, 324, 325, 326, 327, 328, 329, 330, 331, 332, 333, 334, 335, 336, 337, 338, 339, 340, 341, 342, 343, 344, 880, 881] (by decide +kernel) (by decide +kernel)
set_option maxRecDepth 20000 in
theorem wsL_in_r13 : GoodIn lw_tbl wsL_law_r13 := goodIn_r _ [882, 883, 884, 885, 886, 887, 888, 890, 26, 891, 892, 893, 894, 895, 896, 897, 898, 899, 900, 901, 902, 903, 904, 905] (by decide +kernel) (by decide +kernel)
set_option maxRecDepth 20000 in
theorem wsL_in_r14 : GoodIn lw_tbl wsL_law_r14 := goodIn_r _ [906, 907, 908, 909, 910, 911, 912, 913, 345, 346, 347, 348, 89, 349, 350, 351, 352, 914, 915, 916, 917, 353, 354, 355] (by decide +kernel) (by decide +kernel)
set_option maxRecDepth 20000 in
theorem wsL_in_r15 : GoodIn lw_tbl wsL_law_r15 := goodIn_r _ [356, 121, 357, 358, 359, 360, 120, 1047, 1048, 1049, 1050, 1051, 759, 362, 363, 364, 365, 1052, 1053, 1054, 1055, 366, 367, 368] (by decide +kernel) (by decide +kernel)
set_option maxRecDepth 20000 in
theorem wsL_in_r16 : GoodIn lw_tbl wsL_law_r16 := goodIn_r _ [369, 370, 371, 372, 373, 123, 122, 124, 374, 375, 377, 3, 378, 125, 379, 381, 4, 382, 383, 384, 385, 386, 388, 5] (by decide +kernel) (by decide +kernel)
set_option maxRecDepth 20000 in
theorem wsL_in_r17 : GoodIn lw_tbl wsL_law_r17 := goodIn_r _ [389, 390, 391, 392, 393, 395, 6, 396, 398, 400, 7, 401, 402, 403, 404, 53, 405, 1136, 406, 407, 408, 409, 410, 1137] (by decide +kernel) (by decide +kernel)
set_option maxRecDepth 20000 in
theorem wsL_in_r18 : GoodIn lw_tbl wsL_law_r18 := goodIn_r _ [412, 413, 414, 415, 416, 417, 418, 419, 420, 421, 54, 422, 423, 424, 425, 426, 428, 429, 55, 430, 431, 432, 56, 433] (by decide +kernel) (by decide +kernel)
set_option maxRecDepth 20000 in
theorem wsL_in_r19 : GoodIn lw_tbl wsL_law_r19 := goodIn_r _ [434, 435, 436, 437, 438, 439, 440, 441, 442, 443, 444, 446, 448, 450, 452, 8, 453, 455, 457, 9, 458, 459, 461, 10] (by decide +kernel) (by decide +kernel)
set_option maxRecDepth 20000 in
theorem wsL_in_r20 : GoodIn lw_tbl wsL_law_r20 := goodIn_r _ [462, 463, 465, 467, 469, 11, 470, 471, 472, 473, 474, 475, 476, 1056, 1057, 1058, 1059, 760, 762, 1060, 1062, 32, 1063, 761] (by decide +kernel) (by decide +kernel)
set_option maxRecDepth 20000 in
theorem wsL_in_r21 : GoodIn lw_tbl wsL_law_r21 := goodIn_r _ [763, 1064, 1065, 1066, 1067, 1068, 1069, 1070, 1071, 1072, 1073, 1074, 1076, 33, 1077, 1078, 1080, 34, 1081, 1082, 1084, 35, 1085, 1086] (by decide +kernel) (by decide +kernel)
set_option maxRecDepth 20000 in
theorem wsL_in_r22 : GoodIn lw_tbl wsL_law_r22 := goodIn_r _ [1088, 36, 1089, 1090, 1092, 37, 1093, 1094, 1096, 38, 1097, 477, 478, 479, 480, 481, 918, 919, 920, 921, 482, 483, 484, 485] (by decide +kernel) (by decide +kernel)
set_option maxRecDepth 20000 in
theorem wsL_in_r23 : GoodIn lw_tbl wsL_law_r23 := goodIn_r _ [486, 922, 923, 924, 925, 487, 488, 489, 490, 491, 926, 927, 928, 929, 492, 493, 494, 495, 496, 497, 498, 499, 500, 501] (by decide +kernel) (by decide +kernel)
set_option maxRecDepth 20000 in
theorem wsL_in_r24 : GoodIn lw_tbl wsL_law_r24 := goodIn_r _ [503, 12, 504, 506, 507, 57, 508, 505, 930, 931, 932, 933, 934, 936, 27, 937, 938, 939, 940, 941, 942, 943, 509, 510] (by decide +kernel) (by decide +kernel)
set_option maxRecDepth 20000 in
theorem wsL_in_r25 : GoodIn lw_tbl wsL_law_r25 := goodIn_r _ [511, 512, 513, 515, 13, 516, 944, 945, 946, 947, 948, 517, 518, 519, 520, 521, 522, 523, 524, 525, 526, 527, 949, 950] (by decide +kernel) (by decide +kernel)
set_option maxRecDepth 20000 in
theorem wsL_in_r26 : GoodIn lw_tbl wsL_law_r26 := goodIn_r _ [951, 952, 953, 954, 955, 956, 957, 958, 528, 529, 530, 531, 532, 533, 534, 535, 536, 537, 538, 539, 540, 541, 959, 960] (by decide +kernel) (by decide +kernel)
set_option maxRecDepth 20000 in
theorem wsL_in_r27 : GoodIn lw_tbl wsL_law_r27 := goodIn_r _ [961, 962, 963, 965, 28, 966, 542, 543, 544, 545, 546, 547, 548, 549, 967, 968, 969, 970, 550, 551, 552, 553, 87, 554] (by decide +kernel) (by decide +kernel)
set_option maxRecDepth 20000 in
theorem wsL_in_r28 : GoodIn lw_tbl wsL_law_r28 := goodIn_r _ [555, 556, 557, 971, 972, 973, 974, 558, 559, 560, 561, 975, 976, 977, 978, 562, 563, 564, 565, 566, 567, 568, 569, 570] (by decide +kernel) (by decide +kernel)
set_option maxRecDepth 20000 in
theorem wsL_in_r29 : GoodIn lw_tbl wsL_law_r29 := goodIn_r _ [571, 572, 573, 574, 979, 980, 981, 982, 575, 576, 577, 578, 580, 581, 582, 579, 983, 984, 985, 986, 987, 583, 584, 585] (by decide +kernel) (by decide +kernel)
set_option maxRecDepth 20000 in
theorem wsL_in_r30 : GoodIn lw_tbl wsL_law_r30 := goodIn_r _ [586, 587, 588, 58, 589, 590, 591, 592, 593, 594, 595, 596, 597, 988, 989, 990, 991, 992, 993, 994, 598, 599, 600, 601] (by decide +kernel) (by decide +kernel)
set_option maxRecDepth 20000 in
theorem wsL_in_r31 : GoodIn lw_tbl wsL_law_r31 := goodIn_r _ [602, 603, 604, 605, 162, 160, 607, 609, 14, 610, 611, 612, 614, 15, 615, 161, 616, 617, 618, 619, 620, 995, 996, 997] (by decide +kernel) (by decide +kernel)
set_option maxRecDepth 20000 in
theorem wsL_in_r32 : GoodIn lw_tbl wsL_law_r32 := goodIn_r _ [998, 999, 1000, 621, 622, 623, 624, 625, 626, 627, 628, 629, 1001, 1002, 1003, 1004, 630, 631, 632, 633, 634, 635, 636, 637] (by decide +kernel) (by decide +kernel)
set_option maxRecDepth 20000 in
theorem wsL_in_r33 : GoodIn lw_tbl wsL_law_r33 := goodIn_r _ [638, 639, 641, 16, 642, 1005, 1006, 1007, 1008, 1009, 1010, 1011, 1012, 1013, 1015, 29, 1016, 643, 644, 645, 646, 647, 648, 649] (by decide +kernel) (by decide +kernel)
set_option maxRecDepth 20000 in
theorem wsL_in_r34 : GoodIn lw_tbl wsL_law_r34 := goodIn_r _ [650, 651, 658, 652, 653, 654, 655, 656, 657, 659, 661, 17, 662, 663, 664, 665, 1017, 1018, 1019, 1020, 1021, 1022, 1023, 1024] (by decide +kernel) (by decide +kernel)
set_option maxRecDepth 20000 in
theorem wsL_in_r35 : GoodIn lw_tbl wsL_law_r35 := goodIn_r _ [1025, 1026, 1027, 1028, 1029, 1031, 30, 1032, 754, 666, 667, 668, 669, 670, 671, 672, 59, 673, 674, 675, 676, 677, 678, 679] (by decide +kernel) (by decide +kernel)
set_option maxRecDepth 20000 in
theorem wsL_in_r36 : GoodIn lw_tbl wsL_law_r36 := goodIn_r _ [680, 681, 682, 683, 684, 685, 1033, 1034, 1035, 1036, 1037, 1038, 757, 1039, 1041, 31, 1042, 1043, 1044, 1045, 1046, 686, 687, 688] (by decide +kernel) (by decide +kernel)
set_option maxRecDepth 20000 in
theorem wsL_in_r37 : GoodIn lw_tbl wsL_law_r37 := goodIn_r _ [689, 182, 184, 1098, 1099, 1100, 1101, 690, 691, 692, 693, 199, 200, 1102, 1103, 1104, 1105, 694, 695, 696, 697, 1106, 1107, 1108] (by decide +kernel) (by decide +kernel)
set_option maxRecDepth 20000 in
theorem wsL_in_r38 : GoodIn lw_tbl wsL_law_r38 := goodIn_r _ [1109, 698, 699, 700, 701, 1110, 1111, 1112, 1113, 1114, 702, 703, 704, 705, 706, 708, 18, 709, 710, 711, 712, 713, 714, 1115] (by decide +kernel) (by decide +kernel)
set_option maxRecDepth 20000 in
theorem wsL_in_r39 : GoodIn lw_tbl wsL_law_r39 := goodIn_r _ [1116, 1117, 1118, 1119, 1121, 39, 1122, 1123, 1125, 40, 1126, 715, 716, 717, 718, 719, 720, 721, 722, 723, 724, 725, 726, 727] (by decide +kernel) (by decide +kernel)
set_option maxRecDepth 20000 in
theorem wsL_in_r40 : GoodIn lw_tbl wsL_law_r40 := goodIn_r _ [728, 729, 1127, 1128, 1129, 1130, 1131, 1132, 1133, 1134, 1135] (by decide +kernel) (by decide +kernel)
set_option maxRecDepth 20000 in
theorem wsL_in_X8 : GoodIn lw_tbl wsX80 := goodIn_r _ [201, 203, 205, 207, 209, 211, 213, 215, 217, 219, 221] (by decide +kernel) (by decide +kernel)
set_option maxRecDepth 20000 in
theorem wsL_in_X9 : GoodIn lw_tbl wsX90 := goodIn_r _ [767, 769, 771, 773, 775, 777, 779, 781, 783, 785, 787, 789, 791, 793, 795, 797, 799, 801, 803, 805, 807, 809, 811, 813, 815, 817, 819] (by decide +kernel) (by decide +kernel)
set_option maxRecDepth 20000 in
theorem wsL_in_X3 : GoodIn lw_tbl wsX30 := goodIn_r _ [90, 92, 94, 96, 98, 100, 102, 104, 106, 108] (by decide +kernel) (by decide +kernel)
set_option maxRecDepth 20000 in
theorem wsL_in_X6 : GoodIn lw_tbl wsX60 := goodIn_r _ [126, 128, 130, 132, 134, 136] (by decide +kernel) (by decide +kernel)
set_option maxRecDepth 20000 in
theorem wsL_in_X5 : GoodIn lw_tbl wsX50 := goodIn_r _ [149] (by decide +kernel) (by decide +kernel)
set_option maxRecDepth 20000 in
theorem wsL_in_X2 : GoodIn lw_tbl wsX20 := goodIn_r _ [163, 165, 167, 169, 171] (by decide +kernel) (by decide +kernel)
set_option maxRecDepth 20000 in
theorem wsL_in_X1 : GoodIn lw_tbl wsX10 := goodIn_r _ [185, 187] (by decide +kernel) (by decide +kernel)
set_option maxRecDepth 20000 in
theorem wsL_law_in : ∀ w ∈ wsL_law, w ∈ lw_tbl := fun w h => ((goodIn_app (goodIn_app (goodIn_app (goodIn_app (goodIn_app (goodIn_app (goodIn_app (goodIn_app (goodIn_app wsL_in_r1 (goodIn_app wsL_in_r2 (goodIn_app wsL_in_r3 (goodIn_app wsL_in_r4 (goodIn_app wsL_in_r5 (goodIn_app wsL_in_r6 (goodIn_app wsL_in_r7 (goodIn_app wsL_in_r8 (goodIn_app wsL_in_r9 (goodIn_app wsL_in_r10 (goodIn_app wsL_in_r11 (goodIn_app wsL_in_r12 (goodIn_app wsL_in_r13 (goodIn_app wsL_in_r14 (goodIn_app wsL_in_r15 (goodIn_app wsL_in_r16 (goodIn_app wsL_in_r17 (goodIn_app wsL_in_r18 (goodIn_app wsL_in_r19 (goodIn_app wsL_in_r20 (goodIn_app wsL_in_r21 (goodIn_app wsL_in_r22 (goodIn_app wsL_in_r23 (goodIn_app wsL_in_r24 (goodIn_app wsL_in_r25 (goodIn_app wsL_in_r26 (goodIn_app wsL_in_r27 (goodIn_app wsL_in_r28 (goodIn_app wsL_in_r29 (goodIn_app wsL_in_r30 (goodIn_app wsL_in_r31 (goodIn_app wsL_in_r32 (goodIn_app wsL_in_r33 (goodIn_app wsL_in_r34 (goodIn_app wsL_in_r35 (goodIn_app wsL_in_r36 (goodIn_app wsL_in_r37 (goodIn_app wsL_in_r38 (goodIn_app wsL_in_r39 wsL_in_r40))))))))))))))))))))))))))))))))))))))) wsL_in_X8) wsL_in_X9) wsL_in_X3) wsL_in_X6) wsL_in_X5) wsL_in_X2) wsL_in_X1) (fun _ h => absurd h List.not_mem_nil)) w h).1
theorem inX0 : ∀ w ∈ wsX00, w ∈ lw_tbl := by decide +kernel
theorem inlX1 : ∀ w ∈ wsX10, w ∈ wsL_law := fun _ h => List.mem_append_left _ (List.mem_append_right _ h)
theorem inX1 : ∀ w ∈ wsX10, w ∈ lw_tbl := fun w h => wsL_law_in w (inlX1 w h)
theorem inlX2 : ∀ w ∈ wsX20, w ∈ wsL_law := fun _ h => List.mem_append_left _ (List.mem_append_left _ (List.mem_append_right _ h))
theorem inX2 : ∀ w ∈ wsX20, w ∈ lw_tbl := fun w h => wsL_law_in w (inlX2 w h)
theorem inlX3 : ∀ w ∈ wsX30, w ∈ wsL_law := fun _ h => List.mem_append_left _ (List.mem_append_left _ (List.mem_append_left _ (List.mem_append_left _ (List.mem_append_left _ (List.mem_append_right _ h)))))
theorem inX3 : ∀ w ∈ wsX30, w ∈ lw_tbl := fun w h => wsL_law_in w (inlX3 w h)
theorem inX4 : ∀ w ∈ wsX40, w ∈ lw_tbl := by decide +kernel
theorem inlX5 : ∀ w ∈ wsX50, w ∈ wsL_law := fun _ h => List.mem_append_left _ (List.mem_append_left _ (List.mem_append_left _ (List.mem_append_right _ h)))
theorem inX5 : ∀ w ∈ wsX50, w ∈ lw_tbl := fun w h => wsL_law_in w (inlX5 w h)
theorem inlX6 : ∀ w ∈ wsX60, w ∈ wsL_law := fun _ h => List.mem_append_left _ (List.mem_append_left _ (List.mem_append_left _ (List.mem_append_left _ (List.mem_append_right _ h))))
theorem inX6 : ∀ w ∈ wsX60, w ∈ lw_tbl := fun w h => wsL_law_in w (inlX6 w h)
theorem inX7 : ∀ w ∈ wsX70, w ∈ lw_tbl := by decide +kernel
theorem inlX8 : ∀ w ∈ wsX80, w ∈ wsL_law := fun _ h => List.mem_append_left _ (List.mem_append_left _ (List.mem_append_left _ (List.mem_append_left _ (List.mem_append_left _ (List.mem_append_left _ (List.mem_append_left _ (List.mem_append_right _ h)))))))
theorem inX8 : ∀ w ∈ wsX80, w ∈ lw_tbl := fun w h => wsL_law_in w (inlX8 w h)
theorem inlX9 : ∀ w ∈ wsX90, w ∈ wsL_law := fun _ h => List.mem_append_left _ (List.mem_append_left _ (List.mem_append_left _ (List.mem_append_left _ (List.mem_append_left _ (List.mem_append_left _ (List.mem_append_right _ h))))))
theorem inX9 : ∀ w ∈ wsX90, w ∈ lw_tbl := fun w h => wsL_law_in w (inlX9 w h)
theorem inJx145de : ∀ w ∈ wsJx145de0, w ∈ lw_tbl := by decide +kernel
theorem inJx9f9b0 : ∀ w ∈ wsJx9f9b00, w ∈ lw_tbl := by decide +kernel
theorem inJxb160c : ∀ w ∈ wsJxb160c0, w ∈ lw_tbl := by decide +kernel
theorem inJ6 : ∀ w ∈ wsJ60, w ∈ lw_tbl := by decide +kernel
theorem inJ9 : ∀ w ∈ wsJ90, w ∈ lw_tbl := by decide +kernel
theorem inJ0 : ∀ w ∈ wsJ00, w ∈ lw_tbl := by decide +kernel
theorem inJ1 : ∀ w ∈ wsJ10, w ∈ lw_tbl := by decide +kernel
theorem inJ2 : ∀ w ∈ wsJ20, w ∈ lw_tbl := by decide +kernel
theorem inJ10 : ∀ w ∈ wsJ100, w ∈ lw_tbl := by decide +kernel
theorem inJxfd54e : ∀ w ∈ wsJxfd54e0, w ∈ lw_tbl := by decide +kernel
theorem inJx3cf43 : ∀ w ∈ wsJx3cf430, w ∈ lw_tbl := by decide +kernel
theorem inJ7 : ∀ w ∈ wsJ70, w ∈ lw_tbl := by decide +kernel
theorem inJ3 : ∀ w ∈ wsJ30, w ∈ lw_tbl := by decide +kernel
