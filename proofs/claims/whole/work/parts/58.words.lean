/-- words by their places -/
theorem zl_in {big ws : List Cond} (ps : List Nat) (hp : ws = ps.filterMap (fun i => big[i]?)) : ∀ w ∈ ws, w ∈ big := by
  intro w hw
  rw [hp] at hw
  obtain ⟨i, -, hi⟩ := List.mem_filterMap.mp hw
  exact List.mem_of_getElem? hi
theorem z_ap {big a b : List Cond} (ha : ∀ w ∈ a, w ∈ big) (hb : ∀ w ∈ b, w ∈ big) : ∀ w ∈ a ++ b, w ∈ big := fun w h => (List.mem_append.mp h).elim (ha w) (hb w)
set_option maxRecDepth 20000 in
theorem zlr_1 : ∀ w ∈ wsL_law0_r1, w ∈ lw_tbl := zl_in [97, 98, 82, 792, 793, 89, 1096, 99, 100, 101, 102, 103, 104, 105, 106, 83, 322, 231, 232, 86, 323, 251, 252, 87] (by decide +kernel)
set_option maxRecDepth 20000 in
theorem zlr_2 : ∀ w ∈ wsL_law0_r2, w ∈ lw_tbl := zl_in [324, 284, 285, 88, 325, 320, 112, 84, 326, 108, 109, 110, 111, 188, 152, 153, 85, 190, 151, 192, 114, 115, 116, 117] (by decide +kernel)
set_option maxRecDepth 20000 in
theorem zlr_3 : ∀ w ∈ wsL_law0_r3, w ∈ lw_tbl := zl_in [121, 124, 126, 128, 130, 155, 156, 157, 158, 160, 162, 164, 234, 235, 236, 237, 240, 254, 255, 256, 257, 287, 288, 289] (by decide +kernel)
set_option maxRecDepth 20000 in
theorem zlr_4 : ∀ w ∈ wsL_law0_r4, w ∈ lw_tbl := zl_in [290, 319, 293, 794, 795, 796, 797, 802, 803, 804, 806, 808, 809, 798, 799, 800, 436, 437, 81, 438, 439, 440, 441, 442] (by decide +kernel)
set_option maxRecDepth 20000 in
theorem zlr_5 : ∀ w ∈ wsL_law0_r5, w ∈ lw_tbl := zl_in [443, 444, 516, 94, 445, 446, 447, 448, 93, 344, 0, 345, 241, 242, 348, 1, 349, 362, 356, 355, 95, 193, 194, 196] (by decide +kernel)
set_option maxRecDepth 20000 in
theorem zlr_6 : ∀ w ∈ wsL_law0_r6, w ∈ lw_tbl := zl_in [198, 200, 202, 204, 206, 352, 2, 353, 354, 133, 359, 3, 360, 361, 166, 167, 169, 171, 534, 16, 535, 536, 538, 17] (by decide +kernel)
set_option maxRecDepth 20000 in
theorem zlr_7 : ∀ w ∈ wsL_law0_r7, w ∈ lw_tbl := zl_in [539, 542, 18, 543, 544, 546, 19, 547, 848, 849, 850, 851, 852, 853, 854, 855, 856, 857, 858, 860, 45, 861, 801, 862] (by decide +kernel)
set_option maxRecDepth 20000 in
theorem zlr_8 : ∀ w ∈ wsL_law0_r8, w ∈ lw_tbl := zl_in [864, 46, 865, 805, 866, 868, 47, 869, 870, 872, 48, 873, 874, 875, 876, 877, 879, 49, 880, 844, 845, 846, 847, 548] (by decide +kernel)
set_option maxRecDepth 20000 in
theorem zlr_9 : ∀ w ∈ wsL_law0_r9, w ∈ lw_tbl := zl_in [549, 550, 551, 552, 553, 554, 559, 20, 560, 881, 882, 883, 884, 885, 887, 50, 888, 561, 562, 563, 564, 565, 566, 567] (by decide +kernel)
set_option maxRecDepth 20000 in
theorem zlr_10 : ∀ w ∈ wsL_law0_r10, w ∈ lw_tbl := zl_in [570, 21, 571, 889, 890, 891, 892, 572, 573, 574, 575, 576, 577, 578, 582, 22, 583, 586, 23, 587, 297, 294, 616, 589] (by decide +kernel)
set_option maxRecDepth 20000 in
theorem zlr_11 : ∀ w ∈ wsL_law0_r11, w ∈ lw_tbl := zl_in [590, 593, 24, 594, 597, 25, 598, 601, 26, 602, 603, 605, 27, 606, 607, 609, 28, 610, 611, 613, 29, 614, 619, 30] (by decide +kernel)
set_option maxRecDepth 20000 in
theorem zlr_12 : ∀ w ∈ wsL_law0_r12, w ∈ lw_tbl := zl_in [620, 623, 31, 624, 300, 303, 627, 32, 628, 629, 631, 33, 632, 633, 635, 34, 636, 637, 639, 35, 640, 641, 643, 36] (by decide +kernel)
set_option maxRecDepth 20000 in
theorem zlr_13 : ∀ w ∈ wsL_law0_r13, w ∈ lw_tbl := zl_in [644, 647, 37, 648, 649, 650, 652, 38, 653, 654, 655, 657, 39, 658, 893, 894, 895, 896, 897, 899, 51, 900, 901, 903] (by decide +kernel)
set_option maxRecDepth 20000 in
theorem zlr_14 : ∀ w ∈ wsL_law0_r14, w ∈ lw_tbl := zl_in [52, 904, 811, 810, 905, 907, 53, 908, 909, 911, 54, 912, 913, 915, 55, 916, 917, 919, 56, 920, 921, 923, 57, 924] (by decide +kernel)
set_option maxRecDepth 20000 in
theorem zlr_15 : ∀ w ∈ wsL_law0_r15, w ∈ lw_tbl := zl_in [925, 926, 927, 928, 930, 58, 931, 932, 934, 59, 935, 936, 938, 60, 939, 940, 942, 61, 943, 944, 946, 62, 947, 948] (by decide +kernel)
set_option maxRecDepth 20000 in
theorem zlr_16 : ∀ w ∈ wsL_law0_r16, w ∈ lw_tbl := zl_in [950, 63, 951, 952, 954, 64, 955, 956, 958, 65, 959, 960, 962, 66, 963, 338, 339, 340, 341, 365, 4, 366, 369, 5] (by decide +kernel)
set_option maxRecDepth 20000 in
theorem zlr_17 : ∀ w ∈ wsL_law0_r17, w ∈ lw_tbl := zl_in [370, 371, 373, 6, 374, 964, 965, 966, 967, 968, 970, 67, 971, 659, 660, 661, 662, 663, 664, 665, 666, 672, 96, 670] (by decide +kernel)
set_option maxRecDepth 20000 in
theorem zlr_18 : ∀ w ∈ wsL_law0_r18, w ∈ lw_tbl := zl_in [40, 671, 258, 972, 973, 974, 975, 807, 375, 376, 377, 378, 976, 977, 978, 979, 379, 380, 381, 382, 385, 7, 386, 260] (by decide +kernel)
set_option maxRecDepth 20000 in
theorem zlr_19 : ∀ w ∈ wsL_law0_r19, w ∈ lw_tbl := zl_in [387, 389, 8, 390, 391, 393, 9, 394, 261, 265, 263, 395, 397, 10, 398, 399, 401, 11, 402, 403, 405, 12, 406, 407] (by decide +kernel)
set_option maxRecDepth 20000 in
theorem zlr_20 : ∀ w ∈ wsL_law0_r20, w ∈ lw_tbl := zl_in [409, 13, 410, 411, 413, 14, 414, 267, 980, 981, 982, 983, 813, 812, 984, 986, 68, 987, 814, 988, 990, 69, 991, 992] (by decide +kernel)
set_option maxRecDepth 20000 in
theorem zlr_21 : ∀ w ∈ wsL_law0_r21, w ∈ lw_tbl := zl_in [994, 70, 995, 996, 998, 71, 999, 1000, 1002, 72, 1003, 1004, 1006, 73, 1007, 1008, 1010, 74, 1011, 688, 689, 690, 691, 692] (by decide +kernel)
set_option maxRecDepth 20000 in
theorem zlr_22 : ∀ w ∈ wsL_law0_r22, w ∈ lw_tbl := zl_in [693, 694, 698, 700, 41, 701, 1012, 1013, 1014, 1015, 702, 703, 704, 705, 706, 707, 708, 712, 42, 713, 1016, 1017, 1018, 1019] (by decide +kernel)
set_option maxRecDepth 20000 in
theorem zlr_23 : ∀ w ∈ wsL_law0_r23, w ∈ lw_tbl := zl_in [714, 715, 716, 717, 718, 719, 720, 1020, 1021, 1022, 1023, 1024, 1026, 75, 1027, 415, 416, 417, 418, 1028, 1029, 1030, 1031, 723] (by decide +kernel)
set_option maxRecDepth 20000 in
theorem zlr_24 : ∀ w ∈ wsL_law0_r24, w ∈ lw_tbl := zl_in [724, 725, 726, 727, 728, 729, 1032, 1033, 1034, 1035, 1036, 1038, 76, 1039, 1040, 1042, 77, 1043, 1044, 1046, 78, 1047, 733, 734] (by decide +kernel)
set_option maxRecDepth 20000 in
theorem zlr_25 : ∀ w ∈ wsL_law0_r25, w ∈ lw_tbl := zl_in [735, 736, 737, 738, 739, 1048, 1049, 1050, 1051, 1052, 1054, 79, 1055, 744, 745, 746, 747, 748, 749, 750, 754, 43, 755, 1056] (by decide +kernel)
set_option maxRecDepth 20000 in
theorem zlr_26 : ∀ w ∈ wsL_law0_r26, w ∈ lw_tbl := zl_in [1057, 1058, 1059, 419, 420, 421, 422, 1060, 1061, 1062, 1063, 756, 757, 758, 759, 760, 761, 762, 765, 44, 766, 1064, 1065, 1066] (by decide +kernel)
set_option maxRecDepth 20000 in
theorem zlr_27 : ∀ w ∈ wsL_law0_r27, w ∈ lw_tbl := zl_in [1067, 767, 768, 769, 770, 771, 772, 773, 1068, 1069, 1070, 1071, 1072, 1074, 80, 1075, 777, 778, 779, 780, 781, 782, 783, 1076] (by decide +kernel)
set_option maxRecDepth 20000 in
theorem zlr_28 : ∀ w ∈ wsL_law0_r28, w ∈ lw_tbl := zl_in [1077, 1078, 1079, 784, 785, 786, 787, 788, 789, 790, 1080, 1081, 1082, 1083, 424, 425, 426, 427, 1084, 1085, 1086, 1087, 428, 429] (by decide +kernel)
set_option maxRecDepth 20000 in
theorem zlr_29 : ∀ w ∈ wsL_law0_r29, w ∈ lw_tbl := zl_in [430, 431, 1088, 1089, 1090, 1091, 432, 433, 434, 435, 1092, 1093, 1094, 1095] (by decide +kernel)
theorem zlu_X0 : ∀ w ∈ wsX00, w ∈ lw_tbl := by decide +kernel
theorem zlu_X1 : ∀ w ∈ wsX10, w ∈ lw_tbl := by decide +kernel
theorem zlu_X2 : ∀ w ∈ wsX20, w ∈ lw_tbl := by decide +kernel
theorem zlu_X3 : ∀ w ∈ wsX30, w ∈ lw_tbl := by decide +kernel
theorem zlu_X4 : ∀ w ∈ wsX40, w ∈ lw_tbl := by decide +kernel
theorem zlu_X5 : ∀ w ∈ wsX50, w ∈ lw_tbl := by decide +kernel
theorem zlu_X6 : ∀ w ∈ wsX60, w ∈ lw_tbl := by decide +kernel
theorem zlu_X7 : ∀ w ∈ wsX70, w ∈ lw_tbl := by decide +kernel
theorem zlx_0 : ∀ w ∈ (vx_atS RX6 52 (zEx 2) zNames).filter goodWord, w ∈ lw_tbl := by decide +kernel
theorem zlx_1 : ∀ w ∈ (vx_atS RX6 156 (zEx 1) zNames).filter goodWord, w ∈ lw_tbl := by decide +kernel
theorem zlx_2 : ∀ w ∈ (vx_atS RX6 97 (zEx 3) zNames).filter goodWord, w ∈ lw_tbl := by decide +kernel
set_option maxRecDepth 20000 in
theorem pzNws_in : ∀ w ∈ pzNws, w ∈ lw_tbl := zl_in [118, 119, 120, 122, 123, 125, 127, 129, 131, 132, 134, 135, 161, 163, 165, 168, 170, 172, 189, 191, 195, 197, 199, 201, 203, 205, 207, 243, 259, 262, 264, 266, 268, 291, 292, 295, 296, 298, 299, 301, 302, 304, 305, 107, 113, 154, 233, 239, 253, 286, 321, 342, 346, 350, 357, 363, 367, 383, 423, 532, 540, 557, 568, 580, 584, 588, 591, 595, 599, 615, 617, 621, 625, 645, 668, 696, 697, 710, 721, 731, 732, 742, 743, 752, 763, 775, 776, 452, 454, 456, 450, 518, 674] (by decide +kernel)
theorem wsL_law_in : ∀ w ∈ wsL_law, w ∈ lw_tbl := (z_ap (z_ap (z_ap (z_ap (z_ap (z_ap (z_ap (z_ap (z_ap (z_ap (z_ap (z_ap (z_ap zlr_1 (z_ap zlr_2 (z_ap zlr_3 (z_ap zlr_4 (z_ap zlr_5 (z_ap zlr_6 (z_ap zlr_7 (z_ap zlr_8 (z_ap zlr_9 (z_ap zlr_10 (z_ap zlr_11 (z_ap zlr_12 (z_ap zlr_13 (z_ap zlr_14 (z_ap zlr_15 (z_ap zlr_16 (z_ap zlr_17 (z_ap zlr_18 (z_ap zlr_19 (z_ap zlr_20 (z_ap zlr_21 (z_ap zlr_22 (z_ap zlr_23 (z_ap zlr_24 (z_ap zlr_25 (z_ap zlr_26 (z_ap zlr_27 (z_ap zlr_28 zlr_29)))))))))))))))))))))))))))) zlu_X6) zlu_X7) zlu_X3) zlu_X2) zlu_X5) zlu_X1) zlu_X4) zlu_X0) (fun _ h => absurd h List.not_mem_nil)) zlx_0) zlx_1) zlx_2)
set_option maxRecDepth 20000 in
theorem zStr_in : ∀ q ∈ zStrs, Cond.stringRef RX6 q.1 q.2 ∈ lw_tbl := by decide +kernel
set_option maxRecDepth 20000 in
theorem zStr_ex : ∀ q ∈ zStrs, Cond.exactly (.string RX6 q.1) "java/lang/String" ∈ flatC (Jvm.Cond.and given_1 narrow_1) := by decide +kernel
theorem zFl_1 : Cond.isRef (.static Bundle.tN "UNASSIGNED_STACK" Bundle.steD) ∈ flatC (Jvm.Cond.and given_1 narrow_1) := by decide +kernel
theorem zFl_2 : Cond.isRef (.static Bundle.tN "SUPPRESSED_SENTINEL" Bundle.listD) ∈ flatC (Jvm.Cond.and given_1 narrow_1) := by decide +kernel
theorem zFl_3 : Cond.not (.castable (zEx 2) (zEx 1)) ∈ flatC (Jvm.Cond.and given_1 narrow_1) := by decide +kernel
theorem zFl_4 : Cond.not (.castable (zEx 3) (zEx 2)) ∈ flatC (Jvm.Cond.and given_1 narrow_1) := by decide +kernel
