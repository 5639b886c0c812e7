theorem mem_r {big ws : List Cond} (ps : List Nat) (hp : ws = ps.filterMap (fun i => big[i]?)) : ∀ w ∈ ws, w ∈ big := by
  intro w hw
  rw [hp] at hw
  obtain ⟨i, -, hi⟩ := List.mem_filterMap.mp hw
  exact List.mem_of_getElem? hi
theorem mem_app {big a b : List Cond} (ha : ∀ w ∈ a, w ∈ big) (hb : ∀ w ∈ b, w ∈ big) : ∀ w ∈ a ++ b, w ∈ big := fun w h => (List.mem_append.mp h).elim (ha w) (hb w)
set_option maxRecDepth 20000 in
theorem li_wsL_law_r1 : ∀ w ∈ wsL_law_r1, w ∈ lw_tbl := mem_r [76, 77, 58, 802, 803, 68, 1183, 78, 79, 80, 81, 82, 83, 84, 85, 59, 279, 108, 109, 61, 280, 139, 140, 62] (by decide +kernel)
set_option maxRecDepth 20000 in
theorem li_wsL_law_r2 : ∀ w ∈ wsL_law_r2, w ∈ lw_tbl := mem_r [281, 170, 171, 63, 282, 283, 219, 220, 65, 284, 239, 179, 64, 285, 241, 242, 66, 286, 264, 265, 67, 287, 86, 87] (by decide +kernel)
set_option maxRecDepth 20000 in
theorem li_wsL_law_r3 : ∀ w ∈ wsL_law_r3, w ∈ lw_tbl := mem_r [88, 89, 90, 107, 95, 97, 99, 92, 93, 60, 94, 111, 112, 113, 138, 114, 142, 143, 144, 145, 147, 150, 152, 173] (by decide +kernel)
set_option maxRecDepth 20000 in
theorem li_wsL_law_r4 : ∀ w ∈ wsL_law_r4, w ∈ lw_tbl := mem_r [174, 175, 176, 203, 178, 206, 181, 182, 183, 184, 188, 190, 221, 222, 223, 224, 225, 228, 244, 245, 246, 247, 248, 249] (by decide +kernel)
set_option maxRecDepth 20000 in
theorem li_wsL_law_r5 : ∀ w ∈ wsL_law_r5, w ∈ lw_tbl := mem_r [250, 267, 268, 269, 270, 804, 805, 806, 807, 810, 811, 812, 813, 814, 815, 816, 818, 828, 829, 890, 831, 832, 833, 313] (by decide +kernel)
set_option maxRecDepth 20000 in
theorem li_wsL_law_r6 : ∀ w ∈ wsL_law_r6, w ∈ lw_tbl := mem_r [314, 315, 316, 320, 317, 318, 319, 321, 323, 0, 324, 289, 325, 326, 327, 328, 329, 330, 332, 1, 333, 891, 892, 893] (by decide +kernel)
set_option maxRecDepth 20000 in
theorem li_wsL_law_r7 : ∀ w ∈ wsL_law_r7, w ∈ lw_tbl := mem_r [894, 808, 902, 903, 809, 895, 896, 897, 898, 899, 900, 901, 904, 906, 26, 907, 908, 334, 335, 336, 337, 338, 339, 340] (by decide +kernel)
set_option maxRecDepth 20000 in
theorem li_wsL_law_r8 : ∀ w ∈ wsL_law_r8, w ∈ lw_tbl := mem_r [341, 342, 343, 344, 345, 346, 347, 348, 349, 909, 910, 911, 912, 350, 351, 352, 353, 98, 96, 354, 356, 355, 69, 913] (by decide +kernel)
set_option maxRecDepth 20000 in
theorem li_wsL_law_r9 : ∀ w ∈ wsL_law_r9, w ∈ lw_tbl := mem_r [914, 915, 916, 357, 358, 359, 360, 361, 362, 363, 364, 917, 918, 919, 920, 365, 366, 367, 368, 116, 369, 370, 371, 372] (by decide +kernel)
set_option maxRecDepth 20000 in
theorem li_wsL_law_r10 : ∀ w ∈ wsL_law_r10, w ∈ lw_tbl := mem_r [373, 115, 921, 922, 923, 924, 925, 819, 926, 927, 374, 375, 376, 377, 288, 498, 118, 205, 158, 378, 379, 380, 381, 120] (by decide +kernel)
set_option maxRecDepth 20000 in
theorem li_wsL_law_r11 : ∀ w ∈ wsL_law_r11, w ∈ lw_tbl := mem_r [122, 157, 117, 382, 384, 2, 385, 119, 386, 387, 388, 389, 390, 391, 392, 394, 3, 395, 396, 397, 398, 399, 401, 4] (by decide +kernel)
set_option maxRecDepth 20000 in
theorem li_wsL_law_r12 : ∀ w ∈ wsL_law_r12, w ∈ lw_tbl := mem_r [402, 121, 403, 405, 5, 406, 146, 408, 410, 6, 411, 412, 414, 7, 415, 416, 417, 418, 70, 419, 1184, 420, 421, 422] (by decide +kernel)
set_option maxRecDepth 20000 in
theorem li_wsL_law_r13 : ∀ w ∈ wsL_law_r13, w ∈ lw_tbl := mem_r [423, 424, 1185, 426, 427, 428, 429, 430, 431, 432, 433, 434, 435, 71, 436, 437, 438, 439, 440, 442, 443, 72, 444, 445] (by decide +kernel)
set_option maxRecDepth 20000 in
theorem li_wsL_law_r14 : ∀ w ∈ wsL_law_r14, w ∈ lw_tbl := mem_r [446, 73, 447, 448, 449, 450, 451, 452, 453, 454, 455, 456, 457, 458, 460, 462, 464, 466, 8, 467, 468, 470, 9, 471] (by decide +kernel)
set_option maxRecDepth 20000 in
theorem li_wsL_law_r15 : ∀ w ∈ wsL_law_r15, w ∈ lw_tbl := mem_r [472, 474, 10, 475, 476, 478, 11, 479, 481, 483, 12, 484, 485, 487, 13, 488, 494, 495, 496, 497, 155, 499, 500, 501] (by decide +kernel)
set_option maxRecDepth 20000 in
theorem li_wsL_law_r16 : ∀ w ∈ wsL_law_r16, w ∈ lw_tbl := mem_r [502, 209, 503, 504, 505, 506, 507, 508, 509, 510, 511, 192, 151, 156, 513, 512, 514, 515, 516, 517, 230, 928, 929, 930] (by decide +kernel)
set_option maxRecDepth 20000 in
theorem li_wsL_law_r17 : ∀ w ∈ wsL_law_r17, w ∈ lw_tbl := mem_r [931, 980, 826, 823, 820, 993, 827, 817, 932, 934, 27, 935, 821, 822, 936, 938, 28, 939, 824, 944, 825, 940, 942, 29] (by decide +kernel)
set_option maxRecDepth 20000 in
theorem li_wsL_law_r18 : ∀ w ∈ wsL_law_r18, w ∈ lw_tbl := mem_r [943, 945, 946, 947, 948, 949, 950, 951, 953, 30, 954, 959, 955, 957, 31, 958, 960, 962, 32, 963, 964, 966, 33, 967] (by decide +kernel)
set_option maxRecDepth 20000 in
theorem li_wsL_law_r19 : ∀ w ∈ wsL_law_r19, w ∈ lw_tbl := mem_r [968, 970, 34, 971, 972, 974, 35, 975, 976, 978, 36, 979, 981, 983, 37, 984, 985, 986, 987, 988, 989, 990, 991, 992] (by decide +kernel)
set_option maxRecDepth 20000 in
theorem li_wsL_law_r20 : ∀ w ∈ wsL_law_r20, w ∈ lw_tbl := mem_r [518, 519, 520, 521, 994, 995, 996, 997, 522, 523, 524, 525, 210, 526, 208, 193, 527, 528, 529, 530, 229, 535, 536, 74] (by decide +kernel)
set_option maxRecDepth 20000 in
theorem li_wsL_law_r21 : ∀ w ∈ wsL_law_r21, w ∈ lw_tbl := mem_r [537, 531, 532, 533, 534, 538, 539, 540, 541, 542, 543, 544, 545, 546, 547, 548, 549, 550, 551, 74, 552, 553, 554, 555] (by decide +kernel)
set_option maxRecDepth 20000 in
theorem li_wsL_law_r22 : ∀ w ∈ wsL_law_r22, w ∈ lw_tbl := mem_r [556, 557, 558, 560, 14, 561, 562, 563, 565, 15, 566, 998, 999, 1000, 1001, 1006, 1007, 1002, 1004, 38, 1005, 1008, 1010, 39] (by decide +kernel)
set_option maxRecDepth 20000 in
theorem li_wsL_law_r23 : ∀ w ∈ wsL_law_r23, w ∈ lw_tbl := mem_r [1011, 1012, 1014, 40, 1015, 1016, 1018, 41, 1019, 1035, 1020, 1022, 42, 1023, 1024, 1026, 43, 1027, 1028, 1029, 1030, 1031, 1033, 44] (by decide +kernel)
set_option maxRecDepth 20000 in
theorem li_wsL_law_r24 : ∀ w ∈ wsL_law_r24, w ∈ lw_tbl := mem_r [1034, 567, 568, 569, 570, 187, 571, 573, 16, 574, 575, 577, 17, 578, 579, 580, 581, 582, 583, 584, 585, 586, 587, 588] (by decide +kernel)
set_option maxRecDepth 20000 in
theorem li_wsL_law_r25 : ∀ w ∈ wsL_law_r25, w ∈ lw_tbl := mem_r [589, 590, 591, 1036, 1037, 1038, 1039, 1048, 1040, 1042, 45, 1043, 1044, 1046, 46, 1047, 1049, 1050, 1051, 592, 593, 594, 595, 1052] (by decide +kernel)
set_option maxRecDepth 20000 in
theorem li_wsL_law_r26 : ∀ w ∈ wsL_law_r26, w ∈ lw_tbl := mem_r [1053, 1054, 1055, 1056, 596, 597, 598, 599, 600, 601, 602, 603, 604, 605, 606, 607, 1057, 1058, 1059, 1060, 1061, 1062, 1063, 1064] (by decide +kernel)
set_option maxRecDepth 20000 in
theorem li_wsL_law_r27 : ∀ w ∈ wsL_law_r27, w ∈ lw_tbl := mem_r [608, 609, 610, 611, 612, 613, 614, 615, 185, 616, 617, 618, 619, 620, 621, 622, 623, 624, 625, 626, 627, 251, 628, 629] (by decide +kernel)
set_option maxRecDepth 20000 in
theorem li_wsL_law_r28 : ∀ w ∈ wsL_law_r28, w ∈ lw_tbl := mem_r [631, 18, 632, 636, 633, 634, 75, 635, 637, 639, 19, 640, 641, 642, 643, 644, 645, 191, 646, 1065, 1066, 1067, 1068, 830] (by decide +kernel)
set_option maxRecDepth 20000 in
theorem li_wsL_law_r29 : ∀ w ∈ wsL_law_r29, w ∈ lw_tbl := mem_r [1069, 1071, 47, 1072, 1073, 1075, 48, 1076, 1077, 1079, 49, 1080, 1081, 1083, 50, 1084, 647, 648, 649, 650, 231, 651, 652, 653] (by decide +kernel)
set_option maxRecDepth 20000 in
theorem li_wsL_law_r30 : ∀ w ∈ wsL_law_r30, w ∈ lw_tbl := mem_r [654, 1085, 1086, 1087, 1088, 655, 656, 657, 658, 189, 154, 659, 1089, 1090, 1091, 1092, 1093, 660, 661, 662, 663, 1094, 1095, 1096] (by decide +kernel)
set_option maxRecDepth 20000 in
theorem li_wsL_law_r31 : ∀ w ∈ wsL_law_r31, w ∈ lw_tbl := mem_r [1097, 664, 665, 666, 667, 668, 669, 670, 671, 672, 673, 674, 1098, 1099, 1100, 1101, 1102, 675, 676, 677, 678, 683, 679, 681] (by decide +kernel)
set_option maxRecDepth 20000 in
theorem li_wsL_law_r32 : ∀ w ∈ wsL_law_r32, w ∈ lw_tbl := mem_r [20, 682, 1103, 1104, 1105, 1106, 1107, 1109, 51, 1110, 684, 685, 686, 687, 252, 688, 689, 690, 691, 1111, 1112, 1113, 1114, 692] (by decide +kernel)
set_option maxRecDepth 20000 in
theorem li_wsL_law_r33 : ∀ w ∈ wsL_law_r33, w ∈ lw_tbl := mem_r [693, 694, 695, 696, 698, 21, 699, 1115, 1116, 1117, 1118, 700, 701, 702, 703, 704, 705, 706, 707, 708, 710, 22, 711, 712] (by decide +kernel)
set_option maxRecDepth 20000 in
theorem li_wsL_law_r34 : ∀ w ∈ wsL_law_r34, w ∈ lw_tbl := mem_r [1119, 1120, 1121, 1122, 713, 714, 715, 716, 717, 718, 719, 720, 721, 723, 23, 724, 1123, 1124, 1125, 1126, 725, 726, 727, 728] (by decide +kernel)
set_option maxRecDepth 20000 in
theorem li_wsL_law_r35 : ∀ w ∈ wsL_law_r35, w ∈ lw_tbl := mem_r [729, 730, 731, 732, 733, 1127, 1128, 1129, 1130, 734, 735, 736, 737, 1131, 1132, 1133, 1134, 738, 739, 740, 741, 149, 1135, 1136] (by decide +kernel)
set_option maxRecDepth 20000 in
theorem li_wsL_law_r36 : ∀ w ∈ wsL_law_r36, w ∈ lw_tbl := mem_r [1137, 1138, 742, 743, 744, 745, 746, 747, 748, 749, 1139, 1140, 1141, 1142, 1143, 1144, 1145, 1146, 751, 752, 753, 754, 273, 755] (by decide +kernel)
set_option maxRecDepth 20000 in
theorem li_wsL_law_r37 : ∀ w ∈ wsL_law_r37, w ∈ lw_tbl := mem_r [756, 757, 758, 759, 204, 148, 761, 763, 24, 764, 207, 186, 153, 765, 767, 25, 768, 272, 769, 770, 771, 775, 772, 773] (by decide +kernel)
set_option maxRecDepth 20000 in
theorem li_wsL_law_r38 : ∀ w ∈ wsL_law_r38, w ∈ lw_tbl := mem_r [776, 1147, 1148, 1149, 1150, 834, 1151, 1153, 52, 1154, 1155, 1157, 53, 1158, 1159, 1161, 54, 1162, 1163, 1165, 55, 1166, 1167, 1169] (by decide +kernel)
set_option maxRecDepth 20000 in
theorem li_wsL_law_r39 : ∀ w ∈ wsL_law_r39, w ∈ lw_tbl := mem_r [56, 1170, 777, 778, 779, 780, 271, 1171, 1172, 1173, 1174, 781, 782, 783, 784, 785, 786, 787, 788, 789, 790, 791, 792, 793] (by decide +kernel)
set_option maxRecDepth 20000 in
theorem li_wsL_law_r40 : ∀ w ∈ wsL_law_r40, w ∈ lw_tbl := mem_r [794, 795, 796, 797, 1175, 1176, 1177, 1178, 798, 799, 800, 801, 1179, 1180, 1181, 1182] (by decide +kernel)
set_option maxRecDepth 20000 in
theorem li_wsX80 : ∀ w ∈ wsX80, w ∈ lw_tbl := mem_r [290, 292, 294, 296, 298, 300, 302, 304, 306, 308, 310] (by decide +kernel)
set_option maxRecDepth 20000 in
theorem li_wsX90 : ∀ w ∈ wsX90, w ∈ lw_tbl := mem_r [835, 837, 839, 841, 843, 845, 847, 849, 851, 853, 855, 857, 859, 861, 863, 865, 867, 869, 871, 873, 875, 877, 879, 881, 883, 885, 887] (by decide +kernel)
set_option maxRecDepth 20000 in
theorem li_wsX60 : ∀ w ∈ wsX60, w ∈ lw_tbl := mem_r [100, 102, 104] (by decide +kernel)
set_option maxRecDepth 20000 in
theorem li_wsX70 : ∀ w ∈ wsX70, w ∈ lw_tbl := mem_r [123, 125, 127, 129, 131, 133, 135] (by decide +kernel)
set_option maxRecDepth 20000 in
theorem li_wsX20 : ∀ w ∈ wsX20, w ∈ lw_tbl := mem_r [159, 161, 163, 165, 167] (by decide +kernel)
set_option maxRecDepth 20000 in
theorem li_wsX10 : ∀ w ∈ wsX10, w ∈ lw_tbl := mem_r [211, 213, 215] (by decide +kernel)
set_option maxRecDepth 20000 in
theorem li_wsX50 : ∀ w ∈ wsX50, w ∈ lw_tbl := mem_r [232, 234, 236] (by decide +kernel)
set_option maxRecDepth 20000 in
theorem li_wsX30 : ∀ w ∈ wsX30, w ∈ lw_tbl := mem_r [194, 196, 198, 200] (by decide +kernel)
set_option maxRecDepth 20000 in
theorem li_wsX40 : ∀ w ∈ wsX40, w ∈ lw_tbl := mem_r [253, 255, 257, 259, 261] (by decide +kernel)
set_option maxRecDepth 20000 in
theorem li_wsX00 : ∀ w ∈ wsX00, w ∈ lw_tbl := mem_r [274, 276] (by decide +kernel)
theorem wsL_law_in : ∀ w ∈ wsL_law, w ∈ lw_tbl := (mem_app (mem_app (mem_app (mem_app (mem_app (mem_app (mem_app (mem_app (mem_app (mem_app (mem_app (mem_app li_wsL_law_r1 (mem_app li_wsL_law_r2 (mem_app li_wsL_law_r3 (mem_app li_wsL_law_r4 (mem_app li_wsL_law_r5 (mem_app li_wsL_law_r6 (mem_app li_wsL_law_r7 (mem_app li_wsL_law_r8 (mem_app li_wsL_law_r9 (mem_app li_wsL_law_r10 (mem_app li_wsL_law_r11 (mem_app li_wsL_law_r12 (mem_app li_wsL_law_r13 (mem_app li_wsL_law_r14 (mem_app li_wsL_law_r15 (mem_app li_wsL_law_r16 (mem_app li_wsL_law_r17 (mem_app li_wsL_law_r18 (mem_app li_wsL_law_r19 (mem_app li_wsL_law_r20 (mem_app li_wsL_law_r21 (mem_app li_wsL_law_r22 (mem_app li_wsL_law_r23 (mem_app li_wsL_law_r24 (mem_app li_wsL_law_r25 (mem_app li_wsL_law_r26 (mem_app li_wsL_law_r27 (mem_app li_wsL_law_r28 (mem_app li_wsL_law_r29 (mem_app li_wsL_law_r30 (mem_app li_wsL_law_r31 (mem_app li_wsL_law_r32 (mem_app li_wsL_law_r33 (mem_app li_wsL_law_r34 (mem_app li_wsL_law_r35 (mem_app li_wsL_law_r36 (mem_app li_wsL_law_r37 (mem_app li_wsL_law_r38 (mem_app li_wsL_law_r39 li_wsL_law_r40))))))))))))))))))))))))))))))))))))))) li_wsX80) li_wsX90) li_wsX60) li_wsX70) li_wsX20) li_wsX10) li_wsX50) li_wsX30) li_wsX40) li_wsX00) (fun _ h => absurd h List.not_mem_nil))
