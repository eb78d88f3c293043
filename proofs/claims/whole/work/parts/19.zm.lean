/-! wsL_law is among the tables' words: by places -/
def atAll (big : List Cond) : List Cond → List Nat → Bool
  | [], _ => true
  | _ :: _, [] => false
  | w :: ws, i :: is => decide (big[i]? = some w) && atAll big ws is
theorem atAll_in {big : List Cond} : ∀ (ws : List Cond) (is : List Nat), atAll big ws is = true → ∀ w ∈ ws, w ∈ big
  | [], _, _, w, h => absurd h List.not_mem_nil
  | _ :: _, [], h, _, _ => absurd h (by simp [atAll])
  | w :: ws, i :: is, h, v, hv => by
    simp only [atAll, Bool.and_eq_true, decide_eq_true_eq] at h
    rcases List.mem_cons.mp hv with e | e
    · rw [e]; exact List.mem_of_getElem? h.1
    · exact atAll_in ws is h.2 v e
set_option maxRecDepth 100000 in
theorem wsr_1 : ∀ w ∈ wsL_law_r1, w ∈ lw_tbl := atAll_in _ [83, 84, 70, 823, 824, 76, 1229, 85, 86, 87, 88, 89, 90, 91, 93, 94, 95, 96, 97, 99, 253, 100, 101, 71] (by decide +kernel)
set_option maxRecDepth 100000 in
theorem wsr_2 : ∀ w ∈ wsL_law_r2, w ∈ lw_tbl := atAll_in _ [254, 130, 131, 72, 255, 159, 160, 73, 256, 179, 180, 74, 257, 258, 223, 224, 75, 259, 260, 261, 198, 103, 104, 105] (by decide +kernel)
set_option maxRecDepth 100000 in
theorem wsr_3 : ∀ w ∈ wsL_law_r3, w ∈ lw_tbl := atAll_in _ [129, 106, 107, 109, 110, 112, 114, 133, 134, 135, 136, 137, 138, 158, 139, 140, 141, 142, 162, 163, 164, 165, 167, 168] (by decide +kernel)
set_option maxRecDepth 100000 in
theorem wsr_4 : ∀ w ∈ wsL_law_r4, w ∈ lw_tbl := atAll_in _ [169, 182, 183, 184, 185, 187, 189, 191, 193, 195, 197, 199, 201, 226, 227, 228, 231, 234, 229, 236, 237, 238, 239, 825] (by decide +kernel)
set_option maxRecDepth 100000 in
theorem wsr_5 : ∀ w ∈ wsL_law_r5, w ∈ lw_tbl := atAll_in _ [826, 827, 828, 448, 830, 832, 833, 834, 835, 836, 842, 847, 848, 849, 850, 851, 854, 855, 856, 857, 858, 859, 860, 861] (by decide +kernel)
set_option maxRecDepth 100000 in
theorem wsr_6 : ∀ w ∈ wsL_law_r6, w ∈ lw_tbl := atAll_in _ [862, 863, 938, 864, 281, 282, 283, 284, 108, 285, 286, 287, 288, 939, 940, 941, 942, 831, 946, 943, 944, 945, 289, 290] (by decide +kernel)
set_option maxRecDepth 100000 in
theorem wsr_7 : ∀ w ∈ wsL_law_r7, w ∈ lw_tbl := atAll_in _ [291, 292, 947, 948, 949, 950, 293, 294, 295, 296, 200, 166, 202, 232, 235, 297, 299, 0, 300, 113, 111, 301, 302, 303] (by decide +kernel)
set_option maxRecDepth 100000 in
theorem wsr_8 : ∀ w ∈ wsL_law_r8, w ∈ lw_tbl := atAll_in _ [304, 305, 306, 307, 308, 309, 310, 311, 312, 313, 314, 315, 316, 317, 318, 319, 320, 322, 1, 323, 324, 325, 77, 326] (by decide +kernel)
set_option maxRecDepth 100000 in
theorem wsr_9 : ∀ w ∈ wsL_law_r9, w ∈ lw_tbl := atAll_in _ [327, 328, 329, 330, 332, 2, 333, 335, 337, 3, 338, 339, 340, 341, 78, 342, 1230, 343, 344, 345, 346, 347, 1231, 349] (by decide +kernel)
set_option maxRecDepth 100000 in
theorem wsr_10 : ∀ w ∈ wsL_law_r10, w ∈ lw_tbl := atAll_in _ [350, 351, 352, 353, 354, 355, 356, 357, 358, 79, 359, 360, 361, 362, 363, 365, 366, 80, 367, 368, 369, 81, 370, 371] (by decide +kernel)
set_option maxRecDepth 100000 in
theorem wsr_11 : ∀ w ∈ wsL_law_r11, w ∈ lw_tbl := atAll_in _ [372, 373, 374, 375, 376, 377, 378, 379, 380, 381, 383, 385, 390, 392, 4, 393, 115, 394, 396, 398, 399, 400, 401, 402] (by decide +kernel)
set_option maxRecDepth 100000 in
theorem wsr_12 : ∀ w ∈ wsL_law_r12, w ∈ lw_tbl := atAll_in _ [403, 404, 405, 406, 407, 408, 410, 5, 411, 412, 414, 416, 417, 418, 419, 420, 422, 6, 423, 424, 425, 426, 427, 428] (by decide +kernel)
set_option maxRecDepth 100000 in
theorem wsr_13 : ∀ w ∈ wsL_law_r13, w ∈ lw_tbl := atAll_in _ [429, 430, 431, 432, 434, 7, 435, 436, 437, 438, 439, 440, 441, 442, 443, 444, 445, 446, 447, 951, 952, 953, 954, 837] (by decide +kernel)
set_option maxRecDepth 100000 in
theorem wsr_14 : ∀ w ∈ wsL_law_r14, w ∈ lw_tbl := atAll_in _ [841, 839, 853, 955, 957, 38, 958, 838, 840, 963, 964, 965, 959, 961, 39, 962, 966, 968, 40, 969, 970, 972, 41, 973] (by decide +kernel)
set_option maxRecDepth 100000 in
theorem wsr_15 : ∀ w ∈ wsL_law_r15, w ∈ lw_tbl := atAll_in _ [974, 976, 42, 977, 978, 980, 43, 981, 982, 984, 44, 985, 449, 450, 451, 452, 453, 455, 8, 456, 457, 459, 9, 460] (by decide +kernel)
set_option maxRecDepth 100000 in
theorem wsr_16 : ∀ w ∈ wsL_law_r16, w ∈ lw_tbl := atAll_in _ [461, 462, 463, 464, 986, 987, 988, 989, 990, 992, 45, 993, 994, 996, 46, 997, 998, 1000, 47, 1001, 465, 466, 467, 468] (by decide +kernel)
set_option maxRecDepth 100000 in
theorem wsr_17 : ∀ w ∈ wsL_law_r17, w ∈ lw_tbl := atAll_in _ [469, 471, 10, 472, 473, 474, 475, 476, 1002, 1003, 1004, 1005, 1006, 1008, 48, 1009, 1010, 1012, 49, 1013, 477, 478, 479, 480] (by decide +kernel)
set_option maxRecDepth 100000 in
theorem wsr_18 : ∀ w ∈ wsL_law_r18, w ∈ lw_tbl := atAll_in _ [481, 483, 1014, 1015, 1016, 1017, 1018, 1019, 1020, 485, 486, 487, 488, 489, 490, 491, 492, 1021, 1022, 1023, 1024, 493, 494, 495] (by decide +kernel)
set_option maxRecDepth 100000 in
theorem wsr_19 : ∀ w ∈ wsL_law_r19, w ∈ lw_tbl := atAll_in _ [496, 497, 499, 11, 500, 501, 503, 12, 504, 505, 507, 13, 508, 509, 511, 14, 512, 513, 515, 15, 516, 517, 1025, 1026] (by decide +kernel)
set_option maxRecDepth 100000 in
theorem wsr_20 : ∀ w ∈ wsL_law_r20, w ∈ lw_tbl := atAll_in _ [1027, 1028, 1029, 1031, 50, 1032, 1033, 1035, 51, 1036, 843, 844, 845, 846, 1037, 1039, 52, 1040, 1041, 1043, 53, 1044, 1045, 1047] (by decide +kernel)
set_option maxRecDepth 100000 in
theorem wsr_21 : ∀ w ∈ wsL_law_r21, w ∈ lw_tbl := atAll_in _ [54, 1048, 518, 519, 520, 521, 522, 524, 16, 525, 526, 527, 528, 1049, 1050, 1051, 1052, 1053, 1055, 55, 1056, 529, 530, 531] (by decide +kernel)
set_option maxRecDepth 100000 in
theorem wsr_22 : ∀ w ∈ wsL_law_r22, w ∈ lw_tbl := atAll_in _ [532, 533, 571, 576, 534, 536, 17, 537, 538, 539, 540, 541, 542, 543, 544, 545, 546, 547, 548, 549, 550, 551, 552, 553] (by decide +kernel)
set_option maxRecDepth 100000 in
theorem wsr_23 : ∀ w ∈ wsL_law_r23, w ∈ lw_tbl := atAll_in _ [554, 555, 556, 557, 558, 560, 18, 561, 563, 564, 565, 566, 567, 568, 569, 570, 572, 573, 574, 575, 577, 578, 579, 580] (by decide +kernel)
set_option maxRecDepth 100000 in
theorem wsr_24 : ∀ w ∈ wsL_law_r24, w ∈ lw_tbl := atAll_in _ [581, 582, 1057, 1058, 1059, 1060, 1061, 1072, 1066, 1062, 1064, 56, 1065, 1071, 1067, 1069, 57, 1070, 1073, 1074, 1075, 1076, 1077, 1078] (by decide +kernel)
set_option maxRecDepth 100000 in
theorem wsr_25 : ∀ w ∈ wsL_law_r25, w ∈ lw_tbl := atAll_in _ [583, 584, 585, 586, 587, 589, 19, 590, 591, 592, 593, 594, 595, 597, 20, 598, 599, 600, 82, 601, 602, 603, 605, 21] (by decide +kernel)
set_option maxRecDepth 100000 in
theorem wsr_26 : ∀ w ∈ wsL_law_r26, w ∈ lw_tbl := atAll_in _ [606, 607, 609, 22, 610, 611, 613, 23, 614, 1079, 1080, 1081, 1082, 1083, 1085, 58, 1086, 1087, 1088, 1090, 59, 1091, 1092, 1094] (by decide +kernel)
set_option maxRecDepth 100000 in
theorem wsr_27 : ∀ w ∈ wsL_law_r27, w ∈ lw_tbl := atAll_in _ [60, 1095, 615, 616, 617, 618, 619, 1096, 1097, 1098, 1099, 620, 621, 622, 623, 1100, 1101, 1102, 1103, 624, 625, 626, 627, 1104] (by decide +kernel)
set_option maxRecDepth 100000 in
theorem wsr_28 : ∀ w ∈ wsL_law_r28, w ∈ lw_tbl := atAll_in _ [1105, 1106, 1107, 628, 629, 630, 631, 632, 633, 634, 635, 233, 636, 637, 638, 639, 640, 641, 642, 643, 644, 646, 24, 647] (by decide +kernel)
set_option maxRecDepth 100000 in
theorem wsr_29 : ∀ w ∈ wsL_law_r29, w ∈ lw_tbl := atAll_in _ [1108, 1109, 1110, 1111, 1112, 1114, 61, 1115, 648, 649, 650, 651, 663, 652, 654, 25, 655, 656, 657, 658, 659, 661, 26, 662] (by decide +kernel)
set_option maxRecDepth 100000 in
theorem wsr_30 : ∀ w ∈ wsL_law_r30, w ∈ lw_tbl := atAll_in _ [1116, 1117, 1118, 1119, 1120, 1122, 62, 1123, 1124, 1125, 1126, 1127, 1129, 63, 1130, 664, 665, 666, 667, 1131, 1132, 1133, 1134, 668] (by decide +kernel)
set_option maxRecDepth 100000 in
theorem wsr_31 : ∀ w ∈ wsL_law_r31, w ∈ lw_tbl := atAll_in _ [669, 670, 671, 672, 674, 27, 675, 676, 1135, 1136, 1137, 1138, 1139, 1141, 64, 1142, 677, 678, 679, 680, 1143, 1144, 1145, 1146] (by decide +kernel)
set_option maxRecDepth 100000 in
theorem wsr_32 : ∀ w ∈ wsL_law_r32, w ∈ lw_tbl := atAll_in _ [681, 682, 683, 684, 685, 687, 28, 688, 689, 690, 691, 692, 693, 1147, 1148, 1149, 1150, 852, 1151, 1153, 65, 1154, 694, 695] (by decide +kernel)
set_option maxRecDepth 100000 in
theorem wsr_33 : ∀ w ∈ wsL_law_r33, w ∈ lw_tbl := atAll_in _ [696, 697, 698, 700, 29, 701, 702, 703, 704, 705, 706, 707, 708, 710, 30, 711, 1155, 1156, 1157, 1158, 1159, 1160, 1161, 1162] (by decide +kernel)
set_option maxRecDepth 100000 in
theorem wsr_34 : ∀ w ∈ wsL_law_r34, w ∈ lw_tbl := atAll_in _ [1164, 66, 1165, 712, 713, 714, 715, 716, 717, 718, 719, 1166, 1167, 1168, 1169, 720, 721, 722, 723, 724, 725, 726, 727, 728] (by decide +kernel)
set_option maxRecDepth 100000 in
theorem wsr_35 : ∀ w ∈ wsL_law_r35, w ∈ lw_tbl := atAll_in _ [730, 31, 731, 1170, 1171, 1172, 1173, 732, 733, 734, 735, 736, 737, 738, 739, 740, 1174, 1175, 1176, 1177, 1178, 741, 742, 743] (by decide +kernel)
set_option maxRecDepth 100000 in
theorem wsr_36 : ∀ w ∈ wsL_law_r36, w ∈ lw_tbl := atAll_in _ [744, 186, 1179, 1180, 1181, 1182, 745, 746, 747, 748, 188, 749, 750, 751, 752, 753, 754, 755, 756, 757, 758, 759, 760, 761] (by decide +kernel)
set_option maxRecDepth 100000 in
theorem wsr_37 : ∀ w ∈ wsL_law_r37, w ∈ lw_tbl := atAll_in _ [762, 1183, 1184, 1185, 1186, 1187, 1188, 1190, 67, 1191, 763, 764, 765, 766, 190, 192, 194, 196, 1192, 1193, 1194, 1195, 767, 768] (by decide +kernel)
set_option maxRecDepth 100000 in
theorem wsr_38 : ∀ w ∈ wsL_law_r38, w ∈ lw_tbl := atAll_in _ [769, 770, 1196, 1197, 1198, 1199, 771, 772, 773, 774, 775, 777, 32, 778, 779, 781, 33, 782, 783, 784, 786, 34, 787, 788] (by decide +kernel)
set_option maxRecDepth 100000 in
theorem wsr_39 : ∀ w ∈ wsL_law_r39, w ∈ lw_tbl := atAll_in _ [790, 35, 791, 792, 793, 795, 36, 796, 797, 798, 800, 37, 801, 802, 1200, 1201, 1202, 1203, 829, 1204, 1205, 1206, 1207, 1208] (by decide +kernel)
set_option maxRecDepth 100000 in
theorem wsr_40 : ∀ w ∈ wsL_law_r40, w ∈ lw_tbl := atAll_in _ [803, 804, 805, 806, 807, 808, 809, 810, 1209, 1210, 1211, 1212, 1213, 1215, 68, 1216, 811, 812, 813, 814, 1217, 1218, 1219, 1220] (by decide +kernel)
set_option maxRecDepth 100000 in
theorem wsr_41 : ∀ w ∈ wsL_law_r41, w ∈ lw_tbl := atAll_in _ [815, 816, 817, 818, 1221, 1222, 1223, 1224, 819, 820, 821, 822, 1225, 1226, 1227, 1228] (by decide +kernel)
set_option maxRecDepth 100000 in
theorem wsy_0 : ∀ w ∈ wsX00, w ∈ lw_tbl := atAll_in _ [170, 172, 174, 176] (by decide +kernel)
set_option maxRecDepth 100000 in
theorem wsy_1 : ∀ w ∈ wsX10, w ∈ lw_tbl := atAll_in _ [203, 205, 207, 209, 211, 213, 215, 217, 219] (by decide +kernel)
set_option maxRecDepth 100000 in
theorem wsy_2 : ∀ w ∈ wsX20, w ∈ lw_tbl := atAll_in _ [116, 118, 120, 122, 124, 126] (by decide +kernel)
set_option maxRecDepth 100000 in
theorem wsy_3 : ∀ w ∈ wsX30, w ∈ lw_tbl := atAll_in _ [143, 145, 147, 149, 151, 153, 155] (by decide +kernel)
set_option maxRecDepth 100000 in
theorem wsy_4 : ∀ w ∈ wsX40, w ∈ lw_tbl := atAll_in _ [240, 242, 244, 246, 248, 250] (by decide +kernel)
set_option maxRecDepth 100000 in
theorem wsy_5 : ∀ w ∈ wsX50, w ∈ lw_tbl := atAll_in _ [262, 264, 266, 268, 270, 272, 274, 276, 278] (by decide +kernel)
set_option maxRecDepth 100000 in
theorem wsy_6 : ∀ w ∈ wsX60, w ∈ lw_tbl := atAll_in _ [865, 867, 869, 871, 873, 875, 877, 879, 881, 883, 885, 887, 889, 891, 893, 895, 897, 899, 901, 903, 905, 907, 909, 911, 913, 915, 917, 919, 921, 923, 925, 927, 929, 931, 933, 935] (by decide +kernel)
theorem wsL_law_in : ∀ w ∈ wsL_law, w ∈ lw_tbl := by
  unfold wsL_law
  exact List.forall_mem_append.mpr ⟨List.forall_mem_append.mpr ⟨List.forall_mem_append.mpr ⟨List.forall_mem_append.mpr ⟨List.forall_mem_append.mpr ⟨List.forall_mem_append.mpr ⟨List.forall_mem_append.mpr ⟨List.forall_mem_append.mpr ⟨List.forall_mem_append.mpr ⟨wsr_1, List.forall_mem_append.mpr ⟨wsr_2, List.forall_mem_append.mpr ⟨wsr_3, List.forall_mem_append.mpr ⟨wsr_4, List.forall_mem_append.mpr ⟨wsr_5, List.forall_mem_append.mpr ⟨wsr_6, List.forall_mem_append.mpr ⟨wsr_7, List.forall_mem_append.mpr ⟨wsr_8, List.forall_mem_append.mpr ⟨wsr_9, List.forall_mem_append.mpr ⟨wsr_10, List.forall_mem_append.mpr ⟨wsr_11, List.forall_mem_append.mpr ⟨wsr_12, List.forall_mem_append.mpr ⟨wsr_13, List.forall_mem_append.mpr ⟨wsr_14, List.forall_mem_append.mpr ⟨wsr_15, List.forall_mem_append.mpr ⟨wsr_16, List.forall_mem_append.mpr ⟨wsr_17, List.forall_mem_append.mpr ⟨wsr_18, List.forall_mem_append.mpr ⟨wsr_19, List.forall_mem_append.mpr ⟨wsr_20, List.forall_mem_append.mpr ⟨wsr_21, List.forall_mem_append.mpr ⟨wsr_22, List.forall_mem_append.mpr ⟨wsr_23, List.forall_mem_append.mpr ⟨wsr_24, List.forall_mem_append.mpr ⟨wsr_25, List.forall_mem_append.mpr ⟨wsr_26, List.forall_mem_append.mpr ⟨wsr_27, List.forall_mem_append.mpr ⟨wsr_28, List.forall_mem_append.mpr ⟨wsr_29, List.forall_mem_append.mpr ⟨wsr_30, List.forall_mem_append.mpr ⟨wsr_31, List.forall_mem_append.mpr ⟨wsr_32, List.forall_mem_append.mpr ⟨wsr_33, List.forall_mem_append.mpr ⟨wsr_34, List.forall_mem_append.mpr ⟨wsr_35, List.forall_mem_append.mpr ⟨wsr_36, List.forall_mem_append.mpr ⟨wsr_37, List.forall_mem_append.mpr ⟨wsr_38, List.forall_mem_append.mpr ⟨wsr_39, List.forall_mem_append.mpr ⟨wsr_40, wsr_41⟩⟩⟩⟩⟩⟩⟩⟩⟩⟩⟩⟩⟩⟩⟩⟩⟩⟩⟩⟩⟩⟩⟩⟩⟩⟩⟩⟩⟩⟩⟩⟩⟩⟩⟩⟩⟩⟩⟩⟩, wsy_5⟩, wsy_6⟩, wsy_2⟩, wsy_3⟩, wsy_0⟩, wsy_1⟩, wsy_4⟩, fun _ h => absurd h List.not_mem_nil⟩
