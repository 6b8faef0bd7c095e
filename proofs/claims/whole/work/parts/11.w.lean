theorem zMl_all : ∀ mi ∈ zMs, zMok zcl zT mi := List.forall_mem_append.mpr ⟨zMl_0, List.forall_mem_append.mpr ⟨zMl_1, List.forall_mem_append.mpr ⟨zMl_2, List.forall_mem_append.mpr ⟨zMl_3, List.forall_mem_append.mpr ⟨zMl_4, List.forall_mem_append.mpr ⟨zMl_5, List.forall_mem_append.mpr ⟨zMl_6, List.forall_mem_append.mpr ⟨zMl_7, zMl_8⟩⟩⟩⟩⟩⟩⟩⟩
theorem zMs_ok : ∀ μ mi, zn zMs μ = some mi → zMok zcl zT mi := fun μ mi h => zMl_all mi (by rw [zn_eq] at h; exact List.mem_of_getElem? h)
theorem zT_good : ∀ w ∈ zT, goodWord w = true := List.all_eq_true.mp (by decide +kernel : zT.all goodWord = true)
theorem zT_nat : ∀ w ∈ ([.static Lib.Math.max.name, .initialized "java/lang/Math", .code Lib.Math.max.name Lib.Math.max.code 2 (some .int), .static Lib.Math.min.name, .code Lib.Math.min.name Lib.Math.min.code 2 (some .int), .native arraycopyName, .static arraycopyName, .initialized "java/lang/System"] : List Cond), w ∈ zT := by
  have h : ∀ w ∈ ([97, 74, 98, 463, 464, 431, 430, 86] : List Nat).filterMap (fun i => zn zT i), w ∈ zT := by
    intro w hw
    obtain ⟨i, -, hi⟩ := List.mem_filterMap.mp hw
    exact zmem hi
  intro w hw
  exact h w (by rw [show ([97, 74, 98, 463, 464, 431, 430, 86] : List Nat).filterMap (fun i => zn zT i) = ([.static Lib.Math.max.name, .initialized "java/lang/Math", .code Lib.Math.max.name Lib.Math.max.code 2 (some .int), .static Lib.Math.min.name, .code Lib.Math.min.name Lib.Math.min.code 2 (some .int), .native arraycopyName, .static arraycopyName, .initialized "java/lang/System"] : List Cond) from by decide +kernel]; exact hw)
theorem zfl {R : String} {F : u_T} {N : Nat} (ps : List Nat) (h : u_ws R F N = ps.filterMap (fun i => zn zT i)) : ∀ w ∈ u_ws R F N, w ∈ zT := by
  intro w hw
  rw [h] at hw
  obtain ⟨i, -, hi⟩ := List.mem_filterMap.mp hw
  exact zmem hi
theorem zfX0 : ∀ w ∈ u_ws RX0 TX0 2, w ∈ zT := zfl [128, 129] (by decide +kernel)
theorem zfX1 : ∀ w ∈ u_ws RX1 TX1 6, w ∈ zT := zfl [158, 159, 160, 161, 162, 163] (by decide +kernel)
theorem zfX2 : ∀ w ∈ u_ws RX2 TX2 4, w ∈ zT := zfl [233, 234, 235, 236] (by decide +kernel)
theorem zfX3 : ∀ w ∈ u_ws RX3 TX3 4, w ∈ zT := zfl [255, 256, 257, 258] (by decide +kernel)
theorem zfX4 : ∀ w ∈ u_ws RX4 TX4 7, w ∈ zT := zfl [178, 179, 180, 181, 182, 183, 184] (by decide +kernel)
theorem zfX5 : ∀ w ∈ u_ws RX5 TX5 2, w ∈ zT := zfl [244, 245] (by decide +kernel)
theorem zfX6 : ∀ w ∈ u_ws RX6 TX6 4, w ∈ zT := zfl [138, 139, 140, 141] (by decide +kernel)
theorem zfX7 : ∀ w ∈ u_ws RX7 TX7 7, w ∈ zT := zfl [199, 200, 201, 202, 203, 204, 205] (by decide +kernel)
theorem zfX8 : ∀ w ∈ u_ws RX8 TX8 4, w ∈ zT := zfl [270, 271, 272, 273] (by decide +kernel)
theorem zfX9 : ∀ w ∈ u_ws RX9 TX9 4, w ∈ zT := zfl [216, 217, 218, 219] (by decide +kernel)
theorem zfX10 : ∀ w ∈ u_ws RX10 TX10 2, w ∈ zT := zfl [106, 107] (by decide +kernel)
theorem zfX11 : ∀ w ∈ u_ws RX11 TX11 15, w ∈ zT := zfl [289, 290, 291, 292, 293, 294, 295, 296, 297, 298, 299, 300, 301, 302, 303] (by decide +kernel)
theorem zfX12 : ∀ w ∈ u_ws RX12 TX12 48, w ∈ zT := zfl [719, 720, 721, 722, 723, 724, 725, 726, 727, 728, 729, 730, 731, 732, 733, 734, 735, 736, 737, 738, 739, 740, 741, 742, 743, 744, 745, 746, 747, 748, 749, 750, 751, 752, 753, 754, 755, 756, 757, 758, 759, 760, 761, 762, 763, 764, 765, 766] (by decide +kernel)
theorem zT_ok : zTok zcl zT := by
  refine ⟨?_, zT_nat, zT_good⟩
  intro ci C F N h
  match ci, h with
  | 0, h => cases h; exact ⟨zfX0, ⟨tyX0, tyX0_ok⟩, nmX0⟩
  | 1, h => cases h; exact ⟨zfX1, ⟨tyX1, tyX1_ok⟩, nmX1⟩
  | 2, h => cases h; exact ⟨zfX2, ⟨tyX2, tyX2_ok⟩, nmX2⟩
  | 3, h => cases h; exact ⟨zfX3, ⟨tyX3, tyX3_ok⟩, nmX3⟩
  | 4, h => cases h; exact ⟨zfX4, ⟨tyX4, tyX4_ok⟩, nmX4⟩
  | 5, h => cases h; exact ⟨zfX5, ⟨tyX5, tyX5_ok⟩, nmX5⟩
  | 6, h => cases h; exact ⟨zfX6, ⟨tyX6, tyX6_ok⟩, nmX6⟩
  | 7, h => cases h; exact ⟨zfX7, ⟨tyX7, tyX7_ok⟩, nmX7⟩
  | 8, h => cases h; exact ⟨zfX8, ⟨tyX8, tyX8_ok⟩, nmX8⟩
  | 9, h => cases h; exact ⟨zfX9, ⟨tyX9, tyX9_ok⟩, nmX9⟩
  | 10, h => cases h; exact ⟨zfX10, ⟨tyX10, tyX10_ok⟩, nmX10⟩
  | 11, h => cases h; exact ⟨zfX11, ⟨tyX11, tyX11_ok⟩, nmX11⟩
  | 12, h => cases h; exact ⟨zfX12, ⟨tyX12, tyX12_ok⟩, nmX12⟩
  | k + 13, h => simp [zcl] at h
set_option maxRecDepth 100000 in
theorem zTs_0 : zT_0 = [0, 1, 2, 3, 4, 5, 6, 7, 8, 9, 10, 11, 12, 13, 14, 15, 16, 17, 18, 19, 20, 21, 22, 23, 24, 25, 26, 27, 28, 29, 30, 31, 32, 33, 34, 35, 36, 37, 38, 39, 40, 41, 42, 43, 44, 45, 46, 47, 48, 49, 50, 51, 52, 53, 54, 55, 56, 57, 58, 59, 60, 61, 62, 63, 64, 65, 66, 67, 68, 69, 70, 71, 72, 73, 74, 75, 76, 77, 78, 79, 80, 81, 82, 83, 84, 85, 86, 89, 90, 91, 92, 93, 98, 99, 100, 101, 102, 103, 104, 105].filterMap (fun i => zn lw_tbl i) := by rfl
set_option maxRecDepth 100000 in
theorem zTs_1 : zT_1 = [106, 107, 108, 109, 110, 111, 112, 114, 121, 122, 123, 126, 127, 128, 129, 130, 131, 132, 133, 134, 135, 136, 137, 138, 139, 140, 141, 142, 143, 145, 148, 149, 150, 151, 152, 153, 154, 155, 156, 158, 160, 162, 168, 169, 170, 172, 176, 177, 178, 179, 180, 181, 182, 183, 184, 185, 186, 187, 188, 190, 192, 194, 196, 198, 204, 205, 206, 207, 208, 209, 210, 211, 212, 213, 214, 215, 216, 217, 218, 220, 222, 224, 226, 228, 230, 233, 234, 235, 236, 237, 238, 239, 240, 241, 242, 243, 244, 245, 246, 247].filterMap (fun i => zn lw_tbl i) := by rfl
set_option maxRecDepth 100000 in
theorem zTs_2 : zT_2 = [249, 251, 253, 255, 257, 259, 265, 266, 267, 268, 269, 270, 271, 272, 273, 274, 275, 277, 279, 281, 287, 288, 289, 290, 291, 292, 293, 294, 295, 296, 297, 298, 299, 300, 302, 304, 306, 312, 313, 314, 315, 316, 317, 318, 319, 321, 327, 328, 329, 334, 335, 336, 337, 338, 339, 340, 342, 344, 346, 353, 354, 355, 356, 357, 358, 359, 360, 361, 362, 363, 364, 366, 368, 370, 373, 374, 375, 376, 377, 378, 379, 380, 381, 382, 383, 384, 385, 386, 387, 388, 390, 392, 394, 396, 398, 400, 402, 404, 406, 408].filterMap (fun i => zn lw_tbl i) := by rfl
set_option maxRecDepth 100000 in
theorem zTs_3 : zT_3 = [410, 412, 414, 416, 419, 420, 421, 422, 423, 424, 425, 426, 427, 428, 429, 430, 431, 432, 433, 434, 435, 436, 437, 438, 440, 441, 442, 443, 444, 445, 446, 447, 448, 449, 450, 451, 452, 453, 454, 455, 456, 457, 459, 460, 461, 462, 463, 464, 465, 466, 467, 468, 469, 470, 471, 472, 474, 475, 476, 477, 478, 479, 481, 482, 483, 484, 485, 486, 488, 489, 490, 491, 492, 493, 494, 496, 497, 498, 500, 501, 502, 503, 504, 505, 506, 508, 509, 510, 511, 512, 513, 514, 515, 516, 517, 518, 519, 520, 521, 524].filterMap (fun i => zn lw_tbl i) := by rfl
set_option maxRecDepth 100000 in
theorem zTs_4 : zT_4 = [525, 526, 527, 529, 530, 531, 533, 534, 535, 536, 537, 538, 539, 541, 542, 543, 544, 545, 547, 548, 549, 550, 551, 552, 554, 555, 556, 558, 559, 560, 561, 562, 563, 565, 566, 567, 568, 569, 570, 571, 572, 573, 574, 575, 576, 577, 578, 579, 580, 581, 582, 583, 585, 586, 587, 588, 589, 590, 591, 592, 593, 594, 595, 596, 597, 598, 599, 600, 601, 603, 604, 605, 606, 607, 609, 610, 611, 613, 614, 615, 617, 618, 619, 621, 622, 623, 624, 625, 626, 627, 628, 629, 630, 631, 632, 633, 634, 635, 636, 637].filterMap (fun i => zn lw_tbl i) := by rfl
set_option maxRecDepth 100000 in
theorem zTs_5 : zT_5 = [638, 639, 640, 641, 642, 643, 644, 645, 646, 647, 648, 649, 650, 651, 652, 653, 654, 655, 656, 657, 658, 659, 660, 661, 662, 663, 664, 665, 666, 667, 668, 669, 670, 671, 672, 673, 675, 676, 677, 678, 679, 680, 681, 682, 683, 685, 686, 687, 689, 690, 691, 692, 693, 694, 695, 697, 698, 699, 701, 702, 703, 705, 706, 707, 708, 709, 710, 711, 712, 713, 714, 715, 717, 718, 719, 720, 721, 722, 723, 724, 725, 726, 727, 728, 729, 730, 731, 733, 734, 735, 736, 737, 738, 739, 740, 741, 742, 743, 744, 745].filterMap (fun i => zn lw_tbl i) := by rfl
set_option maxRecDepth 100000 in
theorem zTs_6 : zT_6 = [746, 747, 748, 749, 750, 751, 752, 753, 754, 755, 756, 757, 758, 759, 760, 761, 762, 763, 764, 765, 766, 767, 768, 769, 770, 771, 772, 773, 774, 775, 776, 777, 778, 779, 780, 781, 782, 783, 784, 785, 786, 787, 788, 789, 790, 791, 792, 793, 794, 795, 796, 797, 798, 799, 800, 801, 802, 803, 804, 805, 806, 807, 808, 809, 810, 811, 812, 815, 816, 817, 818, 819, 820, 821, 822, 823, 824, 825, 826, 827, 828, 829, 830, 831, 832, 833, 834, 835, 836, 837, 838, 839, 840, 841, 842, 843, 844, 845, 846, 847].filterMap (fun i => zn lw_tbl i) := by rfl
set_option maxRecDepth 100000 in
theorem zTs_7 : zT_7 = [848, 849, 850, 851, 852, 853, 854, 855, 856, 857, 858, 859, 860, 861, 862, 863, 864, 865, 866, 867, 869, 871, 873, 875, 877, 879, 881, 883, 885, 887, 889, 891, 893, 895, 897, 899, 901, 903, 905, 907, 909, 911, 913, 915, 917, 919, 921, 923, 925, 927, 929, 931, 933, 935, 937, 939, 941, 943, 945, 947, 949, 951, 953, 955, 957, 959, 961, 964, 965, 966, 967, 968, 969, 970, 971, 972, 973, 974, 975, 976, 978, 979, 980, 981, 982, 983, 984, 985, 986, 987, 988, 990, 991, 992, 993, 994, 995, 996, 997, 998].filterMap (fun i => zn lw_tbl i) := by rfl
set_option maxRecDepth 100000 in
theorem zTs_8 : zT_8 = [999, 1000, 1001, 1002, 1003, 1004, 1005, 1006, 1007, 1008, 1009, 1010, 1011, 1012, 1013, 1014, 1015, 1016, 1017, 1018, 1019, 1020, 1021, 1022, 1023, 1024, 1025, 1026, 1027, 1028, 1029, 1030, 1031, 1032, 1033, 1035, 1036, 1037, 1039, 1040, 1041, 1042, 1043, 1044, 1045, 1046, 1047, 1048, 1049, 1050, 1051, 1053, 1054, 1055, 1057, 1058, 1059, 1061, 1062, 1063, 1064, 1065, 1066, 1068, 1069, 1070, 1071, 1072, 1073, 1075, 1076, 1077, 1079, 1080, 1081, 1083, 1084, 1085, 1087, 1088, 1089, 1091, 1092, 1093, 1095, 1096, 1097, 1098, 1099, 1100, 1101, 1103, 1104, 1105, 1106, 1107, 1108, 1109, 1111, 1112].filterMap (fun i => zn lw_tbl i) := by rfl
set_option maxRecDepth 100000 in
theorem zTs_9 : zT_9 = [1113, 1115, 1116, 1117, 1119, 1120, 1121, 1123, 1124, 1125, 1126, 1127, 1128, 1129, 1130, 1131, 1132, 1133, 1134, 1136, 1137, 1138, 1140, 1141, 1142, 1143, 1144, 1145, 1146, 1148, 1149, 1150, 1152, 1153, 1154, 1156, 1157, 1158, 1159, 1160, 1162, 1163, 1164, 1165, 1166, 1167, 1168, 1170, 1171, 1172, 1173, 1174, 1175, 1176, 1178, 1179, 1180, 1181, 1182, 1183, 1184, 1186, 1187, 1188, 1189, 1190, 1191, 1192, 1193, 1194, 1195, 1196, 1198, 1199, 1200, 1202, 1203, 1204, 1205, 1207, 1208, 1209, 1211, 1212, 1213, 1214, 1215, 1216, 1217, 1219, 1220, 1221, 1223, 1224, 1225, 1227, 1228, 1229, 1231, 1232].filterMap (fun i => zn lw_tbl i) := by rfl
set_option maxRecDepth 100000 in
theorem zTs_10 : zT_10 = [1233, 1235, 1236, 1237, 1239, 1240, 1241, 1243, 1244, 1245, 1247, 1248, 1249, 1251, 1252, 1253, 1255, 1256, 1257, 1259, 1260, 1261, 1262, 1263, 1264, 1265, 1266, 1268, 1269, 1270, 1271, 1272, 1273, 1274, 1276, 1277, 1278, 1279, 1280, 1281, 1282, 1284, 1285, 1286, 1287, 1288, 1289, 1290, 1291, 1292, 1293, 1294, 1295, 1296, 1297, 1298, 1299, 1300, 1301, 1303, 1304].filterMap (fun i => zn lw_tbl i) := by rfl
theorem zTs_of {T : List Cond} {ps : List Nat} (h : T = ps.filterMap (fun i => zn lw_tbl i)) : ∀ w ∈ T, w ∈ lw_tbl := by
  intro w hw
  rw [h] at hw
  obtain ⟨i, -, hi⟩ := List.mem_filterMap.mp hw
  exact zmem hi
theorem zT_sub : ∀ w ∈ zT, w ∈ lw_tbl := List.forall_mem_append.mpr ⟨zTs_of zTs_0, List.forall_mem_append.mpr ⟨zTs_of zTs_1, List.forall_mem_append.mpr ⟨zTs_of zTs_2, List.forall_mem_append.mpr ⟨zTs_of zTs_3, List.forall_mem_append.mpr ⟨zTs_of zTs_4, List.forall_mem_append.mpr ⟨zTs_of zTs_5, List.forall_mem_append.mpr ⟨zTs_of zTs_6, List.forall_mem_append.mpr ⟨zTs_of zTs_7, List.forall_mem_append.mpr ⟨zTs_of zTs_8, List.forall_mem_append.mpr ⟨zTs_of zTs_9, zTs_of zTs_10⟩⟩⟩⟩⟩⟩⟩⟩⟩⟩
theorem zmet {l : Launch} {D : va_G} {ad : Nat → Nat} {cA : Nat → ClassId} {nm : Nat → String} {sh : List zD} {d μ : Nat} {mi : zMI} {vs : List Value} {S : zS} {Q : Option Value → zS → Prop} (hm : zn zMs μ = some mi) (h : zK zMs sh d μ vs S Q) : zMet l D zcl ad cA nm sh zns zT (zRm d) mi vs S Q := zmet_all zT_ok zMs_ok zCs_ok d μ mi vs S Q hm h
