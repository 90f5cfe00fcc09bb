/-! ===== printed by program (wip/p44/lay_words.py): the law's words ===== -/
/-- a private method of a class that isn't an interface: a call of it on an object of a kind of that class comes to it -/
theorem sel_priv {C : String} {y z : MethodName} {s : State} {args : Array Value} (hy : y.cls ≠ "java/lang/invoke/MethodHandle" ∧ y.cls ≠ "java/lang/invoke/VarHandle") (hcls : y.cls = z.cls) (hsel : (Cond.selects C z z).before args s = true) (hpriv : (Cond.privateMethod y).before args s = true) (hinst : (Cond.instanceMethod y).before args s = true) : (Cond.selects C y y).before args s = true := by
  obtain ⟨c, r, m, hc, hr, hm, hs, mk, hk, hni⟩ := Cond.selects_spec hsel
  obtain ⟨my, methM, hnamed, hmethM, -, -⟩ := Cond.instanceMethod_spec hinst
  have hfound : s.methodFound? y.cls y.name y.desc = some my := State.methodFound?_of_named hnamed hy
  have hcls2 : my.cls = m.cls := Option.some.inj ((findClass_of_methodNamed hnamed).symm.trans ((congrArg s.vm.findClass hcls).trans (findClass_of_methodNamed hm)))
  have hsel := selectMethod_private (p := {}) (c := c) hmethM (Cond.privateMethod_at hpriv my methM hnamed hmethM)
  simp only [Cond.before, Cond.holds, Cond.value, hc, hfound, hnamed, hsel, hcls2, hk]
  simp; exact hni
def mnL : MethodName := ⟨"java/lang/AbstractStringBuilder", "isLatin1", "()Z"⟩
def mnE0 : MethodName := ⟨"java/lang/AbstractStringBuilder", "appendNull", "()Ljava/lang/AbstractStringBuilder;"⟩
def mnE1 : MethodName := ⟨"java/lang/AbstractStringBuilder", "ensureCapacityInternal", "(I)V"⟩
def mnE2 : MethodName := ⟨"java/lang/AbstractStringBuilder", "newCapacity", "(I)I"⟩
def mnE3 : MethodName := ⟨"java/lang/AbstractStringBuilder", "putStringAt", "(ILjava/lang/String;)V"⟩
def mnE4 : MethodName := ⟨"java/lang/AbstractStringBuilder", "inflateIfNeededFor", "(Ljava/lang/String;)V"⟩
def mnE5 : MethodName := ⟨"java/lang/AbstractStringBuilder", "inflate", "()V"⟩
def lw_tb2 : List Cond := .selects RJ4 mnE0 mnE0 :: .selects RJ4 mnE1 mnE1 :: .selects RJ4 mnE2 mnE2 :: .selects RJ4 mnE3 mnE3 :: .selects RJ4 mnE4 mnE4 :: .selects RJ4 mnE5 mnE5 :: lw_tbl
def lw_five : List Cond := [.selects RJ4 mnL mnL, .privateMethod mnE0, .instanceMethod mnE0, .privateMethod mnE1, .instanceMethod mnE1, .privateMethod mnE2, .instanceMethod mnE2, .privateMethod mnE3, .instanceMethod mnE3, .privateMethod mnE4, .instanceMethod mnE4, .privateMethod mnE5, .instanceMethod mnE5]
set_option maxRecDepth 100000 in
theorem lw_five_ok : ∀ w ∈ lw_five, w ∈ lw_tbl := memP [1242, 1207, 1208, 1211, 1212, 1215, 1216, 1261, 1262, 1265, 1266, 1270, 1271] (by decide +kernel)
theorem lw_hts2 {args : Array Value} {s : State} (h : ∀ w ∈ lw_tbl, w.before args s = true) : ∀ w ∈ lw_tb2, w.before args s = true := by
  have h5 : ∀ w ∈ lw_five, w.before args s = true := fun w hw => h w (lw_five_ok w hw)
  refine List.forall_mem_cons.mpr ⟨?_, List.forall_mem_cons.mpr ⟨?_, List.forall_mem_cons.mpr ⟨?_, List.forall_mem_cons.mpr ⟨?_, List.forall_mem_cons.mpr ⟨?_, List.forall_mem_cons.mpr ⟨?_, h⟩⟩⟩⟩⟩⟩
  · exact sel_priv (z := mnL) (by decide) rfl (h5 (.selects RJ4 mnL mnL) (by decide)) (h5 (.privateMethod mnE0) (by decide)) (h5 (.instanceMethod mnE0) (by decide))
  · exact sel_priv (z := mnL) (by decide) rfl (h5 (.selects RJ4 mnL mnL) (by decide)) (h5 (.privateMethod mnE1) (by decide)) (h5 (.instanceMethod mnE1) (by decide))
  · exact sel_priv (z := mnL) (by decide) rfl (h5 (.selects RJ4 mnL mnL) (by decide)) (h5 (.privateMethod mnE2) (by decide)) (h5 (.instanceMethod mnE2) (by decide))
  · exact sel_priv (z := mnL) (by decide) rfl (h5 (.selects RJ4 mnL mnL) (by decide)) (h5 (.privateMethod mnE3) (by decide)) (h5 (.instanceMethod mnE3) (by decide))
  · exact sel_priv (z := mnL) (by decide) rfl (h5 (.selects RJ4 mnL mnL) (by decide)) (h5 (.privateMethod mnE4) (by decide)) (h5 (.instanceMethod mnE4) (by decide))
  · exact sel_priv (z := mnL) (by decide) rfl (h5 (.selects RJ4 mnL mnL) (by decide)) (h5 (.privateMethod mnE5) (by decide)) (h5 (.instanceMethod mnE5) (by decide))

set_option maxRecDepth 100000 in
theorem lwa_0 : ∀ w ∈ wsL_law0_r1, w ∈ lw_tb2 := memP [1175, 1176, 52, 61, 62, 29, 1413, 1129, 1130, 28, 1131, 1148, 1149, 47, 1150, 63, 64, 65, 66, 67, 68, 69, 70, 30] rfl
set_option maxRecDepth 100000 in
theorem lwa_1 : ∀ w ∈ wsL_law0_r2, w ∈ lw_tb2 := memP [345, 245, 346, 247, 347, 253, 254, 36, 348, 273, 76, 31, 349, 275, 276, 37, 351, 328, 329, 39, 352, 343, 86, 32] rfl
set_option maxRecDepth 100000 in
theorem lwa_2 : ∀ w ∈ wsL_law0_r3, w ∈ lw_tb2 := memP [353, 72, 73, 74, 75, 244, 225, 226, 35, 246, 77, 78, 79, 80, 81, 179, 83, 185, 85, 191, 103, 33, 161, 34] rfl
set_option maxRecDepth 100000 in
theorem lwa_3 : ∀ w ∈ wsL_law0_r4, w ∈ lw_tb2 := memP [88, 89, 90, 102, 91, 94, 105, 106, 107, 128, 132, 135, 138, 163, 164, 165, 228, 229, 230, 255, 256, 257, 258, 259] rfl
set_option maxRecDepth 100000 in
theorem lwa_4 : ∀ w ∈ wsL_law0_r5, w ∈ lw_tb2 := memP [262, 261, 274, 277, 278, 279, 280, 304, 305, 281, 309, 313, 283, 38, 285, 286, 287, 290, 331, 332, 333, 334, 1107, 1108] rfl
set_option maxRecDepth 100000 in
theorem lwa_5 : ∀ w ∈ wsL_law0_r6, w ∈ lw_tb2 := memP [1109, 1132, 1133, 1134, 1135, 1136, 1137, 1138, 1139, 377, 378, 379, 380, 263, 381, 382, 383, 384, 182, 188, 194, 197, 200, 203] rfl
set_option maxRecDepth 100000 in
theorem lwa_6 : ∀ w ∈ wsL_law0_r7, w ∈ lw_tb2 := memP [385, 386, 387, 388, 108, 113, 116, 120, 124, 389, 391, 390, 40, 392, 393, 394, 395, 166, 170, 396, 397, 398, 399, 400] rfl
set_option maxRecDepth 100000 in
theorem lwa_7 : ∀ w ∈ wsL_law0_r8, w ∈ lw_tb2 := memP [974, 975, 976, 977, 183, 180, 636, 637, 638, 410, 411, 416, 417, 418, 419, 231, 233, 235, 639, 640, 641, 642, 643, 644] rfl
set_option maxRecDepth 100000 in
theorem lwa_8 : ∀ w ∈ wsL_law0_r9, w ∈ lw_tb2 := memP [645, 646, 117, 647, 539, 42, 540, 541, 542, 543, 978, 979, 980, 981, 433, 435, 7, 436, 437, 46, 508, 509, 510, 511] rfl
set_option maxRecDepth 100000 in
theorem lwa_9 : ∀ w ∈ wsL_law0_r10, w ∈ lw_tb2 := memP [264, 512, 513, 514, 1140, 1141, 1142, 1143, 982, 983, 984, 985, 121, 110, 130, 134, 136, 140, 405, 406, 407, 408, 412, 414] rfl
set_option maxRecDepth 100000 in
theorem lwa_10 : ∀ w ∈ wsL_law0_r11, w ∈ lw_tb2 := memP [6, 415, 420, 421, 422, 423, 373, 374, 375, 376, 401, 402, 403, 404, 114, 425, 426, 427, 428, 429, 430, 431, 432, 515] rfl
set_option maxRecDepth 100000 in
theorem lwa_11 : ∀ w ∈ wsL_law0_r12, w ∈ lw_tb2 := memP [516, 517, 518, 1144, 1145, 1146, 1147, 986, 987, 988, 989, 189, 186, 167, 171, 519, 520, 521, 522, 523, 524, 525, 526, 527] rfl
set_option maxRecDepth 100000 in
theorem lwa_12 : ∀ w ∈ wsL_law0_r13, w ∈ lw_tb2 := memP [528, 529, 530, 531, 533, 9, 534, 536, 537, 538, 544, 545, 546, 547, 548, 549, 550, 551, 125, 192, 195, 198, 552, 553] rfl
set_option maxRecDepth 100000 in
theorem lwa_13 : ∀ w ∈ wsL_law0_r14, w ∈ lw_tb2 := memP [554, 555, 556, 557, 558, 559, 560, 561, 562, 563, 564, 565, 566, 567, 568, 569, 570, 571, 572, 573, 574, 575, 576, 577] rfl
set_option maxRecDepth 100000 in
theorem lwa_14 : ∀ w ∈ wsL_law0_r15, w ∈ lw_tb2 := memP [578, 579, 581, 583, 10, 584, 585, 586, 587, 588, 589, 590, 591, 592, 593, 594, 595, 596, 597, 201, 598, 599, 600, 601] rfl
set_option maxRecDepth 100000 in
theorem lwa_15 : ∀ w ∈ wsL_law0_r16, w ∈ lw_tb2 := memP [603, 604, 605, 606, 607, 608, 609, 610, 611, 612, 613, 614, 615, 616, 617, 618, 619, 620, 621, 622, 204, 623, 624, 625] rfl
set_option maxRecDepth 100000 in
theorem lwa_16 : ∀ w ∈ wsL_law0_r17, w ∈ lw_tb2 := memP [626, 627, 628, 629, 630, 631, 632, 633, 634, 118, 648, 649, 650, 651, 652, 653, 654, 655, 92, 95, 656, 657, 658, 659] rfl
set_option maxRecDepth 100000 in
theorem lwa_17 : ∀ w ∈ wsL_law0_r18, w ∈ lw_tb2 := memP [660, 661, 662, 663, 1052, 1053, 1054, 1055, 696, 48, 184, 190, 193, 196, 199, 202, 205, 265, 307, 1056, 1057, 1058, 1059, 111] rfl
set_option maxRecDepth 100000 in
theorem lwa_18 : ∀ w ∈ wsL_law0_r19, w ∈ lw_tb2 := memP [1060, 1061, 1062, 1063, 1031, 1064, 1065, 1066, 1067, 1093, 1094, 1095, 1096, 350, 1097, 1151, 1152, 1153, 816, 817, 818, 819, 93, 780] rfl
set_option maxRecDepth 100000 in
theorem lwa_19 : ∀ w ∈ wsL_law0_r20, w ∈ lw_tb2 := memP [782, 14, 783, 820, 821, 822, 823, 96, 664, 665, 666, 667, 112, 115, 119, 123, 127, 668, 670, 11, 671, 673, 49, 181] rfl
set_option maxRecDepth 100000 in
theorem lwa_20 : ∀ w ∈ wsL_law0_r21, w ∈ lw_tb2 := memP [672, 689, 690, 691, 692, 693, 694, 695, 1154, 1155, 1156, 1157, 131, 137, 141, 737, 739, 13, 740, 742, 50, 741, 758, 808] rfl
set_option maxRecDepth 100000 in
theorem lwa_21 : ∀ w ∈ wsL_law0_r22, w ∈ lw_tb2 := memP [712, 713, 714, 715, 168, 172, 716, 718, 12, 719, 187, 720, 722, 723, 724, 725, 726, 122, 727, 728, 729, 730, 731, 824] rfl
set_option maxRecDepth 100000 in
theorem lwa_22 : ∀ w ∈ wsL_law0_r23, w ∈ lw_tb2 := memP [825, 826, 827, 828, 830, 1174, 1177, 1178, 1179, 1180, 1181, 51, 1182, 1183, 1184, 507, 1192, 1193, 1185, 1186, 54, 1187, 1188, 1189] rfl
set_option maxRecDepth 100000 in
theorem lwa_23 : ∀ w ∈ wsL_law0_r24, w ∈ lw_tb2 := memP [1190, 1191, 1205, 1206, 1207, 1208, 1209, 1417, 1204, 1210, 1211, 1195, 1212, 1418, 0, 1214, 1215, 1216, 1419, 1, 1218, 1219, 1220, 1420] rfl
set_option maxRecDepth 100000 in
theorem lwa_24 : ∀ w ∈ wsL_law0_r25, w ∈ lw_tb2 := memP [2, 1222, 1223, 1232, 1224, 1225, 55, 1226, 1227, 1228, 1229, 1230, 1231, 1233, 1234, 56, 1235, 1236, 1237, 1238, 1239, 1240, 1242, 1243] rfl
set_option maxRecDepth 100000 in
theorem lwa_25 : ∀ w ∈ wsL_law0_r26, w ∈ lw_tb2 := memP [1244, 1245, 1247, 1248, 1246, 1249, 1250, 1251, 1252, 931, 1253, 1254, 1255, 924, 925, 926, 1256, 1257, 53, 1258, 913, 1259, 1260, 57] rfl
set_option maxRecDepth 100000 in
theorem lwa_26 : ∀ w ∈ wsL_law0_r27, w ∈ lw_tb2 := memP [1261, 1262, 1263, 1264, 933, 935, 1265, 890, 891, 892, 1379, 893, 894, 895, 896, 897, 1380, 1266, 1421, 3, 1268, 1269, 1270, 1422] rfl
set_option maxRecDepth 100000 in
theorem lwa_27 : ∀ w ∈ wsL_law0_r28, w ∈ lw_tb2 := memP [4, 1272, 1273, 1274, 1275, 1423, 5, 1277, 1278, 1279, 1280, 58, 1281, 1282, 1283, 1284, 1285, 1286, 1287, 1288, 1289, 1290, 1291, 1292] rfl
set_option maxRecDepth 100000 in
theorem lwa_28 : ∀ w ∈ wsL_law0_r29, w ∈ lw_tb2 := memP [1293, 1294, 1295, 1296, 1297, 1298, 1299, 1300, 1301, 1302, 1303, 1304, 1424, 1305, 1306, 1307, 1308, 1309, 1310, 1311, 1312, 1313, 1315, 1317] rfl
set_option maxRecDepth 100000 in
theorem lwa_29 : ∀ w ∈ wsL_law0_r30, w ∈ lw_tb2 := memP [1318, 1319, 1320, 1321, 1322, 1323, 1324, 1325, 1326, 1327, 1328, 1329, 1330, 1331, 1332, 1333, 1334, 1335, 1336, 1337, 1194, 1338, 1340, 1341] rfl
set_option maxRecDepth 100000 in
theorem lwa_30 : ∀ w ∈ wsL_law0_r31, w ∈ lw_tb2 := memP [1339, 1342, 1343, 1345, 1344, 1346, 1347, 1348, 1349, 1344, 1350, 1351, 1352, 1353, 1354, 1355, 1356, 1357, 1358, 1359, 1360, 1362, 1369, 1370] rfl
set_option maxRecDepth 100000 in
theorem lwa_31 : ∀ w ∈ wsL_law0_r32, w ∈ lw_tb2 := memP [1371, 1372, 1373, 1374, 928, 929, 930, 1375, 1376, 1377, 1378, 1110, 1111, 1112, 1113, 1114, 900, 901, 902, 903, 904, 905, 906, 907] rfl
set_option maxRecDepth 100000 in
theorem lwa_32 : ∀ w ∈ wsL_law0_r33, w ∈ lw_tb2 := memP [908, 909, 910, 911, 912, 915, 916, 917, 918, 919, 920, 921, 922, 923, 927, 1115, 1116, 1117, 1118, 1073, 59, 1119, 1120, 1121] rfl
set_option maxRecDepth 100000 in
theorem lwa_33 : ∀ w ∈ wsL_law0_r34, w ∈ lw_tb2 := memP [1122, 306, 1124, 1125, 1126, 1127, 1128, 854, 855, 856, 857, 314, 236, 312, 858, 859, 860, 861, 308, 311, 862, 864, 17, 865] rfl
set_option maxRecDepth 100000 in
theorem lwa_34 : ∀ w ∈ wsL_law0_r35, w ∈ lw_tb2 := memP [866, 868, 18, 869, 870, 871, 872, 881, 882, 883, 884, 885, 886, 887, 888, 288, 292, 293, 889, 899, 937, 939, 19, 940] rfl
set_option maxRecDepth 100000 in
theorem lwa_35 : ∀ w ∈ wsL_law0_r36, w ∈ lw_tb2 := memP [941, 943, 20, 944, 945, 947, 21, 948, 949, 950, 951, 952, 953, 955, 22, 956, 957, 958, 959, 960, 961, 963, 23, 964] rfl
set_option maxRecDepth 100000 in
theorem lwa_36 : ∀ w ∈ wsL_law0_r37, w ∈ lw_tb2 := memP [966, 968, 24, 969, 310, 970, 972, 25, 973, 291, 289, 294, 990, 991, 992, 993, 995, 996, 997, 998, 1069, 1070, 1071, 1072] rfl
set_option maxRecDepth 100000 in
theorem lwa_37 : ∀ w ∈ wsL_law0_r38, w ∈ lw_tb2 := memP [1089, 1090, 1091, 1092, 1167, 1168, 1169, 1170, 999, 1000, 1001, 1002, 232, 234, 1171, 1172, 1173, 845, 846, 847, 848, 849, 850, 851] rfl
set_option maxRecDepth 100000 in
theorem lwa_38 : ∀ w ∈ wsL_law0_r39, w ∈ lw_tb2 := memP [852, 126, 853, 1005, 1006, 1007, 1008, 337, 1009, 1010, 1011, 1012, 336, 109, 1013, 1014, 1016, 26, 1017, 1018, 1020, 27, 1021, 129] rfl
set_option maxRecDepth 100000 in
theorem lwa_39 : ∀ w ∈ wsL_law0_r40, w ∈ lw_tb2 := memP [133, 139, 1022, 1159, 1160, 1161, 1162, 1163, 1164, 1165, 335, 767, 768, 769, 770, 771, 772, 773, 774, 173, 169, 775, 733, 734] rfl
set_option maxRecDepth 100000 in
theorem lwa_40 : ∀ w ∈ wsL_law0_r41, w ∈ lw_tb2 := memP [735, 736, 759, 760, 761, 762, 763, 764, 765, 766, 786, 787, 788, 789, 791, 792, 793, 776, 777, 778, 779, 785, 800, 801] rfl
set_option maxRecDepth 100000 in
theorem lwa_41 : ∀ w ∈ wsL_law0_r42, w ∈ lw_tb2 := memP [802, 803, 798, 1023, 1024, 1025, 1026, 1032, 60, 1027, 1028, 1029, 1030, 1048, 1049, 1050, 1051, 804, 805, 806, 807, 809, 810, 811] rfl
set_option maxRecDepth 100000 in
theorem lwa_42 : ∀ w ∈ wsL_law0_r43, w ∈ lw_tb2 := memP [812, 813, 814, 815, 794, 795, 796, 797, 831, 832, 833, 834, 836, 838, 15, 839, 840, 842, 16, 843, 1098, 1099, 1100, 1101] rfl
set_option maxRecDepth 100000 in
theorem lwa_43 : ∀ w ∈ wsL_law0_r44, w ∈ lw_tb2 := memP [1103, 1104, 1105, 1106] rfl
set_option maxRecDepth 100000 in
theorem lwa_44 : ∀ w ∈ wsJ40, w ∈ lw_tb2 := memP [1196, 1198, 1200, 1202] rfl
set_option maxRecDepth 100000 in
theorem lwa_45 : ∀ w ∈ wsX100, w ∈ lw_tb2 := memP [354, 356, 358, 360, 362, 364, 366, 368, 370] rfl
set_option maxRecDepth 100000 in
theorem lwa_46 : ∀ w ∈ wsX10, w ∈ lw_tb2 := memP [248, 250] rfl
set_option maxRecDepth 100000 in
theorem lwa_47 : ∀ w ∈ wsX40, w ∈ lw_tb2 := memP [266, 268, 270] rfl
set_option maxRecDepth 100000 in
theorem lwa_48 : ∀ w ∈ wsX00, w ∈ lw_tb2 := memP [206, 208, 210, 212, 214, 216, 218, 220, 222] rfl
set_option maxRecDepth 100000 in
theorem lwa_49 : ∀ w ∈ wsX80, w ∈ lw_tb2 := memP [315, 317, 319, 321, 323, 325] rfl
set_option maxRecDepth 100000 in
theorem lwa_50 : ∀ w ∈ wsX60, w ∈ lw_tb2 := memP [338, 340] rfl
set_option maxRecDepth 100000 in
theorem lwa_51 : ∀ w ∈ wsX90, w ∈ lw_tb2 := memP [97, 99] rfl
set_option maxRecDepth 100000 in
theorem lwa_52 : ∀ w ∈ wsX70, w ∈ lw_tb2 := memP [237, 239, 241] rfl
set_option maxRecDepth 100000 in
theorem lwa_53 : ∀ w ∈ wsX50, w ∈ lw_tb2 := memP [142, 144, 146, 148, 150, 152, 154, 156, 158] rfl
set_option maxRecDepth 100000 in
theorem lwa_54 : ∀ w ∈ wsX30, w ∈ lw_tb2 := memP [174, 176] rfl
set_option maxRecDepth 100000 in
theorem lwa_55 : ∀ w ∈ wsX20, w ∈ lw_tb2 := memP [295, 297, 299, 301] rfl
set_option maxRecDepth 100000 in
theorem lwa_56 : ∀ w ∈ wsJ00, w ∈ lw_tb2 := memP [1381, 1383, 1385, 1387] rfl
theorem lwa_all0 : ∀ w ∈ wsL_law0, w ∈ lw_tb2 := List.forall_mem_append.mpr ⟨List.forall_mem_append.mpr ⟨List.forall_mem_append.mpr ⟨List.forall_mem_append.mpr ⟨List.forall_mem_append.mpr ⟨List.forall_mem_append.mpr ⟨List.forall_mem_append.mpr ⟨List.forall_mem_append.mpr ⟨List.forall_mem_append.mpr ⟨List.forall_mem_append.mpr ⟨List.forall_mem_append.mpr ⟨List.forall_mem_append.mpr ⟨List.forall_mem_append.mpr ⟨List.forall_mem_append.mpr ⟨List.forall_mem_append.mpr ⟨lwa_0, List.forall_mem_append.mpr ⟨lwa_1, List.forall_mem_append.mpr ⟨lwa_2, List.forall_mem_append.mpr ⟨lwa_3, List.forall_mem_append.mpr ⟨lwa_4, List.forall_mem_append.mpr ⟨lwa_5, List.forall_mem_append.mpr ⟨lwa_6, List.forall_mem_append.mpr ⟨lwa_7, List.forall_mem_append.mpr ⟨lwa_8, List.forall_mem_append.mpr ⟨lwa_9, List.forall_mem_append.mpr ⟨lwa_10, List.forall_mem_append.mpr ⟨lwa_11, List.forall_mem_append.mpr ⟨lwa_12, List.forall_mem_append.mpr ⟨lwa_13, List.forall_mem_append.mpr ⟨lwa_14, List.forall_mem_append.mpr ⟨lwa_15, List.forall_mem_append.mpr ⟨lwa_16, List.forall_mem_append.mpr ⟨lwa_17, List.forall_mem_append.mpr ⟨lwa_18, List.forall_mem_append.mpr ⟨lwa_19, List.forall_mem_append.mpr ⟨lwa_20, List.forall_mem_append.mpr ⟨lwa_21, List.forall_mem_append.mpr ⟨lwa_22, List.forall_mem_append.mpr ⟨lwa_23, List.forall_mem_append.mpr ⟨lwa_24, List.forall_mem_append.mpr ⟨lwa_25, List.forall_mem_append.mpr ⟨lwa_26, List.forall_mem_append.mpr ⟨lwa_27, List.forall_mem_append.mpr ⟨lwa_28, List.forall_mem_append.mpr ⟨lwa_29, List.forall_mem_append.mpr ⟨lwa_30, List.forall_mem_append.mpr ⟨lwa_31, List.forall_mem_append.mpr ⟨lwa_32, List.forall_mem_append.mpr ⟨lwa_33, List.forall_mem_append.mpr ⟨lwa_34, List.forall_mem_append.mpr ⟨lwa_35, List.forall_mem_append.mpr ⟨lwa_36, List.forall_mem_append.mpr ⟨lwa_37, List.forall_mem_append.mpr ⟨lwa_38, List.forall_mem_append.mpr ⟨lwa_39, List.forall_mem_append.mpr ⟨lwa_40, List.forall_mem_append.mpr ⟨lwa_41, List.forall_mem_append.mpr ⟨lwa_42, lwa_43⟩⟩⟩⟩⟩⟩⟩⟩⟩⟩⟩⟩⟩⟩⟩⟩⟩⟩⟩⟩⟩⟩⟩⟩⟩⟩⟩⟩⟩⟩⟩⟩⟩⟩⟩⟩⟩⟩⟩⟩⟩⟩⟩, lwa_44⟩, lwa_45⟩, lwa_46⟩, lwa_47⟩, lwa_48⟩, lwa_49⟩, lwa_50⟩, lwa_51⟩, lwa_52⟩, lwa_53⟩, lwa_54⟩, lwa_55⟩, lwa_56⟩, (fun _ h => absurd h List.not_mem_nil)⟩
set_option maxRecDepth 100000 in
theorem lwa_57 : ∀ w ∈ (vx_atM "java/lang/ArithmeticException" ["java/lang/RuntimeException", "java/lang/Exception"]).filter goodWord, w ∈ lw_tb2 := by decide +kernel
set_option maxRecDepth 100000 in
theorem lwa_58 : ∀ w ∈ (vx_atS RX10 107 "java/lang/UnsupportedOperationException" ["java/lang/RuntimeException", "java/lang/Exception"]).filter goodWord, w ∈ lw_tb2 := by decide +kernel
set_option maxRecDepth 100000 in
theorem lwa_59 : ∀ w ∈ (vx_atS RX10 152 "java/lang/IllegalArgumentException" ["java/lang/RuntimeException", "java/lang/Exception"]).filter goodWord, w ∈ lw_tb2 := by decide +kernel
set_option maxRecDepth 100000 in
theorem lwa_60 : ∀ w ∈ (vx_atS RX10 207 "java/lang/IndexOutOfBoundsException" ["java/lang/RuntimeException", "java/lang/Exception"]).filter goodWord, w ∈ lw_tb2 := by decide +kernel
set_option maxRecDepth 100000 in
theorem lwa_61 : ∀ w ∈ (vy_atN RX10 228).filter goodWord, w ∈ lw_tb2 := by decide +kernel
set_option maxRecDepth 100000 in
theorem lwa_62 : ∀ w ∈ (vx_atS RX10 325 "java/lang/IllegalStateException" ["java/lang/RuntimeException", "java/lang/Exception"]).filter goodWord, w ∈ lw_tb2 := by decide +kernel
set_option maxRecDepth 100000 in
theorem lwa_63 : ∀ w ∈ (vx_atS RX10 399 "java/lang/ArithmeticException" ["java/lang/RuntimeException", "java/lang/Exception"]).filter goodWord, w ∈ lw_tb2 := by decide +kernel
theorem lwa_all : ∀ w ∈ wsL_law, w ∈ lw_tb2 := List.forall_mem_append.mpr ⟨List.forall_mem_append.mpr ⟨List.forall_mem_append.mpr ⟨List.forall_mem_append.mpr ⟨List.forall_mem_append.mpr ⟨List.forall_mem_append.mpr ⟨List.forall_mem_append.mpr ⟨lwa_all0, lwa_57⟩, lwa_58⟩, lwa_59⟩, lwa_60⟩, lwa_61⟩, lwa_62⟩, lwa_63⟩
