/-! ===== printed by program (wip/whole/gen/lay_law5.py): the law's words, its beginning ===== -/
set_option maxRecDepth 100000 in
theorem lwa_0 : ∀ w ∈ wsL_law0_r1, w ∈ lw_tbl := fun w h => (goodIn_r (big := lw_tbl) wsL_law0_r1 [97, 98, 68, 1325, 1326, 79, 1753, 1754, 99, 100, 101, 102, 103, 104, 105, 106, 69, 381, 281, 382, 283, 383, 289, 290] (by decide +kernel) (by decide +kernel) w h).1
set_option maxRecDepth 100000 in
theorem lwa_1 : ∀ w ∈ wsL_law0_r2, w ∈ lw_tbl := fun w h => (goodIn_r (big := lw_tbl) wsL_law0_r2 [75, 384, 309, 112, 70, 385, 311, 312, 76, 387, 364, 365, 78, 388, 379, 122, 71, 389, 108, 109, 110, 111, 280, 261] (by decide +kernel) (by decide +kernel) w h).1
set_option maxRecDepth 100000 in
theorem lwa_2 : ∀ w ∈ wsL_law0_r3, w ∈ lw_tbl := fun w h => (goodIn_r (big := lw_tbl) wsL_law0_r3 [262, 74, 282, 113, 114, 115, 116, 117, 215, 119, 221, 121, 227, 139, 72, 197, 73, 124, 125, 126, 138, 127, 130, 141] (by decide +kernel) (by decide +kernel) w h).1
set_option maxRecDepth 100000 in
theorem lwa_3 : ∀ w ∈ wsL_law0_r4, w ∈ lw_tbl := fun w h => (goodIn_r (big := lw_tbl) wsL_law0_r4 [142, 143, 164, 168, 171, 174, 199, 200, 201, 264, 265, 266, 291, 292, 293, 294, 295, 298, 297, 310, 313, 314, 315, 316] (by decide +kernel) (by decide +kernel) w h).1
set_option maxRecDepth 100000 in
theorem lwa_4 : ∀ w ∈ wsL_law0_r5, w ∈ lw_tbl := fun w h => (goodIn_r (big := lw_tbl) wsL_law0_r5 [340, 341, 317, 345, 349, 319, 77, 321, 322, 323, 326, 367, 368, 369, 370, 1327, 1328, 1329, 1330, 1331, 1332, 1333, 1335, 1337] (by decide +kernel) (by decide +kernel) w h).1
set_option maxRecDepth 100000 in
theorem lwa_5 : ∀ w ∈ wsL_law0_r6, w ∈ lw_tbl := fun w h => (goodIn_r (big := lw_tbl) wsL_law0_r6 [1339, 1343, 1346, 1349, 456, 457, 67, 458, 459, 460, 461, 462, 463, 464, 465, 466, 467, 299, 468, 437, 438, 439, 218, 224] (by decide +kernel) (by decide +kernel) w h).1
set_option maxRecDepth 100000 in
theorem lwa_6 : ∀ w ∈ wsL_law0_r7, w ∈ lw_tbl := fun w h => (goodIn_r (big := lw_tbl) wsL_law0_r7 [230, 233, 236, 239, 440, 441, 442, 443, 144, 149, 152, 156, 160, 444, 446, 445, 80, 447, 448, 449, 450, 202, 206, 451] (by decide +kernel) (by decide +kernel) w h).1
set_option maxRecDepth 100000 in
theorem lwa_7 : ∀ w ∈ wsL_law0_r8, w ∈ lw_tbl := fun w h => (goodIn_r (big := lw_tbl) wsL_law0_r8 [452, 453, 454, 455, 469, 470, 471, 472, 219, 216, 474, 475, 476, 477, 478, 479, 480, 481, 482, 267, 269, 271, 483, 484] (by decide +kernel) (by decide +kernel) w h).1
set_option maxRecDepth 100000 in
theorem lwa_8 : ∀ w ∈ wsL_law0_r9, w ∈ lw_tbl := fun w h => (goodIn_r (big := lw_tbl) wsL_law0_r9 [485, 486, 487, 488, 489, 490, 153, 491, 492, 81, 493, 494, 495, 496, 497, 498, 499, 500, 501, 503, 1, 504, 505, 85] (by decide +kernel) (by decide +kernel) w h).1
set_option maxRecDepth 100000 in
theorem lwa_9 : ∀ w ∈ wsL_law0_r10, w ∈ lw_tbl := fun w h => (goodIn_r (big := lw_tbl) wsL_law0_r10 [577, 578, 579, 580, 300, 581, 582, 86, 583, 1393, 1394, 1395, 1396, 1397, 1399, 22, 1400, 1401, 1402, 1403, 1404, 1406, 23, 1407] (by decide +kernel) (by decide +kernel) w h).1
set_option maxRecDepth 100000 in
theorem lwa_10 : ∀ w ∈ wsL_law0_r11, w ∈ lw_tbl := fun w h => (goodIn_r (big := lw_tbl) wsL_law0_r11 [1408, 1409, 1410, 1411, 1412, 1413, 1414, 1416, 24, 1417, 1340, 1341, 1342, 1418, 1420, 25, 1421, 1345, 1422, 1424, 26, 1425, 1426, 1427] (by decide +kernel) (by decide +kernel) w h).1
set_option maxRecDepth 100000 in
theorem lwa_11 : ∀ w ∈ wsL_law0_r12, w ∈ lw_tbl := fun w h => (goodIn_r (big := lw_tbl) wsL_law0_r12 [1428, 1429, 1431, 27, 1432, 1433, 1435, 28, 1436, 1334, 1389, 1390, 1391, 1392, 584, 585, 586, 587, 588, 589, 590, 591, 592, 593] (by decide +kernel) (by decide +kernel) w h).1
set_option maxRecDepth 100000 in
theorem lwa_12 : ∀ w ∈ wsL_law0_r13, w ∈ lw_tbl := fun w h => (goodIn_r (big := lw_tbl) wsL_law0_r13 [594, 157, 146, 166, 170, 172, 176, 595, 596, 597, 598, 600, 602, 3, 603, 605, 606, 607, 608, 1437, 1438, 1439, 1440, 1441] (by decide +kernel) (by decide +kernel) w h).1
set_option maxRecDepth 100000 in
theorem lwa_13 : ∀ w ∈ wsL_law0_r14, w ∈ lw_tbl := fun w h => (goodIn_r (big := lw_tbl) wsL_law0_r14 [1443, 29, 1444, 1445, 1447, 30, 1448, 1449, 1450, 1451, 609, 610, 611, 612, 613, 614, 615, 616, 617, 618, 619, 150, 620, 621] (by decide +kernel) (by decide +kernel) w h).1
set_option maxRecDepth 100000 in
theorem lwa_14 : ∀ w ∈ wsL_law0_r15, w ∈ lw_tbl := fun w h => (goodIn_r (big := lw_tbl) wsL_law0_r15 [622, 623, 624, 625, 626, 627, 1452, 1453, 1454, 1455, 1456, 1458, 31, 1459, 1460, 1462, 32, 1463, 1464, 1466, 33, 1467, 628, 629] (by decide +kernel) (by decide +kernel) w h).1
set_option maxRecDepth 100000 in
theorem lwa_15 : ∀ w ∈ wsL_law0_r16, w ∈ lw_tbl := fun w h => (goodIn_r (big := lw_tbl) wsL_law0_r16 [630, 631, 632, 633, 634, 1468, 1469, 1470, 1471, 635, 636, 637, 638, 639, 640, 641, 642, 643, 644, 645, 225, 222, 203, 207] (by decide +kernel) (by decide +kernel) w h).1
set_option maxRecDepth 100000 in
theorem lwa_16 : ∀ w ∈ wsL_law0_r17, w ∈ lw_tbl := fun w h => (goodIn_r (big := lw_tbl) wsL_law0_r17 [1472, 1473, 1474, 1475, 1476, 1478, 34, 1479, 646, 647, 648, 649, 650, 651, 652, 653, 654, 655, 656, 657, 658, 659, 660, 661] (by decide +kernel) (by decide +kernel) w h).1
set_option maxRecDepth 100000 in
theorem lwa_17 : ∀ w ∈ wsL_law0_r18, w ∈ lw_tbl := fun w h => (goodIn_r (big := lw_tbl) wsL_law0_r18 [663, 4, 664, 422, 423, 666, 1480, 1481, 1482, 1483, 1484, 1486, 35, 1487, 1488, 1490, 36, 1491, 667, 668, 669, 670, 671, 672] (by decide +kernel) (by decide +kernel) w h).1
set_option maxRecDepth 100000 in
theorem lwa_18 : ∀ w ∈ wsL_law0_r19, w ∈ lw_tbl := fun w h => (goodIn_r (big := lw_tbl) wsL_law0_r19 [673, 674, 675, 676, 677, 161, 228, 231, 234, 678, 679, 680, 681, 682, 683, 684, 685, 686, 687, 688, 689, 690, 691, 692] (by decide +kernel) (by decide +kernel) w h).1
set_option maxRecDepth 100000 in
theorem lwa_19 : ∀ w ∈ wsL_law0_r20, w ∈ lw_tbl := fun w h => (goodIn_r (big := lw_tbl) wsL_law0_r20 [693, 694, 695, 696, 697, 698, 699, 700, 701, 702, 418, 419, 420, 424, 426, 0, 427, 703, 704, 705, 706, 707, 1492, 1493] (by decide +kernel) (by decide +kernel) w h).1
set_option maxRecDepth 100000 in
theorem lwa_20 : ∀ w ∈ wsL_law0_r21, w ∈ lw_tbl := fun w h => (goodIn_r (big := lw_tbl) wsL_law0_r21 [1494, 1495, 1496, 1498, 37, 1499, 1500, 1502, 38, 1503, 1504, 1506, 39, 1507, 1508, 1510, 40, 1511, 1512, 1514, 41, 1515, 1516, 1518] (by decide +kernel) (by decide +kernel) w h).1
set_option maxRecDepth 100000 in
theorem lwa_21 : ∀ w ∈ wsL_law0_r22, w ∈ lw_tbl := fun w h => (goodIn_r (big := lw_tbl) wsL_law0_r22 [42, 1519, 1520, 1522, 43, 1523, 708, 709, 710, 711, 712, 713, 714, 715, 716, 717, 718, 237, 719, 720, 721, 722, 724, 725] (by decide +kernel) (by decide +kernel) w h).1
set_option maxRecDepth 100000 in
theorem lwa_22 : ∀ w ∈ wsL_law0_r23, w ∈ lw_tbl := fun w h => (goodIn_r (big := lw_tbl) wsL_law0_r23 [726, 727, 728, 729, 730, 731, 732, 733, 734, 735, 1524, 1525, 1526, 1527, 1528, 1530, 44, 1531, 1532, 1534, 45, 1535, 1536, 1538] (by decide +kernel) (by decide +kernel) w h).1
set_option maxRecDepth 100000 in
theorem lwa_23 : ∀ w ∈ wsL_law0_r24, w ∈ lw_tbl := fun w h => (goodIn_r (big := lw_tbl) wsL_law0_r24 [46, 1539, 736, 737, 738, 739, 740, 741, 742, 743, 744, 745, 746, 240, 747, 748, 749, 750, 1540, 1541, 1542, 1543, 1544, 1546] (by decide +kernel) (by decide +kernel) w h).1
set_option maxRecDepth 100000 in
theorem lwa_24 : ∀ w ∈ wsL_law0_r25, w ∈ lw_tbl := fun w h => (goodIn_r (big := lw_tbl) wsL_law0_r25 [47, 1547, 751, 752, 753, 754, 755, 756, 757, 758, 759, 760, 761, 154, 1548, 1549, 1550, 1551, 1552, 1554, 48, 1555, 762, 763] (by decide +kernel) (by decide +kernel) w h).1
set_option maxRecDepth 100000 in
theorem lwa_25 : ∀ w ∈ wsL_law0_r26, w ∈ lw_tbl := fun w h => (goodIn_r (big := lw_tbl) wsL_law0_r26 [764, 765, 766, 767, 768, 769, 770, 771, 772, 128, 131, 1556, 1557, 1558, 1559, 1560, 1562, 49, 1563, 773, 774, 775, 776, 777] (by decide +kernel) (by decide +kernel) w h).1
set_option maxRecDepth 100000 in
theorem lwa_26 : ∀ w ∈ wsL_law0_r27, w ∈ lw_tbl := fun w h => (goodIn_r (big := lw_tbl) wsL_law0_r27 [778, 779, 780, 781, 782, 783, 1564, 1565, 1566, 1567, 1568, 1570, 50, 1571, 784, 785, 786, 787, 811, 812, 813, 814, 815, 841] (by decide +kernel) (by decide +kernel) w h).1
set_option maxRecDepth 100000 in
theorem lwa_27 : ∀ w ∈ wsL_law0_r28, w ∈ lw_tbl := fun w h => (goodIn_r (big := lw_tbl) wsL_law0_r28 [90, 148, 151, 155, 159, 163, 816, 818, 5, 819, 821, 87, 217, 820, 834, 835, 836, 837, 838, 839, 840, 1572, 1573, 1574] (by decide +kernel) (by decide +kernel) w h).1
set_option maxRecDepth 100000 in
theorem lwa_28 : ∀ w ∈ wsL_law0_r29, w ∈ lw_tbl := fun w h => (goodIn_r (big := lw_tbl) wsL_law0_r29 [1575, 1576, 1578, 51, 1579, 857, 858, 859, 860, 861, 862, 863, 864, 167, 173, 177, 865, 867, 6, 868, 870, 91, 869, 886] (by decide +kernel) (by decide +kernel) w h).1
set_option maxRecDepth 100000 in
theorem lwa_29 : ∀ w ∈ wsL_law0_r30, w ∈ lw_tbl := fun w h => (goodIn_r (big := lw_tbl) wsL_law0_r30 [887, 1580, 1581, 1582, 1583, 889, 890, 891, 892, 893, 894, 895, 204, 208, 896, 898, 7, 899, 223, 900, 902, 903, 904, 905] (by decide +kernel) (by decide +kernel) w h).1
set_option maxRecDepth 100000 in
theorem lwa_30 : ∀ w ∈ wsL_law0_r31, w ∈ lw_tbl := fun w h => (goodIn_r (big := lw_tbl) wsL_law0_r31 [906, 158, 907, 908, 909, 910, 911, 1584, 1585, 1586, 1587, 1588, 1590, 52, 1591, 913, 914, 915, 916, 917, 918, 919, 1592, 1593] (by decide +kernel) (by decide +kernel) w h).1
set_option maxRecDepth 100000 in
theorem lwa_31 : ∀ w ∈ wsL_law0_r32, w ∈ lw_tbl := fun w h => (goodIn_r (big := lw_tbl) wsL_law0_r32 [1594, 1595, 920, 921, 922, 923, 924, 925, 926, 927, 928, 929, 930, 1596, 1597, 1598, 1599, 1600, 931, 932, 933, 934, 935, 936] (by decide +kernel) (by decide +kernel) w h).1
set_option maxRecDepth 100000 in
theorem lwa_32 : ∀ w ∈ wsL_law0_r33, w ∈ lw_tbl := fun w h => (goodIn_r (big := lw_tbl) wsL_law0_r33 [937, 938, 939, 940, 941, 209, 205, 942, 1601, 1602, 1603, 1604, 943, 944, 945, 946, 947, 948, 949, 950, 952, 8, 953, 955] (by decide +kernel) (by decide +kernel) w h).1
set_option maxRecDepth 100000 in
theorem lwa_33 : ∀ w ∈ wsL_law0_r34, w ∈ lw_tbl := fun w h => (goodIn_r (big := lw_tbl) wsL_law0_r34 [1605, 1606, 1607, 1608, 956, 957, 958, 959, 960, 961, 962, 226, 964, 965, 966, 1609, 1610, 1611, 1612, 1613, 1615, 53, 1616, 967] (by decide +kernel) (by decide +kernel) w h).1
set_option maxRecDepth 100000 in
theorem lwa_34 : ∀ w ∈ wsL_law0_r35, w ∈ lw_tbl := fun w h => (goodIn_r (big := lw_tbl) wsL_law0_r35 [968, 969, 970, 971, 972, 973, 974, 1617, 1618, 1619, 1620, 976, 977, 978, 979, 980, 981, 982, 1621, 1622, 1623, 1624, 1625, 1627] (by decide +kernel) (by decide +kernel) w h).1
set_option maxRecDepth 100000 in
theorem lwa_35 : ∀ w ∈ wsL_law0_r36, w ∈ lw_tbl := fun w h => (goodIn_r (big := lw_tbl) wsL_law0_r36 [54, 1628, 983, 984, 985, 986, 987, 988, 989, 229, 990, 1629, 1630, 1631, 1632, 991, 992, 993, 994, 995, 996, 997, 998, 999] (by decide +kernel) (by decide +kernel) w h).1
set_option maxRecDepth 100000 in
theorem lwa_36 : ∀ w ∈ wsL_law0_r37, w ∈ lw_tbl := fun w h => (goodIn_r (big := lw_tbl) wsL_law0_r37 [1633, 1634, 1635, 1636, 1637, 1639, 55, 1640, 1000, 1001, 1002, 1003, 1004, 1005, 1006, 129, 1641, 1642, 1643, 1644, 1007, 1008, 1009, 1010] (by decide +kernel) (by decide +kernel) w h).1
set_option maxRecDepth 100000 in
theorem lwa_37 : ∀ w ∈ wsL_law0_r38, w ∈ lw_tbl := fun w h => (goodIn_r (big := lw_tbl) wsL_law0_r38 [1011, 1012, 1013, 132, 1645, 1646, 1647, 1648, 1014, 1015, 1016, 1017, 1018, 1019, 1020, 1021, 1023, 1649, 1650, 1651, 1652, 1024, 1025, 1026] (by decide +kernel) (by decide +kernel) w h).1
set_option maxRecDepth 100000 in
theorem lwa_38 : ∀ w ∈ wsL_law0_r39, w ∈ lw_tbl := fun w h => (goodIn_r (big := lw_tbl) wsL_law0_r39 [1027, 1028, 1029, 1030, 220, 1032, 1034, 9, 1035, 1036, 1038, 10, 1039, 1653, 1654, 1655, 1656, 1657, 1659, 56, 1660, 409, 410, 411] (by decide +kernel) (by decide +kernel) w h).1
set_option maxRecDepth 100000 in
theorem lwa_39 : ∀ w ∈ wsL_law0_r40, w ∈ lw_tbl := fun w h => (goodIn_r (big := lw_tbl) wsL_law0_r40 [412, 413, 414, 415, 416, 162, 417, 1661, 1662, 1663, 1664, 1041, 1042, 1043, 1044, 1045, 1046, 1047, 1048, 1053, 92, 1049, 1050, 1051] (by decide +kernel) (by decide +kernel) w h).1
set_option maxRecDepth 100000 in
theorem lwa_40 : ∀ w ∈ wsL_law0_r41, w ∈ lw_tbl := fun w h => (goodIn_r (big := lw_tbl) wsL_law0_r41 [1052, 342, 1069, 1070, 1071, 1072, 1073, 1665, 1666, 1667, 1668, 1338, 1074, 1075, 1076, 1077, 1078, 1079, 1080, 350, 272, 348, 1081, 1082] (by decide +kernel) (by decide +kernel) w h).1
set_option maxRecDepth 100000 in
theorem lwa_41 : ∀ w ∈ wsL_law0_r42, w ∈ lw_tbl := fun w h => (goodIn_r (big := lw_tbl) wsL_law0_r42 [1083, 1084, 344, 347, 1085, 1087, 11, 1088, 1089, 1091, 12, 1092, 1093, 1094, 1095, 1104, 1105, 1106, 89, 1107, 1778, 1108, 1109, 1110] (by decide +kernel) (by decide +kernel) w h).1
set_option maxRecDepth 100000 in
theorem lwa_42 : ∀ w ∈ wsL_law0_r43, w ∈ lw_tbl := fun w h => (goodIn_r (big := lw_tbl) wsL_law0_r43 [1111, 324, 328, 329, 1112, 1113, 1114, 1115, 1116, 1117, 1118, 1119, 1120, 1779, 1122, 1123, 1124, 1125, 1126, 1127, 1128, 1129, 1130, 1131] (by decide +kernel) (by decide +kernel) w h).1
set_option maxRecDepth 100000 in
theorem lwa_43 : ∀ w ∈ wsL_law0_r44, w ∈ lw_tbl := fun w h => (goodIn_r (big := lw_tbl) wsL_law0_r44 [93, 1132, 1133, 1134, 1135, 1136, 1138, 1139, 94, 1140, 1141, 1142, 95, 1143, 1144, 1145, 1146, 1147, 1148, 1149, 1150, 1151, 1152, 1153] (by decide +kernel) (by decide +kernel) w h).1
set_option maxRecDepth 100000 in
theorem lwa_44 : ∀ w ∈ wsL_law0_r45, w ∈ lw_tbl := fun w h => (goodIn_r (big := lw_tbl) wsL_law0_r45 [1154, 1156, 1158, 1160, 1162, 13, 1163, 1164, 1166, 14, 1167, 1168, 1170, 15, 1171, 1172, 1173, 1174, 1175, 1176, 1178, 16, 1179, 1180] (by decide +kernel) (by decide +kernel) w h).1
set_option maxRecDepth 100000 in
theorem lwa_45 : ∀ w ∈ wsL_law0_r46, w ∈ lw_tbl := fun w h => (goodIn_r (big := lw_tbl) wsL_law0_r46 [1181, 1182, 1183, 1184, 1186, 17, 1187, 1189, 1191, 18, 1192, 346, 1193, 1195, 19, 1196, 327, 325, 330, 1197, 1198, 1199, 1200, 1669] (by decide +kernel) (by decide +kernel) w h).1
set_option maxRecDepth 100000 in
theorem lwa_46 : ∀ w ∈ wsL_law0_r47, w ∈ lw_tbl := fun w h => (goodIn_r (big := lw_tbl) wsL_law0_r47 [1670, 1671, 1672, 1347, 1348, 1673, 1675, 57, 1676, 1677, 1679, 58, 1680, 1681, 1683, 59, 1684, 1685, 1687, 60, 1688, 1689, 1691, 61] (by decide +kernel) (by decide +kernel) w h).1
set_option maxRecDepth 100000 in
theorem lwa_47 : ∀ w ∈ wsL_law0_r48, w ∈ lw_tbl := fun w h => (goodIn_r (big := lw_tbl) wsL_law0_r48 [1692, 1693, 1695, 62, 1696, 1697, 1699, 63, 1700, 428, 429, 430, 431, 1701, 1702, 1703, 1704, 1202, 1203, 1204, 1205, 1206, 1207, 1208] (by decide +kernel) (by decide +kernel) w h).1
set_option maxRecDepth 100000 in
theorem lwa_48 : ∀ w ∈ wsL_law0_r49, w ∈ lw_tbl := fun w h => (goodIn_r (big := lw_tbl) wsL_law0_r49 [268, 270, 1705, 1706, 1707, 1708, 1211, 1212, 1213, 1214, 1215, 1216, 1217, 373, 1218, 1219, 1220, 1221, 372, 145, 1222, 1223, 1225, 20] (by decide +kernel) (by decide +kernel) w h).1
set_option maxRecDepth 100000 in
theorem lwa_49 : ∀ w ∈ wsL_law0_r50, w ∈ lw_tbl := fun w h => (goodIn_r (big := lw_tbl) wsL_law0_r50 [1226, 1227, 1229, 21, 1230, 165, 169, 175, 1231, 1709, 1710, 1711, 1712, 1344, 1713, 1715, 64, 1716, 1232, 1233, 1234, 1235, 1236, 1237] (by decide +kernel) (by decide +kernel) w h).1
set_option maxRecDepth 100000 in
theorem lwa_50 : ∀ w ∈ wsL_law0_r51, w ∈ lw_tbl := fun w h => (goodIn_r (big := lw_tbl) wsL_law0_r51 [1238, 371, 1717, 1718, 1719, 1720, 1240, 1241, 1242, 1243, 1257, 1258, 1259, 1260, 1261, 96, 1264, 1265, 1266, 1267, 147, 1721, 1722, 1723] (by decide +kernel) (by decide +kernel) w h).1
set_option maxRecDepth 100000 in
theorem lwa_51 : ∀ w ∈ wsL_law0_r52, w ∈ lw_tbl := fun w h => (goodIn_r (big := lw_tbl) wsL_law0_r52 [1724, 1725, 1727, 65, 1728, 1268, 1269, 1270, 1271, 1272, 1273, 1274, 1275, 1276, 1277, 1278, 1279, 1281, 1282, 1283, 1284, 1729, 1730, 1731] (by decide +kernel) (by decide +kernel) w h).1
set_option maxRecDepth 100000 in
theorem lwa_52 : ∀ w ∈ wsL_law0_r53, w ∈ lw_tbl := fun w h => (goodIn_r (big := lw_tbl) wsL_law0_r53 [1732, 1285, 1286, 1287, 1288, 1289, 1290, 1291, 232, 235, 238, 241, 301, 343, 1292, 1293, 1294, 1295, 1296, 1297, 1298, 1299, 1733, 1734] (by decide +kernel) (by decide +kernel) w h).1
set_option maxRecDepth 100000 in
theorem lwa_53 : ∀ w ∈ wsL_law0_r54, w ∈ lw_tbl := fun w h => (goodIn_r (big := lw_tbl) wsL_law0_r54 [1735, 1736, 1737, 1739, 66, 1740, 1301, 1302, 1303, 1304, 1305, 1306, 1307, 1309, 1310, 1311, 1312, 1741, 1742, 1743, 1744, 432, 433, 434] (by decide +kernel) (by decide +kernel) w h).1
set_option maxRecDepth 100000 in
theorem lwa_54 : ∀ w ∈ wsL_law0_r55, w ∈ lw_tbl := fun w h => (goodIn_r (big := lw_tbl) wsL_law0_r55 [435, 386, 436, 1745, 1746, 1747, 1748, 1336, 1313, 1314, 1315, 1316, 1317, 1318, 1319, 1321, 1322, 1323, 1324, 1749, 1750, 1751, 1752] (by decide +kernel) (by decide +kernel) w h).1
set_option maxRecDepth 100000 in
theorem lwa_55 : ∀ w ∈ wsX100, w ∈ lw_tbl := fun w h => (goodIn_r (big := lw_tbl) wsX100 [390, 392, 394, 396, 398, 400, 402, 404, 406] (by decide +kernel) (by decide +kernel) w h).1
set_option maxRecDepth 100000 in
theorem lwa_56 : ∀ w ∈ wsX110, w ∈ lw_tbl := fun w h => (goodIn_r (big := lw_tbl) wsX110 [1350, 1352, 1354, 1356, 1358, 1360, 1362, 1364, 1366, 1368, 1370, 1372, 1374, 1376, 1378, 1380, 1382, 1384, 1386] (by decide +kernel) (by decide +kernel) w h).1
set_option maxRecDepth 100000 in
theorem lwa_57 : ∀ w ∈ wsX10, w ∈ lw_tbl := fun w h => (goodIn_r (big := lw_tbl) wsX10 [284, 286] (by decide +kernel) (by decide +kernel) w h).1
set_option maxRecDepth 100000 in
theorem lwa_58 : ∀ w ∈ wsX40, w ∈ lw_tbl := fun w h => (goodIn_r (big := lw_tbl) wsX40 [302, 304, 306] (by decide +kernel) (by decide +kernel) w h).1
set_option maxRecDepth 100000 in
theorem lwa_59 : ∀ w ∈ wsX00, w ∈ lw_tbl := fun w h => (goodIn_r (big := lw_tbl) wsX00 [242, 244, 246, 248, 250, 252, 254, 256, 258] (by decide +kernel) (by decide +kernel) w h).1
set_option maxRecDepth 100000 in
theorem lwa_60 : ∀ w ∈ wsX80, w ∈ lw_tbl := fun w h => (goodIn_r (big := lw_tbl) wsX80 [351, 353, 355, 357, 359, 361] (by decide +kernel) (by decide +kernel) w h).1
set_option maxRecDepth 100000 in
theorem lwa_61 : ∀ w ∈ wsX60, w ∈ lw_tbl := fun w h => (goodIn_r (big := lw_tbl) wsX60 [374, 376] (by decide +kernel) (by decide +kernel) w h).1
set_option maxRecDepth 100000 in
theorem lwa_62 : ∀ w ∈ wsX90, w ∈ lw_tbl := fun w h => (goodIn_r (big := lw_tbl) wsX90 [133, 135] (by decide +kernel) (by decide +kernel) w h).1
set_option maxRecDepth 100000 in
theorem lwa_63 : ∀ w ∈ wsX70, w ∈ lw_tbl := fun w h => (goodIn_r (big := lw_tbl) wsX70 [273, 275, 277] (by decide +kernel) (by decide +kernel) w h).1
set_option maxRecDepth 100000 in
theorem lwa_64 : ∀ w ∈ wsX50, w ∈ lw_tbl := fun w h => (goodIn_r (big := lw_tbl) wsX50 [178, 180, 182, 184, 186, 188, 190, 192, 194] (by decide +kernel) (by decide +kernel) w h).1
set_option maxRecDepth 100000 in
theorem lwa_65 : ∀ w ∈ wsX30, w ∈ lw_tbl := fun w h => (goodIn_r (big := lw_tbl) wsX30 [210, 212] (by decide +kernel) (by decide +kernel) w h).1
set_option maxRecDepth 100000 in
theorem lwa_66 : ∀ w ∈ wsX20, w ∈ lw_tbl := fun w h => (goodIn_r (big := lw_tbl) wsX20 [331, 333, 335, 337] (by decide +kernel) (by decide +kernel) w h).1
set_option maxRecDepth 100000 in
theorem lwa_67 : ∀ w ∈ wsJ00, w ∈ lw_tbl := fun w h => (goodIn_r (big := lw_tbl) wsJ00 [807, 809] (by decide +kernel) (by decide +kernel) w h).1
theorem lwa_all0 : ∀ w ∈ wsL_law0, w ∈ lw_tbl := List.forall_mem_append.mpr ⟨List.forall_mem_append.mpr ⟨List.forall_mem_append.mpr ⟨List.forall_mem_append.mpr ⟨List.forall_mem_append.mpr ⟨List.forall_mem_append.mpr ⟨List.forall_mem_append.mpr ⟨List.forall_mem_append.mpr ⟨List.forall_mem_append.mpr ⟨List.forall_mem_append.mpr ⟨List.forall_mem_append.mpr ⟨List.forall_mem_append.mpr ⟨List.forall_mem_append.mpr ⟨List.forall_mem_append.mpr ⟨List.forall_mem_append.mpr ⟨lwa_0, List.forall_mem_append.mpr ⟨lwa_1, List.forall_mem_append.mpr ⟨lwa_2, List.forall_mem_append.mpr ⟨lwa_3, List.forall_mem_append.mpr ⟨lwa_4, List.forall_mem_append.mpr ⟨lwa_5, List.forall_mem_append.mpr ⟨lwa_6, List.forall_mem_append.mpr ⟨lwa_7, List.forall_mem_append.mpr ⟨lwa_8, List.forall_mem_append.mpr ⟨lwa_9, List.forall_mem_append.mpr ⟨lwa_10, List.forall_mem_append.mpr ⟨lwa_11, List.forall_mem_append.mpr ⟨lwa_12, List.forall_mem_append.mpr ⟨lwa_13, List.forall_mem_append.mpr ⟨lwa_14, List.forall_mem_append.mpr ⟨lwa_15, List.forall_mem_append.mpr ⟨lwa_16, List.forall_mem_append.mpr ⟨lwa_17, List.forall_mem_append.mpr ⟨lwa_18, List.forall_mem_append.mpr ⟨lwa_19, List.forall_mem_append.mpr ⟨lwa_20, List.forall_mem_append.mpr ⟨lwa_21, List.forall_mem_append.mpr ⟨lwa_22, List.forall_mem_append.mpr ⟨lwa_23, List.forall_mem_append.mpr ⟨lwa_24, List.forall_mem_append.mpr ⟨lwa_25, List.forall_mem_append.mpr ⟨lwa_26, List.forall_mem_append.mpr ⟨lwa_27, List.forall_mem_append.mpr ⟨lwa_28, List.forall_mem_append.mpr ⟨lwa_29, List.forall_mem_append.mpr ⟨lwa_30, List.forall_mem_append.mpr ⟨lwa_31, List.forall_mem_append.mpr ⟨lwa_32, List.forall_mem_append.mpr ⟨lwa_33, List.forall_mem_append.mpr ⟨lwa_34, List.forall_mem_append.mpr ⟨lwa_35, List.forall_mem_append.mpr ⟨lwa_36, List.forall_mem_append.mpr ⟨lwa_37, List.forall_mem_append.mpr ⟨lwa_38, List.forall_mem_append.mpr ⟨lwa_39, List.forall_mem_append.mpr ⟨lwa_40, List.forall_mem_append.mpr ⟨lwa_41, List.forall_mem_append.mpr ⟨lwa_42, List.forall_mem_append.mpr ⟨lwa_43, List.forall_mem_append.mpr ⟨lwa_44, List.forall_mem_append.mpr ⟨lwa_45, List.forall_mem_append.mpr ⟨lwa_46, List.forall_mem_append.mpr ⟨lwa_47, List.forall_mem_append.mpr ⟨lwa_48, List.forall_mem_append.mpr ⟨lwa_49, List.forall_mem_append.mpr ⟨lwa_50, List.forall_mem_append.mpr ⟨lwa_51, List.forall_mem_append.mpr ⟨lwa_52, List.forall_mem_append.mpr ⟨lwa_53, lwa_54⟩⟩⟩⟩⟩⟩⟩⟩⟩⟩⟩⟩⟩⟩⟩⟩⟩⟩⟩⟩⟩⟩⟩⟩⟩⟩⟩⟩⟩⟩⟩⟩⟩⟩⟩⟩⟩⟩⟩⟩⟩⟩⟩⟩⟩⟩⟩⟩⟩⟩⟩⟩⟩⟩, lwa_55⟩, lwa_56⟩, lwa_57⟩, lwa_58⟩, lwa_59⟩, lwa_60⟩, lwa_61⟩, lwa_62⟩, lwa_63⟩, lwa_64⟩, lwa_65⟩, lwa_66⟩, lwa_67⟩, (fun _ h => absurd h List.not_mem_nil)⟩
set_option maxRecDepth 100000 in
theorem lwa_68 : ∀ w ∈ (vx_atM "java/lang/ArrayIndexOutOfBoundsException" ["java/lang/IndexOutOfBoundsException", "java/lang/RuntimeException", "java/lang/Exception"]).filter goodWord, w ∈ lw_tbl := by decide +kernel
set_option maxRecDepth 100000 in
theorem lwa_69 : ∀ w ∈ (vx_atS RX10 107 "java/lang/UnsupportedOperationException" ["java/lang/RuntimeException", "java/lang/Exception"]).filter goodWord, w ∈ lw_tbl := by decide +kernel
set_option maxRecDepth 100000 in
theorem lwa_70 : ∀ w ∈ (vx_atS RX10 152 "java/lang/IllegalArgumentException" ["java/lang/RuntimeException", "java/lang/Exception"]).filter goodWord, w ∈ lw_tbl := by decide +kernel
set_option maxRecDepth 100000 in
theorem lwa_71 : ∀ w ∈ (vx_atS RX10 207 "java/lang/IndexOutOfBoundsException" ["java/lang/RuntimeException", "java/lang/Exception"]).filter goodWord, w ∈ lw_tbl := by decide +kernel
set_option maxRecDepth 100000 in
theorem lwa_72 : ∀ w ∈ (vy_atN RX10 228).filter goodWord, w ∈ lw_tbl := by decide +kernel
set_option maxRecDepth 100000 in
theorem lwa_73 : ∀ w ∈ (vx_atS RX10 325 "java/lang/IllegalStateException" ["java/lang/RuntimeException", "java/lang/Exception"]).filter goodWord, w ∈ lw_tbl := by decide +kernel
set_option maxRecDepth 100000 in
theorem lwa_74 : ∀ w ∈ (vx_atS RX10 399 "java/lang/ArithmeticException" ["java/lang/RuntimeException", "java/lang/Exception"]).filter goodWord, w ∈ lw_tbl := by decide +kernel
theorem lwa_all : ∀ w ∈ wsL_law, w ∈ lw_tbl := List.forall_mem_append.mpr ⟨List.forall_mem_append.mpr ⟨List.forall_mem_append.mpr ⟨List.forall_mem_append.mpr ⟨List.forall_mem_append.mpr ⟨List.forall_mem_append.mpr ⟨List.forall_mem_append.mpr ⟨lwa_all0, lwa_68⟩, lwa_69⟩, lwa_70⟩, lwa_71⟩, lwa_72⟩, lwa_73⟩, lwa_74⟩
