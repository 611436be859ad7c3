theorem mem_pl {big ws : List Cond} (ps : List Nat) (hp : ws = ps.filterMap (fun i => big[i]?)) : ∀ w ∈ ws, w ∈ big := by
  intro w hw
  rw [hp] at hw
  obtain ⟨i, -, hi⟩ := List.mem_filterMap.mp hw
  exact List.mem_of_getElem? hi
set_option maxRecDepth 100000 in
theorem li_w_r1 : ∀ w ∈ wsL_law_r1, w ∈ lw_tbl := mem_pl [92, 93, 76, 1103, 1104, 85, 94, 95, 96, 97, 98, 99, 100, 101, 77, 350, 119, 120, 78, 351, 166, 167, 79, 352] (by decide +kernel)
set_option maxRecDepth 100000 in
theorem li_w_r2 : ∀ w ∈ wsL_law_r2, w ∈ lw_tbl := mem_pl [212, 213, 80, 353, 249, 354, 251, 252, 81, 356, 267, 268, 82, 357, 306, 307, 83, 358, 323, 324, 84, 359, 118, 360] (by decide +kernel)
set_option maxRecDepth 100000 in
theorem li_w_r3 : ∀ w ∈ wsL_law_r3, w ∈ lw_tbl := mem_pl [102, 103, 104, 105, 106, 108, 109, 121, 122, 123, 124, 125, 127, 129, 131, 168, 169, 170, 171, 181, 183, 185, 187, 211] (by decide +kernel)
set_option maxRecDepth 100000 in
theorem li_w_r4 : ∀ w ∈ wsL_law_r4, w ∈ lw_tbl := mem_pl [189, 191, 214, 215, 216, 217, 223, 227, 233, 236, 253, 254, 255, 256, 257, 258, 259, 269, 270, 271, 272, 273, 275, 277] (by decide +kernel)
set_option maxRecDepth 100000 in
theorem li_w_r5 : ∀ w ∈ wsL_law_r5, w ∈ lw_tbl := mem_pl [278, 279, 280, 308, 309, 310, 311, 312, 314, 325, 326, 327, 328, 333, 334, 335, 336, 1105, 1106, 1107, 1108, 1113, 1114, 1115] (by decide +kernel)
set_option maxRecDepth 100000 in
theorem li_w_r6 : ∀ w ∈ wsL_law_r6, w ∈ lw_tbl := mem_pl [1116, 1117, 1123, 1124, 1125, 1126, 1127, 1129, 1130, 1131, 1133, 1134, 1135, 1136, 1137, 1245, 1139, 1140, 1141, 1147, 1148, 1149, 1150, 1151] (by decide +kernel)
set_option maxRecDepth 100000 in
theorem li_w_r7 : ∀ w ∈ wsL_law_r7, w ∈ lw_tbl := mem_pl [1152, 387, 388, 389, 390, 361, 110, 219, 330, 180, 391, 392, 393, 394, 395, 396, 397, 398, 399, 400, 401, 402, 403, 404] (by decide +kernel)
set_option maxRecDepth 100000 in
theorem li_w_r8 : ∀ w ∈ wsL_law_r8, w ∈ lw_tbl := mem_pl [405, 406, 407, 408, 409, 410, 411, 412, 413, 415, 0, 416, 417, 418, 419, 420, 421, 422, 423, 139, 140, 141, 142, 138] (by decide +kernel)
set_option maxRecDepth 100000 in
theorem li_w_r9 : ∀ w ∈ wsL_law_r9, w ∈ lw_tbl := mem_pl [424, 426, 1, 427, 134, 136, 428, 430, 2, 431, 432, 434, 3, 435, 436, 438, 4, 439, 440, 442, 5, 443, 444, 446] (by decide +kernel)
set_option maxRecDepth 100000 in
theorem li_w_r10 : ∀ w ∈ wsL_law_r10, w ∈ lw_tbl := mem_pl [6, 447, 448, 449, 450, 451, 452, 453, 454, 455, 133, 172, 135, 175, 137, 179, 126, 128, 130, 132, 456, 458, 7, 459] (by decide +kernel)
set_option maxRecDepth 100000 in
theorem li_w_r11 : ∀ w ∈ wsL_law_r11, w ∈ lw_tbl := mem_pl [460, 461, 463, 8, 464, 465, 467, 9, 468, 469, 471, 10, 472, 355, 1246, 1247, 1248, 1249, 1118, 1120, 1110, 1121, 1111, 1122] (by decide +kernel)
set_option maxRecDepth 100000 in
theorem li_w_r12 : ∀ w ∈ wsL_law_r12, w ∈ lw_tbl := mem_pl [1112, 1128, 1132, 1146, 1250, 1251, 1252, 1253, 1254, 1255, 1256, 1257, 1259, 35, 1260, 1109, 1261, 1262, 1263, 1264, 1265, 1267, 36, 1268] (by decide +kernel)
set_option maxRecDepth 100000 in
theorem li_w_r13 : ∀ w ∈ wsL_law_r13, w ∈ lw_tbl := mem_pl [1269, 1271, 37, 1272, 1273, 1274, 1275, 1276, 1278, 38, 1279, 1119, 1280, 1282, 39, 1283, 1284, 1286, 40, 1287, 1288, 1290, 41, 1291] (by decide +kernel)
set_option maxRecDepth 100000 in
theorem li_w_r14 : ∀ w ∈ wsL_law_r14, w ∈ lw_tbl := mem_pl [1292, 1294, 42, 1295, 1296, 1297, 1299, 43, 1300, 1301, 1302, 1303, 473, 474, 475, 476, 182, 184, 186, 188, 190, 477, 478, 479] (by decide +kernel)
set_option maxRecDepth 100000 in
theorem li_w_r15 : ∀ w ∈ wsL_law_r15, w ∈ lw_tbl := mem_pl [480, 1304, 1305, 1306, 1307, 1308, 1310, 44, 1311, 481, 482, 483, 484, 485, 486, 487, 488, 1312, 1313, 1314, 1315, 489, 490, 491] (by decide +kernel)
set_option maxRecDepth 100000 in
theorem li_w_r16 : ∀ w ∈ wsL_law_r16, w ∈ lw_tbl := mem_pl [492, 493, 494, 495, 496, 497, 498, 499, 500, 501, 502, 503, 504, 505, 506, 507, 508, 509, 510, 511, 512, 513, 515, 11] (by decide +kernel)
set_option maxRecDepth 100000 in
theorem li_w_r17 : ∀ w ∈ wsL_law_r17, w ∈ lw_tbl := mem_pl [516, 517, 519, 12, 520, 1316, 1317, 1318, 1319, 1320, 1322, 45, 1323, 1324, 1326, 46, 1327, 1328, 1330, 47, 1331, 1332, 1334, 48] (by decide +kernel)
set_option maxRecDepth 100000 in
theorem li_w_r18 : ∀ w ∈ wsL_law_r18, w ∈ lw_tbl := mem_pl [1335, 1336, 1338, 49, 1339, 1340, 1342, 50, 1343, 521, 522, 523, 524, 525, 526, 527, 528, 1344, 1345, 1346, 1347, 529, 530, 531] (by decide +kernel)
set_option maxRecDepth 100000 in
theorem li_w_r19 : ∀ w ∈ wsL_law_r19, w ∈ lw_tbl := mem_pl [532, 177, 1348, 1349, 1350, 1351, 533, 534, 535, 536, 537, 538, 539, 540, 541, 542, 543, 220, 1352, 1353, 1354, 1355, 1356, 1357] (by decide +kernel)
set_option maxRecDepth 100000 in
theorem li_w_r20 : ∀ w ∈ wsL_law_r20, w ∈ lw_tbl := mem_pl [544, 545, 546, 547, 225, 231, 235, 237, 548, 549, 550, 551, 1358, 1359, 1360, 1361, 1362, 1364, 51, 1365, 1366, 1368, 52, 1369] (by decide +kernel)
set_option maxRecDepth 100000 in
theorem li_w_r21 : ∀ w ∈ wsL_law_r21, w ∈ lw_tbl := mem_pl [552, 553, 554, 555, 1370, 1371, 1372, 1373, 556, 557, 558, 559, 560, 561, 562, 563, 564, 565, 566, 567, 568, 570, 13, 571] (by decide +kernel)
set_option maxRecDepth 100000 in
theorem li_w_r22 : ∀ w ∈ wsL_law_r22, w ∈ lw_tbl := mem_pl [572, 574, 573, 86, 575, 87, 594, 595, 88, 604, 605, 89, 576, 577, 578, 579, 580, 581, 583, 596, 597, 598, 599, 606] (by decide +kernel)
set_option maxRecDepth 100000 in
theorem li_w_r23 : ∀ w ∈ wsL_law_r23, w ∈ lw_tbl := mem_pl [607, 608, 609, 614, 615, 616, 617, 1374, 1375, 1376, 1377, 1378, 1379, 1380, 1381, 1382, 618, 619, 620, 621, 586, 622, 624, 14] (by decide +kernel)
set_option maxRecDepth 100000 in
theorem li_w_r24 : ∀ w ∈ wsL_law_r24, w ∈ lw_tbl := mem_pl [625, 1383, 1384, 1385, 1386, 1387, 1389, 53, 1390, 626, 627, 628, 629, 582, 630, 631, 632, 640, 630, 633, 631, 634, 635, 636] (by decide +kernel)
set_option maxRecDepth 100000 in
theorem li_w_r25 : ∀ w ∈ wsL_law_r25, w ∈ lw_tbl := mem_pl [637, 638, 639, 641, 642, 643, 649, 641, 644, 642, 645, 646, 647, 584, 585, 648, 1391, 1392, 1393, 1394, 1399, 1400, 1395, 1397] (by decide +kernel)
set_option maxRecDepth 100000 in
theorem li_w_r26 : ∀ w ∈ wsL_law_r26, w ∈ lw_tbl := mem_pl [54, 1398, 650, 651, 652, 653, 654, 655, 656, 660, 677, 661, 661, 662, 663, 664, 668, 669, 670, 671, 675, 226, 178, 669] (by decide +kernel)
set_option maxRecDepth 100000 in
theorem li_w_r27 : ∀ w ∈ wsL_law_r27, w ∈ lw_tbl := mem_pl [672, 673, 674, 676, 662, 665, 666, 667, 654, 657, 658, 659, 678, 679, 680, 686, 678, 681, 682, 679, 683, 684, 685, 687] (by decide +kernel)
set_option maxRecDepth 100000 in
theorem li_w_r28 : ∀ w ∈ wsL_law_r28, w ∈ lw_tbl := mem_pl [688, 689, 693, 687, 690, 691, 692, 694, 695, 696, 700, 701, 694, 697, 698, 699, 1401, 1402, 1403, 1404, 1418, 1405, 1407, 55] (by decide +kernel)
set_option maxRecDepth 100000 in
theorem li_w_r29 : ∀ w ∈ wsL_law_r29, w ∈ lw_tbl := mem_pl [1408, 1417, 1409, 1411, 56, 1412, 1413, 1415, 57, 1416, 702, 703, 704, 705, 709, 706, 707, 708, 710, 711, 712, 716, 717, 718] (by decide +kernel)
set_option maxRecDepth 100000 in
theorem li_w_r30 : ∀ w ∈ wsL_law_r30, w ∈ lw_tbl := mem_pl [719, 742, 743, 734, 1611, 735, 232, 743, 1610, 1612, 1613, 717, 720, 718, 721, 722, 723, 230, 724, 725, 727, 728, 729, 730] (by decide +kernel)
set_option maxRecDepth 100000 in
theorem li_w_r31 : ∀ w ∈ wsL_law_r31, w ∈ lw_tbl := mem_pl [732, 733, 736, 737, 739, 740, 741, 744, 745, 746, 752, 744, 747, 745, 748, 749, 750, 751, 710, 713, 714, 715, 753, 753] (by decide +kernel)
set_option maxRecDepth 100000 in
theorem li_w_r32 : ∀ w ∈ wsL_law_r32, w ∈ lw_tbl := mem_pl [754, 755, 756, 757, 758, 90, 759, 760, 761, 762, 1419, 1420, 1421, 1422, 1138, 1423, 1424, 1425, 1426, 1427, 1429, 58, 1430, 1431] (by decide +kernel)
set_option maxRecDepth 100000 in
theorem li_w_r33 : ∀ w ∈ wsL_law_r33, w ∈ lw_tbl := mem_pl [1432, 1433, 763, 764, 765, 766, 767, 768, 769, 773, 774, 774, 767, 770, 771, 772, 1434, 1435, 1436, 1437, 775, 776, 777, 778] (by decide +kernel)
set_option maxRecDepth 100000 in
theorem li_w_r34 : ∀ w ∈ wsL_law_r34, w ∈ lw_tbl := mem_pl [779, 780, 781, 785, 786, 779, 782, 783, 784, 1438, 1439, 1440, 1441, 787, 788, 789, 790, 791, 793, 15, 794, 795, 796, 797] (by decide +kernel)
set_option maxRecDepth 100000 in
theorem li_w_r35 : ∀ w ∈ wsL_law_r35, w ∈ lw_tbl := mem_pl [798, 799, 801, 16, 802, 803, 804, 805, 806, 218, 224, 807, 808, 809, 810, 811, 812, 813, 814, 815, 816, 818, 17, 819] (by decide +kernel)
set_option maxRecDepth 100000 in
theorem li_w_r36 : ∀ w ∈ wsL_law_r36, w ∈ lw_tbl := mem_pl [820, 822, 18, 823, 824, 826, 19, 827, 828, 833, 834, 835, 829, 831, 20, 832, 836, 837, 838, 839, 840, 841, 842, 843] (by decide +kernel)
set_option maxRecDepth 100000 in
theorem li_w_r37 : ∀ w ∈ wsL_law_r37, w ∈ lw_tbl := mem_pl [1442, 1443, 1444, 1445, 1446, 1448, 59, 1449, 1450, 1452, 60, 1453, 1454, 1456, 61, 1457, 1458, 1460, 62, 1461, 844, 845, 846, 847] (by decide +kernel)
set_option maxRecDepth 100000 in
theorem li_w_r38 : ∀ w ∈ wsL_law_r38, w ∈ lw_tbl := mem_pl [848, 849, 850, 851, 852, 854, 21, 855, 1462, 1463, 1464, 1465, 1466, 856, 857, 858, 859, 860, 861, 862, 863, 865, 22, 866] (by decide +kernel)
set_option maxRecDepth 100000 in
theorem li_w_r39 : ∀ w ∈ wsL_law_r39, w ∈ lw_tbl := mem_pl [867, 869, 23, 870, 274, 871, 872, 873, 874, 875, 876, 877, 878, 879, 282, 283, 284, 880, 281, 881, 883, 24, 884, 221] (by decide +kernel)
set_option maxRecDepth 100000 in
theorem li_w_r40 : ∀ w ∈ wsL_law_r40, w ∈ lw_tbl := mem_pl [234, 885, 887, 25, 888, 229, 904, 905, 906, 889, 891, 26, 892, 903, 893, 895, 27, 896, 897, 898, 91, 899, 900, 901] (by decide +kernel)
set_option maxRecDepth 100000 in
theorem li_w_r41 : ∀ w ∈ wsL_law_r41, w ∈ lw_tbl := mem_pl [902, 1467, 1468, 1469, 1470, 1142, 1143, 1471, 1472, 1473, 1474, 1476, 63, 1477, 1478, 1480, 64, 1481, 1482, 1484, 65, 1485, 1486, 1488] (by decide +kernel)
set_option maxRecDepth 100000 in
theorem li_w_r42 : ∀ w ∈ wsL_law_r42, w ∈ lw_tbl := mem_pl [66, 1489, 1490, 1492, 67, 1493, 907, 908, 909, 910, 276, 1494, 1495, 1496, 1497, 911, 912, 913, 914, 174, 1498, 1499, 1500, 1501] (by decide +kernel)
set_option maxRecDepth 100000 in
theorem li_w_r43 : ∀ w ∈ wsL_law_r43, w ∈ lw_tbl := mem_pl [915, 916, 917, 918, 1502, 1503, 1504, 1505, 919, 920, 921, 922, 923, 925, 28, 926, 927, 928, 929, 930, 931, 932, 315, 176] (by decide +kernel)
set_option maxRecDepth 100000 in
theorem li_w_r44 : ∀ w ∈ wsL_law_r44, w ∈ lw_tbl := mem_pl [933, 934, 936, 29, 937, 173, 938, 940, 30, 941, 942, 1506, 1507, 1508, 1509, 1144, 1145, 1510, 1512, 68, 1513, 1514, 1515, 1516] (by decide +kernel)
set_option maxRecDepth 100000 in
theorem li_w_r45 : ∀ w ∈ wsL_law_r45, w ∈ lw_tbl := mem_pl [1517, 1519, 69, 1520, 1521, 1522, 1523, 1524, 1526, 70, 1527, 943, 944, 945, 946, 313, 1528, 1529, 1530, 1531, 947, 948, 949, 950] (by decide +kernel)
set_option maxRecDepth 100000 in
theorem li_w_r46 : ∀ w ∈ wsL_law_r46, w ∈ lw_tbl := mem_pl [951, 952, 953, 954, 329, 1532, 1533, 1534, 1535, 1536, 955, 956, 957, 958, 1537, 1538, 1539, 1540, 959, 960, 961, 962, 332, 963] (by decide +kernel)
set_option maxRecDepth 100000 in
theorem li_w_r47 : ∀ w ∈ wsL_law_r47, w ∈ lw_tbl := mem_pl [964, 965, 966, 331, 967, 969, 31, 970, 222, 228, 971, 972, 974, 32, 975, 976, 978, 33, 979, 980, 981, 982, 983, 984] (by decide +kernel)
set_option maxRecDepth 100000 in
theorem li_w_r48 : ∀ w ∈ wsL_law_r48, w ∈ lw_tbl := mem_pl [985, 986, 987, 1541, 1542, 1543, 1544, 1545, 1547, 71, 1548, 988, 989, 990, 991, 992, 993, 994, 995, 996, 1549, 1550, 1551, 1552] (by decide +kernel)
set_option maxRecDepth 100000 in
theorem li_w_r49 : ∀ w ∈ wsL_law_r49, w ∈ lw_tbl := mem_pl [1553, 997, 998, 999, 1000, 1001, 1002, 1003, 1004, 1005, 1554, 1555, 1556, 1557, 1006, 1007, 1008, 1009, 107, 1010, 1558, 1559, 1560, 1561] (by decide +kernel)
set_option maxRecDepth 100000 in
theorem li_w_r50 : ∀ w ∈ wsL_law_r50, w ∈ lw_tbl := mem_pl [1011, 1012, 1013, 1014, 1015, 1016, 1017, 1018, 1019, 1020, 1021, 1562, 1563, 1564, 1565, 1566, 1568, 72, 1569, 1022, 1023, 1024, 1025, 1026] (by decide +kernel)
set_option maxRecDepth 100000 in
theorem li_w_r51 : ∀ w ∈ wsL_law_r51, w ∈ lw_tbl := mem_pl [1570, 1571, 1572, 1573, 1574, 1576, 73, 1577, 1027, 1028, 1029, 1030, 1031, 1578, 1579, 1580, 1581, 1032, 1033, 1034, 1035, 1036, 1037, 1038] (by decide +kernel)
set_option maxRecDepth 100000 in
theorem li_w_r52 : ∀ w ∈ wsL_law_r52, w ∈ lw_tbl := mem_pl [1064, 1065, 1052, 1616, 1053, 1054, 1045, 1046, 1065, 1615, 1617, 1618, 1036, 1039, 1037, 1040, 1041, 1042, 1047, 1048, 1050, 1051, 1055, 1056] (by decide +kernel)
set_option maxRecDepth 100000 in
theorem li_w_r53 : ∀ w ∈ wsL_law_r53, w ∈ lw_tbl := mem_pl [1057, 1060, 1614, 613, 1061, 1062, 1063, 1582, 1583, 1584, 1585, 1586, 1588, 74, 1589, 1153, 1066, 1067, 1068, 1069, 1070, 1071, 1072, 1078] (by decide +kernel)
set_option maxRecDepth 100000 in
theorem li_w_r54 : ∀ w ∈ wsL_law_r54, w ∈ lw_tbl := mem_pl [1070, 1073, 1074, 1071, 1075, 1076, 1077, 1590, 1591, 1592, 1593, 1079, 1080, 1081, 1082, 594, 604, 1594, 1595, 1596, 1597, 1083, 1084, 1085] (by decide +kernel)
set_option maxRecDepth 100000 in
theorem li_w_r55 : ∀ w ∈ wsL_law_r55, w ∈ lw_tbl := mem_pl [1086, 1598, 1599, 1600, 1601, 1087, 1088, 1089, 1090, 1602, 1603, 1604, 1605, 1091, 1092, 1093, 1094, 1095, 1096, 1097, 1098, 1099, 1101, 34] (by decide +kernel)
set_option maxRecDepth 100000 in
theorem li_w_r56 : ∀ w ∈ wsL_law_r56, w ∈ lw_tbl := mem_pl [1102, 1606, 1607, 1608, 1609] (by decide +kernel)
set_option maxRecDepth 100000 in
theorem li_X0 : ∀ w ∈ wsX00, w ∈ lw_tbl := mem_pl [260, 262, 264] (by decide +kernel)
set_option maxRecDepth 100000 in
theorem li_X1 : ∀ w ∈ wsX10, w ∈ lw_tbl := mem_pl [587, 589, 591] (by decide +kernel)
set_option maxRecDepth 100000 in
theorem li_X2 : ∀ w ∈ wsX20, w ∈ lw_tbl := mem_pl [316, 318, 320] (by decide +kernel)
set_option maxRecDepth 100000 in
theorem li_X3 : ∀ w ∈ wsX30, w ∈ lw_tbl := mem_pl [192, 194, 196, 198, 200, 202, 204, 206, 208] (by decide +kernel)
set_option maxRecDepth 100000 in
theorem li_X4 : ∀ w ∈ wsX40, w ∈ lw_tbl := mem_pl [337, 339, 341, 343, 345, 347] (by decide +kernel)
set_option maxRecDepth 100000 in
theorem li_X5 : ∀ w ∈ wsX50, w ∈ lw_tbl := mem_pl [285, 287, 289, 291, 293, 295, 297, 299, 301, 303] (by decide +kernel)
set_option maxRecDepth 100000 in
theorem li_X6 : ∀ w ∈ wsX60, w ∈ lw_tbl := mem_pl [238, 240, 242, 244, 246] (by decide +kernel)
set_option maxRecDepth 100000 in
theorem li_X7 : ∀ w ∈ wsX70, w ∈ lw_tbl := mem_pl [600, 601, 602] (by decide +kernel)
set_option maxRecDepth 100000 in
theorem li_X8 : ∀ w ∈ wsX80, w ∈ lw_tbl := mem_pl [111, 113, 115] (by decide +kernel)
set_option maxRecDepth 100000 in
theorem li_X9 : ∀ w ∈ wsX90, w ∈ lw_tbl := mem_pl [610, 611, 612] (by decide +kernel)
set_option maxRecDepth 100000 in
theorem li_X10 : ∀ w ∈ wsX100, w ∈ lw_tbl := mem_pl [143, 145, 147, 149, 151, 153, 155, 157, 159, 161, 163] (by decide +kernel)
set_option maxRecDepth 100000 in
theorem li_X11 : ∀ w ∈ wsX110, w ∈ lw_tbl := mem_pl [362, 364, 366, 368, 370, 372, 374, 376, 378, 380, 382, 384] (by decide +kernel)
set_option maxRecDepth 100000 in
theorem li_X12 : ∀ w ∈ wsX120, w ∈ lw_tbl := mem_pl [1154, 1156, 1158, 1160, 1162, 1164, 1166, 1168, 1170, 1172, 1174, 1176, 1178, 1180, 1182, 1184, 1186, 1188, 1190, 1192, 1194, 1196, 1198, 1200, 1202, 1204, 1206, 1208, 1210, 1212, 1214, 1216, 1218, 1220, 1222, 1224, 1226, 1228, 1230, 1232, 1234, 1236, 1238, 1240, 1242] (by decide +kernel)
def wsL_law2 : List Cond := wsL_law ++ [Cond.methodLink RX9 7 ⟨"LampWays$Strong", "leave", "([II)V"⟩, Cond.sameMethod "LampWays$Strong" "LampWays$Chain" "leave" "([II)V", Cond.methodLink RX7 30 ⟨"LampWays$Ring", "leave", "([II)V"⟩, Cond.sameMethod "LampWays$Ring" "LampWays$Chain" "leave" "([II)V"]
set_option maxRecDepth 100000 in
theorem li_ext : ∀ w ∈ ([Cond.methodLink RX9 7 ⟨"LampWays$Strong", "leave", "([II)V"⟩, Cond.sameMethod "LampWays$Strong" "LampWays$Chain" "leave" "([II)V", Cond.methodLink RX7 30 ⟨"LampWays$Ring", "leave", "([II)V"⟩, Cond.sameMethod "LampWays$Ring" "LampWays$Chain" "leave" "([II)V"] : List Cond), w ∈ lw_tbl := mem_pl [1058, 1059, 1043, 1044] (by decide +kernel)
theorem li_law : ∀ w ∈ wsL_law2, w ∈ lw_tbl := fun w h => (List.mem_append.mp h).elim ((fun w h => (List.mem_append.mp h).elim ((fun w h => (List.mem_append.mp h).elim ((fun w h => (List.mem_append.mp h).elim ((fun w h => (List.mem_append.mp h).elim ((fun w h => (List.mem_append.mp h).elim ((fun w h => (List.mem_append.mp h).elim ((fun w h => (List.mem_append.mp h).elim ((fun w h => (List.mem_append.mp h).elim ((fun w h => (List.mem_append.mp h).elim ((fun w h => (List.mem_append.mp h).elim ((fun w h => (List.mem_append.mp h).elim ((fun w h => (List.mem_append.mp h).elim ((fun w h => (List.mem_append.mp h).elim ((fun w h => (List.mem_append.mp h).elim ((fun w h => (List.mem_append.mp h).elim (li_w_r1 w) ((fun w h => (List.mem_append.mp h).elim (li_w_r2 w) ((fun w h => (List.mem_append.mp h).elim (li_w_r3 w) ((fun w h => (List.mem_append.mp h).elim (li_w_r4 w) ((fun w h => (List.mem_append.mp h).elim (li_w_r5 w) ((fun w h => (List.mem_append.mp h).elim (li_w_r6 w) ((fun w h => (List.mem_append.mp h).elim (li_w_r7 w) ((fun w h => (List.mem_append.mp h).elim (li_w_r8 w) ((fun w h => (List.mem_append.mp h).elim (li_w_r9 w) ((fun w h => (List.mem_append.mp h).elim (li_w_r10 w) ((fun w h => (List.mem_append.mp h).elim (li_w_r11 w) ((fun w h => (List.mem_append.mp h).elim (li_w_r12 w) ((fun w h => (List.mem_append.mp h).elim (li_w_r13 w) ((fun w h => (List.mem_append.mp h).elim (li_w_r14 w) ((fun w h => (List.mem_append.mp h).elim (li_w_r15 w) ((fun w h => (List.mem_append.mp h).elim (li_w_r16 w) ((fun w h => (List.mem_append.mp h).elim (li_w_r17 w) ((fun w h => (List.mem_append.mp h).elim (li_w_r18 w) ((fun w h => (List.mem_append.mp h).elim (li_w_r19 w) ((fun w h => (List.mem_append.mp h).elim (li_w_r20 w) ((fun w h => (List.mem_append.mp h).elim (li_w_r21 w) ((fun w h => (List.mem_append.mp h).elim (li_w_r22 w) ((fun w h => (List.mem_append.mp h).elim (li_w_r23 w) ((fun w h => (List.mem_append.mp h).elim (li_w_r24 w) ((fun w h => (List.mem_append.mp h).elim (li_w_r25 w) ((fun w h => (List.mem_append.mp h).elim (li_w_r26 w) ((fun w h => (List.mem_append.mp h).elim (li_w_r27 w) ((fun w h => (List.mem_append.mp h).elim (li_w_r28 w) ((fun w h => (List.mem_append.mp h).elim (li_w_r29 w) ((fun w h => (List.mem_append.mp h).elim (li_w_r30 w) ((fun w h => (List.mem_append.mp h).elim (li_w_r31 w) ((fun w h => (List.mem_append.mp h).elim (li_w_r32 w) ((fun w h => (List.mem_append.mp h).elim (li_w_r33 w) ((fun w h => (List.mem_append.mp h).elim (li_w_r34 w) ((fun w h => (List.mem_append.mp h).elim (li_w_r35 w) ((fun w h => (List.mem_append.mp h).elim (li_w_r36 w) ((fun w h => (List.mem_append.mp h).elim (li_w_r37 w) ((fun w h => (List.mem_append.mp h).elim (li_w_r38 w) ((fun w h => (List.mem_append.mp h).elim (li_w_r39 w) ((fun w h => (List.mem_append.mp h).elim (li_w_r40 w) ((fun w h => (List.mem_append.mp h).elim (li_w_r41 w) ((fun w h => (List.mem_append.mp h).elim (li_w_r42 w) ((fun w h => (List.mem_append.mp h).elim (li_w_r43 w) ((fun w h => (List.mem_append.mp h).elim (li_w_r44 w) ((fun w h => (List.mem_append.mp h).elim (li_w_r45 w) ((fun w h => (List.mem_append.mp h).elim (li_w_r46 w) ((fun w h => (List.mem_append.mp h).elim (li_w_r47 w) ((fun w h => (List.mem_append.mp h).elim (li_w_r48 w) ((fun w h => (List.mem_append.mp h).elim (li_w_r49 w) ((fun w h => (List.mem_append.mp h).elim (li_w_r50 w) ((fun w h => (List.mem_append.mp h).elim (li_w_r51 w) ((fun w h => (List.mem_append.mp h).elim (li_w_r52 w) ((fun w h => (List.mem_append.mp h).elim (li_w_r53 w) ((fun w h => (List.mem_append.mp h).elim (li_w_r54 w) ((fun w h => (List.mem_append.mp h).elim (li_w_r55 w) (li_w_r56 w)) w)) w)) w)) w)) w)) w)) w)) w)) w)) w)) w)) w)) w)) w)) w)) w)) w)) w)) w)) w)) w)) w)) w)) w)) w)) w)) w)) w)) w)) w)) w)) w)) w)) w)) w)) w)) w)) w)) w)) w)) w)) w)) w)) w)) w)) w)) w)) w)) w)) w)) w)) w)) w)) w)) w) (li_X11 w)) w) (li_X12 w)) w) (li_X8 w)) w) (li_X10 w)) w) (li_X3 w)) w) (li_X6 w)) w) (li_X0 w)) w) (li_X5 w)) w) (li_X2 w)) w) (li_X4 w)) w) (li_X1 w)) w) (li_X7 w)) w) (li_X9 w)) w) ((fun _ h => absurd h List.not_mem_nil) w)) w) (li_ext w)
set_option maxRecDepth 100000 in
theorem hL_law_X11_tell : GoodIn wsL_law2 (wsV RL 157 RX11 yX11_tell wsX11_tell2) := gi_x (gi_l gL_law_X11_tell) (fun w hw => ⟨List.mem_append_right _ ((mem_pl (big := [Cond.methodLink RX9 7 ⟨"LampWays$Strong", "leave", "([II)V"⟩, Cond.sameMethod "LampWays$Strong" "LampWays$Chain" "leave" "([II)V", Cond.methodLink RX7 30 ⟨"LampWays$Ring", "leave", "([II)V"⟩, Cond.sameMethod "LampWays$Ring" "LampWays$Chain" "leave" "([II)V"]) (ws := [Cond.methodLink RX9 7 ⟨"LampWays$Strong", "leave", "([II)V"⟩, Cond.sameMethod "LampWays$Strong" "LampWays$Chain" "leave" "([II)V", Cond.methodLink RX7 30 ⟨"LampWays$Ring", "leave", "([II)V"⟩, Cond.sameMethod "LampWays$Ring" "LampWays$Chain" "leave" "([II)V"]) [0, 1, 2, 3] (by decide +kernel)) w hw), ((goodIn_of (big := [Cond.methodLink RX9 7 ⟨"LampWays$Strong", "leave", "([II)V"⟩, Cond.sameMethod "LampWays$Strong" "LampWays$Chain" "leave" "([II)V", Cond.methodLink RX7 30 ⟨"LampWays$Ring", "leave", "([II)V"⟩, Cond.sameMethod "LampWays$Ring" "LampWays$Chain" "leave" "([II)V"]) [Cond.methodLink RX9 7 ⟨"LampWays$Strong", "leave", "([II)V"⟩, Cond.sameMethod "LampWays$Strong" "LampWays$Chain" "leave" "([II)V", Cond.methodLink RX7 30 ⟨"LampWays$Ring", "leave", "([II)V"⟩, Cond.sameMethod "LampWays$Ring" "LampWays$Chain" "leave" "([II)V"] (by decide +kernel)) w hw).2⟩)
set_option maxRecDepth 100000 in
theorem hL_law_X11_label : GoodIn wsL_law2 (wsV RL 161 RX11 yX11_label wsX11_label2) := gi_x (gi_l gL_law_X11_label) (fun w hw => ⟨List.mem_append_right _ ((mem_pl (big := [Cond.methodLink RX9 7 ⟨"LampWays$Strong", "leave", "([II)V"⟩, Cond.sameMethod "LampWays$Strong" "LampWays$Chain" "leave" "([II)V", Cond.methodLink RX7 30 ⟨"LampWays$Ring", "leave", "([II)V"⟩, Cond.sameMethod "LampWays$Ring" "LampWays$Chain" "leave" "([II)V"]) (ws := [Cond.methodLink RX9 7 ⟨"LampWays$Strong", "leave", "([II)V"⟩, Cond.sameMethod "LampWays$Strong" "LampWays$Chain" "leave" "([II)V"]) [0, 1] (by decide +kernel)) w hw), ((goodIn_of (big := [Cond.methodLink RX9 7 ⟨"LampWays$Strong", "leave", "([II)V"⟩, Cond.sameMethod "LampWays$Strong" "LampWays$Chain" "leave" "([II)V"]) [Cond.methodLink RX9 7 ⟨"LampWays$Strong", "leave", "([II)V"⟩, Cond.sameMethod "LampWays$Strong" "LampWays$Chain" "leave" "([II)V"] (by decide +kernel)) w hw).2⟩)
