/-! the words lie in the tables, and are good ones -/
theorem goodIn_r {big : List Jvm.Cond} (ws : List Jvm.Cond) (ps : List Nat) (hp : ws = ps.filterMap (fun i => big[i]?)) (h : ws.all goodWord = true) : GoodIn big ws := by
  intro w hw
  have h1 := List.all_eq_true.mp h w hw
  rw [hp] at hw
  obtain ⟨i, -, hi⟩ := List.mem_filterMap.mp hw
  exact ⟨List.mem_of_getElem? hi, good_of_word h1⟩
set_option maxRecDepth 20000 in
theorem wo_0_0_in : GoodIn lw_tbl wo_0_0 := goodIn_r wo_0_0 [323, 119, 120, 161, 324, 325, 326, 328, 959, 594, 595, 101, 964, 965, 106, 258, 173, 266, 149, 960, 962, 31] rfl rfl
set_option maxRecDepth 20000 in
theorem wo_1_0_in : GoodIn lw_tbl wo_1_0 := goodIn_r wo_1_0 [144, 142, 143, 138, 119, 120, 139, 140, 102, 141, 161, 533, 494, 495, 101, 538, 539, 540, 1201, 458, 459, 1202, 1204, 1203, 112] rfl rfl
set_option maxRecDepth 20000 in
theorem wo_2_0_in : GoodIn lw_tbl wo_2_0 := goodIn_r wo_2_0 [377, 119, 120, 161, 378, 379, 162, 380, 381, 1119, 458, 102, 459, 1107, 985, 111, 1110, 140, 141, 1115, 1117, 40, 109, 1105, 611, 612, 100, 1106, 564, 565, 1108, 1109, 758, 759, 1111, 1113, 39, 1120] rfl rfl
set_option maxRecDepth 20000 in
theorem wo_3_0_in : GoodIn lw_tbl wo_3_0 := goodIn_r wo_3_0 [165, 614, 594, 595, 101, 615, 140, 102, 141, 172, 562, 539, 540, 179, 620, 611, 612, 100, 184, 995, 758, 759, 588, 564, 565, 996, 132, 119, 120, 162, 163, 133, 134, 135, 136, 170, 161, 180, 186, 189, 192, 145, 486, 487, 111, 529, 530, 531, 534, 535, 536, 558, 559, 560, 584, 586, 18] rfl rfl
set_option maxRecDepth 20000 in
theorem wo_5_0_in : GoodIn lw_tbl wo_5_0 := goodIn_r wo_5_0 [313, 119, 120, 161, 314, 257, 830, 594, 595, 101, 831, 807, 808, 103, 824, 487, 111, 147, 825, 637, 638, 826, 828, 28, 105, 182, 842, 844, 29, 846, 458, 102, 459, 941, 821, 822, 942, 839, 840, 836, 611, 612, 100, 837, 811, 812, 895, 896, 897] rfl rfl
set_option maxRecDepth 20000 in
theorem wo_6_0_in : GoodIn lw_tbl wo_6_0 := goodIn_r wo_6_0 [255, 593, 594, 595, 101, 640, 642, 19, 103, 668, 669, 268, 810, 811, 812, 260, 146, 252, 119, 120, 253, 134, 254, 136, 263, 265, 161, 269, 270, 272, 174, 1197, 1198, 1199, 1205, 1204, 1203, 112, 629, 630, 659, 535, 536, 658, 530, 531, 660, 661, 662, 664, 665, 666, 679, 539, 540, 702, 703, 704, 871, 676] rfl rfl
set_option maxRecDepth 20000 in
theorem wo_6_1_in : GoodIn lw_tbl wo_6_1 := goodIn_r wo_6_1 [677, 636, 637, 638, 872, 626, 627, 873, 875, 30, 881, 707, 708, 882, 711, 712, 903, 896, 897, 928, 140, 102, 141] rfl rfl
set_option maxRecDepth 20000 in
theorem wo_7_0_in : GoodIn lw_tbl wo_7_0 := goodIn_r wo_7_0 [344, 119, 120, 162, 345, 161, 346, 347, 978, 611, 612, 100, 979, 617, 618, 167, 990, 594, 595, 101, 984, 985, 111, 175, 150, 987, 988, 107, 991, 992, 993, 1066, 564, 565, 1005, 1007, 33, 1001, 1003, 32, 1009, 140, 102, 141, 1022, 975, 976, 1027, 981, 982, 1032, 998, 999, 1026, 539, 540, 1023, 1024, 1028, 1030] rfl rfl
set_option maxRecDepth 20000 in
theorem wo_7_1_in : GoodIn lw_tbl wo_7_1 := goodIn_r wo_7_1 [34, 1033, 1035, 35, 1037, 1080, 1082, 37, 1092, 1011, 1012, 1093, 1095, 38] rfl rfl
set_option maxRecDepth 20000 in
theorem wo_8_0_in : GoodIn lw_tbl wo_8_0 := goodIn_r wo_8_0 [126, 119, 120, 161, 216, 217, 218, 162, 219, 220, 221, 222, 223, 127, 128, 100, 130, 224, 475, 480, 464, 465, 99, 467, 469, 3, 471, 473, 4, 476, 478, 5, 501, 503, 8, 517, 519, 12, 164, 166, 151, 513, 515, 11, 171, 176, 493, 494, 495, 101, 497, 499, 7, 509, 511, 10, 521, 523, 13, 525] rfl rfl
set_option maxRecDepth 20000 in
theorem wo_8_1_in : GoodIn lw_tbl wo_8_1 := goodIn_r wo_8_1 [526, 527, 546, 547, 548, 554, 555, 556, 563, 564, 565, 567, 559, 560, 568, 570, 16, 576, 577, 578, 181, 505, 507, 9, 542, 544, 14, 550, 552, 15, 572, 574, 17, 185, 187, 190, 457, 458, 102, 459, 460, 462, 2, 482, 483, 484, 489, 491, 6, 193, 580, 581, 582] rfl rfl
set_option maxRecDepth 20000 in
theorem wo_9_0_in : GoodIn lw_tbl wo_9_0 := goodIn_r wo_9_0 [360, 119, 120, 161, 361, 362, 363, 1129, 611, 612, 100, 1130, 564, 565, 1143, 1145, 43, 108, 1139, 1141, 42, 1135, 1137, 41] rfl rfl
set_option maxRecDepth 20000 in
theorem wo_10_0_in : GoodIn lw_tbl wo_10_0 := goodIn_r wo_10_0 [297, 119, 120, 162, 298, 161, 299, 300, 756, 487, 111, 757, 758, 759, 100, 761, 140, 102, 141, 762, 763, 564, 565, 177, 751, 594, 595, 101, 768, 769, 104, 778, 611, 612, 779, 617, 618, 780, 782, 26, 168, 188, 191, 771, 772, 774, 776, 25, 256, 752, 754, 23, 261, 148, 764, 766, 24, 784, 785, 787] rfl rfl
set_option maxRecDepth 20000 in
theorem wo_10_1_in : GoodIn lw_tbl wo_10_1 := goodIn_r wo_10_1 [27, 801] rfl rfl
set_option maxRecDepth 20000 in
theorem wo_11_0_in : GoodIn lw_tbl wo_11_0 := goodIn_r wo_11_0 [118, 119, 120, 160, 391, 392, 121, 122, 99, 124, 393, 245, 128, 100, 130, 394, 395, 247, 248, 103, 250, 396, 397, 398, 161, 399, 292, 293, 104, 295, 400, 308, 309, 105, 311, 401, 318, 319, 106, 321, 402, 339, 340, 107, 342, 403, 355, 356, 108, 358, 404, 372, 373, 109, 375, 405, 441, 443, 0, 98] rfl rfl
set_option maxRecDepth 20000 in
theorem wo_11_1_in : GoodIn lw_tbl wo_11_1 := goodIn_r wo_11_1 [449, 451, 1, 453, 454, 455, 225, 589, 590, 591, 194, 169, 605, 539, 540, 101, 606, 594, 595, 607, 608, 610, 611, 612, 616, 617, 618, 178, 625, 626, 627, 632, 633, 634, 644, 564, 565, 271, 649, 651, 20, 259, 653, 494, 495, 654, 655, 656, 675, 676, 677, 680, 637, 638, 681, 683, 21, 685, 535, 536] rfl rfl
set_option maxRecDepth 20000 in
theorem wo_11_2_in : GoodIn lw_tbl wo_11_2 := goodIn_r wo_11_2 [152, 694, 696, 22, 262, 698, 699, 700, 706, 707, 708, 710, 711, 712, 726, 661, 662, 731, 732, 733, 739, 740, 741, 747, 748, 749, 789, 790, 791, 797, 798, 799, 806, 807, 808, 814, 811, 812, 815, 665, 666, 820, 821, 822, 832, 833, 834, 838, 839, 840, 851, 852, 853, 264, 859, 860, 861, 867, 868, 869] rfl rfl
set_option maxRecDepth 20000 in
theorem wo_11_3_in : GoodIn lw_tbl wo_11_3 := goodIn_r wo_11_3 [877, 878, 879, 891, 892, 893, 899, 900, 901, 904, 905, 906, 912, 913, 914, 920, 921, 922, 924, 925, 926, 929, 930, 931, 937, 938, 939, 267, 947, 948, 949, 955, 956, 957, 327, 329, 971, 972, 974, 975, 976, 980, 981, 982, 997, 998, 999, 1010, 1011, 1012, 1018, 1019, 1020, 1046, 1047, 1048, 1058, 758, 759, 1054] rfl rfl
set_option maxRecDepth 20000 in
theorem wo_11_4_in : GoodIn lw_tbl wo_11_4 := goodIn_r wo_11_4 [1056, 36, 1059, 1060, 1062, 1063, 1064, 1067, 1068, 1069, 1071, 140, 102, 141, 1076, 1077, 1078, 1088, 1089, 1090, 1101, 1102, 1103, 1125, 1126, 1127, 1131, 1132, 1133, 1151, 1152, 1153, 364, 1159, 1160, 1161, 1163, 1164, 1170, 1171, 1172, 273, 1178, 1179, 1180, 1181, 1182, 1188, 1193, 1194, 1195, 183] rfl rfl
set_option maxRecDepth 20000 in
theorem wo_12_0_in : GoodIn lw_tbl wo_12_0 := goodIn_r wo_12_0 [1219, 119, 120, 161, 1220, 1225, 1226, 1227, 1232, 162, 1240, 1241, 1242, 1243, 1244, 1245, 1246, 1247, 1248, 1249, 1250, 1251, 1252, 1253, 160, 1254, 1255, 1260, 1261, 1262, 1263, 1264, 1265, 1266, 1267, 1268, 1269, 1272, 1273, 1274, 1275, 1276, 1277, 1279, 1280, 1281, 1282, 1283, 1284, 1285, 1289, 1290, 1291, 1292, 1295, 1296, 1297, 1678, 1229, 1459] rfl rfl
set_option maxRecDepth 20000 in
theorem wo_12_1_in : GoodIn lw_tbl wo_12_1 := goodIn_r wo_12_1 [1461, 44, 110, 1231, 1230, 1478, 1480, 47, 1256, 1491, 1493, 50, 1257, 1467, 1468, 1516, 1517, 1518, 1519, 1520, 1521, 1486, 1506, 1507, 1508, 1509, 1510, 1511, 1512, 1513, 1514, 1233, 1234, 1503, 1504, 1522, 1524, 53, 1526, 1528, 54, 1499, 1501, 52, 1530, 1532, 55, 1487, 1489, 49, 1542, 1544, 58, 1546, 1548, 59, 1235, 1495, 1497, 51] rfl rfl
set_option maxRecDepth 20000 in
theorem wo_12_2_in : GoodIn lw_tbl wo_12_2 := goodIn_r wo_12_2 [1534, 1536, 56, 1538, 1540, 57, 1550, 1552, 60, 1237, 1238, 1239, 1236, 1482, 1484, 48, 1221, 1222, 1223, 1224, 1558, 1559, 1228, 1258, 1259, 1271, 1278, 1293, 1470, 1472, 45, 1474, 1476, 46, 1554, 1556, 61, 1577, 140, 102, 141, 1573, 1575, 63, 1569, 1571, 62, 1578, 1580, 64, 1590, 1592, 66, 1598, 1600, 68, 1586, 1588, 65, 1594] rfl rfl
set_option maxRecDepth 20000 in
theorem wo_12_3_in : GoodIn lw_tbl wo_12_3 := goodIn_r wo_12_3 [1596, 67, 1606, 1608, 69, 1614, 1616, 70, 1618, 1620, 71, 1634, 1635, 1630, 1632, 72, 1674, 1676, 76, 1270, 1665, 1666, 1668, 74, 1670, 1672, 75, 1661, 1663, 73, 1679, 1680, 1694, 1696, 77, 1702, 1704, 79, 1706, 458, 459, 1698, 1700, 78, 1731, 1733, 80, 1739, 1741, 81, 1773, 1769, 1771, 83, 1786, 1778, 1780, 85, 1286, 1782] rfl rfl
set_option maxRecDepth 20000 in
theorem wo_12_4_in : GoodIn lw_tbl wo_12_4 := goodIn_r wo_12_4 [1784, 86, 1759, 1760, 1762, 1763, 1765, 1767, 82, 1774, 1776, 84, 1288, 1287, 1799, 1801, 89, 1803, 1805, 90, 1807, 1791, 1793, 87, 1795, 1797, 88, 1816, 1818, 91, 1840, 1842, 92, 1844, 1846, 93, 1848, 1850, 94, 1868, 1873, 1874, 1294, 1879, 1881, 95, 1887, 1889, 96] rfl rfl
set_option maxRecDepth 20000 in
theorem wo_13_0_in : GoodIn lw_tbl wo_13_0 := goodIn_r wo_13_0 [113, 114, 98, 115, 116, 1214, 1215, 110, 1216, 1217, 437, 438, 439, 1455, 1456, 1457, 445, 446, 447, 1463, 1464, 1465, 597, 598, 599, 1561, 1562, 1563, 601, 602, 603, 1565, 1566, 1567, 621, 622, 623, 1582, 1583, 1584, 645, 646, 647, 1602, 1603, 1604, 671, 672, 673, 1610, 1611, 1612, 686, 687, 688, 1622, 1623, 1624, 690, 691] rfl rfl
set_option maxRecDepth 20000 in
theorem wo_13_1_in : GoodIn lw_tbl wo_13_1 := goodIn_r wo_13_1 [692, 1626, 1627, 1628, 714, 715, 716, 1637, 1638, 1639, 718, 719, 720, 1641, 1642, 1643, 722, 723, 724, 1645, 1646, 1647, 727, 728, 729, 1649, 1650, 1651, 735, 736, 737, 1653, 1654, 1655, 743, 744, 745, 1657, 1658, 1659, 793, 794, 795, 1682, 1683, 1684, 802, 803, 804, 1686, 1687, 1688, 816, 817, 818, 1690, 1691, 1692, 847, 848] rfl rfl
set_option maxRecDepth 20000 in
theorem wo_13_2_in : GoodIn lw_tbl wo_13_2 := goodIn_r wo_13_2 [849, 1707, 1708, 1709, 855, 856, 857, 1715, 1716, 1717, 863, 864, 865, 1719, 1720, 1721, 883, 884, 885, 1723, 1724, 1725, 887, 888, 889, 1727, 1728, 1729, 908, 909, 910, 1735, 1736, 1737, 916, 917, 918, 1743, 1744, 1745, 933, 934, 935, 1711, 1712, 1713, 943, 944, 945, 1747, 1748, 1749, 951, 952, 953, 1751, 1752, 1753, 967, 968] rfl rfl
set_option maxRecDepth 20000 in
theorem wo_13_3_in : GoodIn lw_tbl wo_13_3 := goodIn_r wo_13_3 [969, 1755, 1756, 1757, 1014, 1015, 1016, 1787, 1788, 1789, 1038, 1039, 1040, 1808, 1809, 1810, 1042, 1043, 1044, 1812, 1813, 1814, 1050, 1051, 1052, 1820, 1821, 1822, 1072, 1073, 1074, 1824, 1825, 1826, 1084, 1085, 1086, 1828, 1829, 1830, 1097, 1098, 1099, 1832, 1833, 1834, 1121, 1122, 1123, 1836, 1837, 1838, 1147, 1148, 1149, 1852, 1853, 1854, 1155, 1156] rfl rfl
set_option maxRecDepth 20000 in
theorem wo_13_4_in : GoodIn lw_tbl wo_13_4 := goodIn_r wo_13_4 [1157, 1856, 1857, 1858, 1166, 1167, 1168, 1860, 1861, 1862, 1174, 1175, 1176, 1869, 1870, 1871, 1184, 1185, 1186, 1864, 1865, 1866, 1189, 1190, 1191, 1875, 1876, 1877, 1206, 1207, 1208, 1883, 1884, 1885, 1210, 1211, 1212, 1891, 1892, 1893] rfl rfl
theorem wo_0_in : GoodIn lw_tbl wo_0 := wo_0_0_in
theorem wo_1_in : GoodIn lw_tbl wo_1 := wo_1_0_in
theorem wo_2_in : GoodIn lw_tbl wo_2 := wo_2_0_in
theorem wo_3_in : GoodIn lw_tbl wo_3 := wo_3_0_in
theorem wo_4_in : GoodIn lw_tbl wo_4 := fun w h => absurd h List.not_mem_nil
theorem wo_5_in : GoodIn lw_tbl wo_5 := wo_5_0_in
theorem wo_6_in : GoodIn lw_tbl wo_6 := goodIn_app2 wo_6_0_in (wo_6_1_in)
theorem wo_7_in : GoodIn lw_tbl wo_7 := goodIn_app2 wo_7_0_in (wo_7_1_in)
theorem wo_8_in : GoodIn lw_tbl wo_8 := goodIn_app2 wo_8_0_in (wo_8_1_in)
theorem wo_9_in : GoodIn lw_tbl wo_9 := wo_9_0_in
theorem wo_10_in : GoodIn lw_tbl wo_10 := goodIn_app2 wo_10_0_in (wo_10_1_in)
theorem wo_11_in : GoodIn lw_tbl wo_11 := goodIn_app2 wo_11_0_in (goodIn_app2 wo_11_1_in (goodIn_app2 wo_11_2_in (goodIn_app2 wo_11_3_in (wo_11_4_in))))
theorem wo_12_in : GoodIn lw_tbl wo_12 := goodIn_app2 wo_12_0_in (goodIn_app2 wo_12_1_in (goodIn_app2 wo_12_2_in (goodIn_app2 wo_12_3_in (wo_12_4_in))))
theorem wo_13_in : GoodIn lw_tbl wo_13 := goodIn_app2 wo_13_0_in (goodIn_app2 wo_13_1_in (goodIn_app2 wo_13_2_in (goodIn_app2 wo_13_3_in (wo_13_4_in))))
theorem wl_0_in : GoodIn lw_tbl (u_ws RX0 TX0 4) := goodIn_of _ (by decide +kernel)
theorem wl_1_in : GoodIn lw_tbl (u_ws RX1 TX1 4) := goodIn_of _ (by decide +kernel)
theorem wl_2_in : GoodIn lw_tbl (u_ws RX2 TX2 1) := goodIn_of _ (by decide +kernel)
theorem wl_3_in : GoodIn lw_tbl (u_ws RX3 TX3 3) := goodIn_of _ (by decide +kernel)
theorem wl_4_in : GoodIn lw_tbl (u_ws RX4 TX4 9) := goodIn_of _ (by decide +kernel)
theorem wl_5_in : GoodIn lw_tbl (u_ws RX5 TX5 3) := goodIn_of _ (by decide +kernel)
theorem wl_6_in : GoodIn lw_tbl (u_ws RX6 TX6 8) := goodIn_of _ (by decide +kernel)
theorem wl_7_in : GoodIn lw_tbl (u_ws RX7 TX7 3) := goodIn_of _ (by decide +kernel)
theorem wl_8_in : GoodIn lw_tbl (u_ws RX8 TX8 3) := goodIn_of _ (by decide +kernel)
theorem wl_9_in : GoodIn lw_tbl (u_ws RX9 TX9 10) := goodIn_of _ (by decide +kernel)
theorem wl_10_in : GoodIn lw_tbl (u_ws RX10 TX10 15) := goodIn_of _ (by decide +kernel)
theorem wl_11_in : GoodIn lw_tbl (u_ws RX11 TX11 78) := goodIn_of _ (by decide +kernel)
