set_option maxRecDepth 20000 in
theorem wd_0_in : GoodIn lw_tbl wd_0 := goodIn_r wd_0 [322, 596, 966, 963, 958, 376, 613, 541, 566, 986, 760, 1118, 1114, 1104, 312, 488, 643, 639, 670, 813, 809, 829, 823, 854, 845, 841, 940, 835, 898, 894, 343, 619, 977, 989, 994, 983, 1065, 1008, 1004, 1000] rfl rfl
set_option maxRecDepth 20000 in
theorem wd_1_in : GoodIn lw_tbl wd_1 := goodIn_r wd_1 [1013, 1049, 1162, 1025, 1031, 1036, 1021, 1070, 1083, 1079, 1096, 1091, 1173, 137, 131, 125, 466, 470, 474, 479, 463, 485, 496, 504, 500, 520, 516, 512, 524, 532, 537, 528, 508, 549, 545, 561, 557, 571, 553, 579] rfl rfl
set_option maxRecDepth 20000 in
theorem wd_2_in : GoodIn lw_tbl wd_2 := goodIn_r wd_2 [575, 492, 587, 583, 456, 359, 1128, 1146, 1154, 1142, 1138, 1134, 251, 592, 1200, 1196, 631, 663, 667, 657, 705, 701, 862, 950, 678, 628, 876, 870, 709, 713, 880, 915, 635, 734, 742, 902, 907, 923, 927, 932] rfl rfl
set_option maxRecDepth 20000 in
theorem wd_3_in : GoodIn lw_tbl wd_3 := goodIn_r wd_3 [296, 755, 770, 773, 783, 777, 767, 788, 750, 792, 800, 1183, 117, 444, 440, 452, 448, 600, 609, 604, 624, 652, 648, 684, 674, 689, 697, 693, 717, 721, 725, 730, 738, 746, 796, 805, 819, 850, 858, 866] rfl rfl
set_option maxRecDepth 20000 in
theorem wd_4_in : GoodIn lw_tbl wd_4 := goodIn_r wd_4 [886, 890, 911, 919, 936, 946, 954, 973, 970, 1017, 1041, 1045, 1057, 1061, 1053, 1075, 1087, 1100, 1124, 1150, 1165, 1158, 1169, 1177, 1187, 1192, 1209, 1213, 1218, 1469, 1560, 1636, 1681, 1621, 1473, 1462, 1458, 1481, 1494, 1490] rfl rfl
set_option maxRecDepth 20000 in
theorem wd_5_in : GoodIn lw_tbl wd_5 := goodIn_r wd_5 [1549, 1533, 1515, 1505, 1525, 1529, 1502, 1545, 1498, 1537, 1541, 1553, 1485, 1477, 1557, 1466, 1564, 1576, 1581, 1572, 1589, 1764, 1568, 1593, 1669, 1601, 1597, 1585, 1617, 1609, 1605, 1613, 1625, 1633, 1629, 1640, 1644, 1648, 1652, 1656] rfl rfl
set_option maxRecDepth 20000 in
theorem wd_6_in : GoodIn lw_tbl wd_6 := goodIn_r wd_6 [1677, 1673, 1664, 1660, 1685, 1689, 1697, 1705, 1701, 1693, 1710, 1714, 1718, 1722, 1726, 1734, 1730, 1742, 1738, 1746, 1750, 1754, 1761, 1772, 1768, 1781, 1785, 1777, 1758, 1806, 1802, 1798, 1794, 1790, 1811, 1819, 1815, 1823, 1827, 1831] rfl rfl
set_option maxRecDepth 20000 in
theorem wd_7_in : GoodIn lw_tbl wd_7 := goodIn_r wd_7 [1835, 1843, 1851, 1847, 1839, 1855, 1859, 1863, 1867, 1872, 1882, 1890, 1878, 1886, 1894] rfl rfl
theorem wo_all_in : GoodIn lw_tbl wo_all := goodIn_app2 wo_0_in (goodIn_app2 wo_1_in (goodIn_app2 wo_2_in (goodIn_app2 wo_3_in (goodIn_app2 wo_4_in (goodIn_app2 wo_5_in (goodIn_app2 wo_6_in (goodIn_app2 wo_7_in (goodIn_app2 wo_8_in (goodIn_app2 wo_9_in (goodIn_app2 wo_10_in (goodIn_app2 wo_11_in (goodIn_app2 wo_12_in (wo_13_in)))))))))))))
theorem wd_all_in : GoodIn lw_tbl wd_all := goodIn_app2 wd_0_in (goodIn_app2 wd_1_in (goodIn_app2 wd_2_in (goodIn_app2 wd_3_in (goodIn_app2 wd_4_in (goodIn_app2 wd_5_in (goodIn_app2 wd_6_in (wd_7_in)))))))
theorem wl_all_in : GoodIn lw_tbl wl_all := goodIn_app2 wl_0_in (goodIn_app2 wl_1_in (goodIn_app2 wl_2_in (goodIn_app2 wl_3_in (goodIn_app2 wl_4_in (goodIn_app2 wl_5_in (goodIn_app2 wl_6_in (goodIn_app2 wl_7_in (goodIn_app2 wl_8_in (goodIn_app2 wl_9_in (goodIn_app2 wl_10_in (wl_11_in)))))))))))
theorem wi_all_in : GoodIn lw_tbl wi_all := goodIn_r wi_all [97, 98, 99, 100, 101, 102, 103, 104, 105, 106, 107, 108, 109, 110, 111, 112] rfl rfl
theorem cm_Tg_in : GoodIn lw_tbl cm_Tg := goodIn_app2 wi_all_in (goodIn_app2 wo_all_in (goodIn_app2 wd_all_in wl_all_in))
theorem cm_Tg_good : GoodIn cm_Tg cm_Tg := fun w h => ⟨h, (cm_Tg_in w h).2⟩
theorem cm_Tn_in : ∀ w ∈ cm_Tn, w ∈ lw_tbl := by decide +kernel
theorem cm_Tn_sx : ∀ w ∈ cm_Tn, cm_sx w = true := by decide +kernel
