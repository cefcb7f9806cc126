theorem wl_p {big ws : List Cond} (ps : List Nat) (hp : ws = ps.filterMap (fun i => big[i]?)) : ∀ w ∈ ws, w ∈ big := by
  intro w hw
  rw [hp] at hw
  obtain ⟨i, -, hi⟩ := List.mem_filterMap.mp hw
  exact List.mem_of_getElem? hi
set_option maxRecDepth 20000 in
theorem wl_r1 : ∀ w ∈ wsL_law_r1, w ∈ lw_tbl := wl_p [169, 170, 148, 1467, 1468, 160, 171, 172, 173, 174, 175, 176, 177, 178, 149, 579, 204, 205, 150, 580, 268, 581, 270, 151] (by decide +kernel)
set_option maxRecDepth 20000 in
theorem wl_r2 : ∀ w ∈ wsL_law_r2, w ∈ lw_tbl := wl_p [296, 297, 152, 582, 312, 313, 153, 583, 584, 465, 585, 446, 447, 155, 586, 466, 467, 156, 587, 505, 506, 157, 588, 538] (by decide +kernel)
set_option maxRecDepth 20000 in
theorem wl_r3 : ∀ w ∈ wsL_law_r3, w ∈ lw_tbl := wl_p [539, 158, 589, 557, 558, 159, 590, 179, 180, 181, 182, 203, 183, 206, 207, 208, 209, 210, 213, 219, 220, 221, 222, 223] (by decide +kernel)
set_option maxRecDepth 20000 in
theorem wl_r4 : ∀ w ∈ wsL_law_r4, w ∈ lw_tbl := wl_p [224, 271, 272, 273, 274, 275, 276, 277, 298, 299, 300, 301, 302, 314, 315, 316, 317, 318, 371, 378, 320, 381, 383, 387] (by decide +kernel)
set_option maxRecDepth 20000 in
theorem wl_r5 : ∀ w ∈ wsL_law_r5, w ∈ lw_tbl := wl_p [391, 393, 395, 322, 154, 319, 323, 324, 325, 326, 448, 449, 450, 451, 453, 454, 455, 452, 468, 469, 470, 471, 504, 475] (by decide +kernel)
set_option maxRecDepth 20000 in
theorem wl_r6 : ∀ w ∈ wsL_law_r6, w ∈ lw_tbl := wl_p [472, 473, 474, 507, 508, 509, 510, 511, 516, 517, 518, 513, 514, 515, 512, 540, 541, 542, 543, 546, 547, 544, 372, 545] (by decide +kernel)
set_option maxRecDepth 20000 in
theorem wl_r7 : ∀ w ∈ wsL_law_r7, w ∈ lw_tbl := wl_p [559, 560, 561, 562, 565, 566, 563, 373, 564, 1469, 1470, 1471, 1472, 864, 1473, 1476, 1477, 1478, 1479, 1484, 1485, 1486, 1494, 1496] (by decide +kernel)
set_option maxRecDepth 20000 in
theorem wl_r8 : ∀ w ∈ wsL_law_r8, w ∈ lw_tbl := wl_p [1498, 1499, 1500, 1501, 1502, 1505, 1506, 1507, 1508, 1509, 1511, 1513, 1514, 619, 620, 621, 622, 186, 623, 624, 625, 626, 185, 627] (by decide +kernel)
set_option maxRecDepth 20000 in
theorem wl_r9 : ∀ w ∈ wsL_law_r9, w ∈ lw_tbl := wl_p [628, 629, 630, 1600, 1601, 1602, 1603, 1474, 1604, 1606, 62, 1607, 631, 632, 633, 634, 1608, 1609, 1610, 1611, 635, 636, 637, 638] (by decide +kernel)
set_option maxRecDepth 20000 in
theorem wl_r10 : ∀ w ∈ wsL_law_r10, w ∈ lw_tbl := wl_p [191, 374, 234, 639, 640, 641, 642, 227, 233, 239, 241, 188, 643, 644, 645, 646, 184, 189, 190, 648, 649, 650, 651, 652] (by decide +kernel)
set_option maxRecDepth 20000 in
theorem wl_r11 : ∀ w ∈ wsL_law_r11, w ∈ lw_tbl := wl_p [653, 654, 655, 656, 658, 0, 659, 660, 661, 662, 161, 663, 2124, 664, 665, 666, 667, 668, 2125, 670, 671, 672, 673, 674] (by decide +kernel)
set_option maxRecDepth 20000 in
theorem wl_r12 : ∀ w ∈ wsL_law_r12, w ∈ lw_tbl := wl_p [675, 676, 677, 678, 679, 162, 680, 681, 682, 683, 684, 686, 687, 163, 688, 689, 690, 164, 691, 692, 693, 694, 695, 696] (by decide +kernel)
set_option maxRecDepth 20000 in
theorem wl_r13 : ∀ w ∈ wsL_law_r13, w ∈ lw_tbl := wl_p [697, 698, 699, 700, 701, 702, 704, 706, 708, 709, 710, 711, 712, 714, 1, 715, 716, 717, 719, 2, 720, 721, 722, 723] (by decide +kernel)
set_option maxRecDepth 20000 in
theorem wl_r14 : ∀ w ∈ wsL_law_r14, w ∈ lw_tbl := wl_p [724, 725, 726, 727, 728, 729, 730, 731, 732, 733, 735, 3, 736, 737, 739, 4, 740, 741, 743, 5, 744, 745, 746, 747] (by decide +kernel)
set_option maxRecDepth 20000 in
theorem wl_r15 : ∀ w ∈ wsL_law_r15, w ∈ lw_tbl := wl_p [748, 749, 751, 752, 753, 754, 755, 756, 757, 758, 759, 760, 761, 762, 766, 767, 165, 768, 769, 770, 771, 763, 764, 765] (by decide +kernel)
set_option maxRecDepth 20000 in
theorem wl_r16 : ∀ w ∈ wsL_law_r16, w ∈ lw_tbl := wl_p [772, 773, 774, 775, 776, 777, 778, 779, 780, 781, 782, 783, 784, 785, 786, 787, 788, 789, 790, 791, 792, 793, 794, 795] (by decide +kernel)
set_option maxRecDepth 20000 in
theorem wl_r17 : ∀ w ∈ wsL_law_r17, w ∈ lw_tbl := wl_p [796, 797, 798, 799, 800, 166, 801, 802, 803, 804, 805, 806, 807, 808, 809, 810, 811, 812, 813, 814, 815, 816, 817, 818] (by decide +kernel)
set_option maxRecDepth 20000 in
theorem wl_r18 : ∀ w ∈ wsL_law_r18, w ∈ lw_tbl := wl_p [820, 6, 821, 822, 824, 7, 825, 826, 828, 8, 829, 830, 831, 832, 833, 834, 835, 836, 837, 838, 839, 840, 841, 843] (by decide +kernel)
set_option maxRecDepth 20000 in
theorem wl_r19 : ∀ w ∈ wsL_law_r19, w ∈ lw_tbl := wl_p [9, 844, 845, 846, 847, 848, 849, 850, 851, 852, 398, 402, 405, 408, 410, 853, 854, 855, 856, 857, 859, 858, 167, 860] (by decide +kernel)
set_option maxRecDepth 20000 in
theorem wl_r20 : ∀ w ∈ wsL_law_r20, w ∈ lw_tbl := wl_p [861, 862, 863, 1773, 1774, 1775, 1776, 1490, 1480, 1481, 1482, 1483, 1488, 1616, 1618, 63, 1619, 1493, 1487, 1491, 1620, 1622, 64, 1623] (by decide +kernel)
set_option maxRecDepth 20000 in
theorem wl_r21 : ∀ w ∈ wsL_law_r21, w ∈ lw_tbl := wl_p [1628, 1637, 1638, 1639, 1624, 1626, 65, 1627, 1629, 1631, 66, 1632, 1633, 1635, 67, 1636, 1640, 1642, 68, 1643, 1644, 1645, 1646, 1647] (by decide +kernel)
set_option maxRecDepth 20000 in
theorem wl_r22 : ∀ w ∈ wsL_law_r22, w ∈ lw_tbl := wl_p [1648, 1650, 69, 1651, 1652, 1654, 70, 1655, 1656, 1658, 71, 1659, 1489, 1660, 1662, 72, 1663, 1664, 1666, 73, 1667, 1668, 1670, 74] (by decide +kernel)
set_option maxRecDepth 20000 in
theorem wl_r23 : ∀ w ∈ wsL_law_r23, w ∈ lw_tbl := wl_p [1671, 1672, 1673, 1674, 1675, 1677, 75, 1678, 1679, 1681, 76, 1682, 1683, 1685, 77, 1686, 1687, 1689, 78, 1690, 1691, 1693, 79, 1694] (by decide +kernel)
set_option maxRecDepth 20000 in
theorem wl_r24 : ∀ w ∈ wsL_law_r24, w ∈ lw_tbl := wl_p [1695, 1697, 80, 1698, 1699, 1700, 1702, 81, 1703, 1704, 1706, 82, 1707, 1495, 1492, 1771, 1772, 1708, 1710, 83, 1711, 1712, 1713, 1715] (by decide +kernel)
set_option maxRecDepth 20000 in
theorem wl_r25 : ∀ w ∈ wsL_law_r25, w ∈ lw_tbl := wl_p [84, 1716, 1717, 1719, 85, 1720, 1721, 1723, 86, 1724, 1725, 1727, 87, 1728, 1729, 1731, 88, 1732, 1733, 1734, 1736, 89, 1737, 1738] (by decide +kernel)
set_option maxRecDepth 20000 in
theorem wl_r26 : ∀ w ∈ wsL_law_r26, w ∈ lw_tbl := wl_p [1740, 90, 1741, 1742, 1744, 91, 1745, 1746, 1747, 1748, 1749, 1750, 1751, 1752, 1753, 1754, 1755, 1756, 1758, 92, 1759, 1760, 1762, 93] (by decide +kernel)
set_option maxRecDepth 20000 in
theorem wl_r27 : ∀ w ∈ wsL_law_r27, w ∈ lw_tbl := wl_p [1763, 1764, 1765, 1766, 1767, 1769, 94, 1770, 865, 866, 867, 868, 591, 869, 870, 871, 872, 303, 304, 187, 873, 874, 875, 876] (by decide +kernel)
set_option maxRecDepth 20000 in
theorem wl_r28 : ∀ w ∈ wsL_law_r28, w ∈ lw_tbl := wl_p [279, 278, 281, 877, 879, 880, 881, 882, 883, 884, 885, 886, 887, 888, 889, 890, 892, 893, 894, 895, 896, 898, 10, 899] (by decide +kernel)
set_option maxRecDepth 20000 in
theorem wl_r29 : ∀ w ∈ wsL_law_r29, w ∈ lw_tbl := wl_p [900, 902, 11, 918, 919, 920, 921, 932, 934, 16, 935, 903, 905, 906, 908, 12, 909, 910, 912, 13, 913, 916, 914, 915] (by decide +kernel)
set_option maxRecDepth 20000 in
theorem wl_r30 : ∀ w ∈ wsL_law_r30, w ∈ lw_tbl := wl_p [917, 923, 925, 14, 926, 927, 929, 15, 930, 931, 936, 938, 17, 939, 940, 941, 944, 1612, 1613, 1614, 1615, 1475, 945, 946] (by decide +kernel)
set_option maxRecDepth 20000 in
theorem wl_r31 : ∀ w ∈ wsL_law_r31, w ∈ lw_tbl := wl_p [947, 948, 212, 215, 949, 950, 951, 952, 953, 954, 955, 956, 1777, 1778, 1779, 1780, 1785, 1781, 1783, 95, 1784, 1786, 1788, 96] (by decide +kernel)
set_option maxRecDepth 20000 in
theorem wl_r32 : ∀ w ∈ wsL_law_r32, w ∈ lw_tbl := wl_p [1789, 957, 958, 959, 960, 961, 962, 963, 964, 965, 966, 967, 969, 18, 970, 971, 972, 973, 1790, 1791, 1792, 1793, 1794, 1796] (by decide +kernel)
set_option maxRecDepth 20000 in
theorem wl_r33 : ∀ w ∈ wsL_law_r33, w ∈ lw_tbl := wl_p [97, 1797, 1798, 1800, 98, 1801, 1802, 1803, 1804, 1805, 1807, 99, 1808, 1809, 1811, 100, 1812, 1813, 1815, 101, 1816, 1817, 1818, 1819] (by decide +kernel)
set_option maxRecDepth 20000 in
theorem wl_r34 : ∀ w ∈ wsL_law_r34, w ∈ lw_tbl := wl_p [1820, 1822, 102, 1823, 1824, 1826, 103, 1827, 974, 975, 976, 977, 400, 379, 978, 979, 980, 981, 982, 983, 984, 225, 985, 986] (by decide +kernel)
set_option maxRecDepth 20000 in
theorem wl_r35 : ∀ w ∈ wsL_law_r35, w ∈ lw_tbl := wl_p [987, 988, 1828, 1829, 1830, 1831, 1836, 1832, 1834, 104, 1835, 989, 990, 991, 992, 993, 995, 19, 996, 997, 998, 999, 1837, 1838] (by decide +kernel)
set_option maxRecDepth 20000 in
theorem wl_r36 : ∀ w ∈ wsL_law_r36, w ∈ lw_tbl := wl_p [1839, 1840, 1845, 1841, 1843, 105, 1844, 1000, 1001, 1002, 1003, 1846, 1847, 1848, 1849, 1004, 1005, 1006, 1007, 1008, 1010, 20, 1011, 231] (by decide +kernel)
set_option maxRecDepth 20000 in
theorem wl_r37 : ∀ w ∈ wsL_law_r37, w ∈ lw_tbl := wl_p [1012, 1013, 1014, 1015, 1016, 1018, 21, 1019, 1023, 377, 238, 218, 1020, 1021, 1022, 1024, 1026, 22, 1027, 380, 1028, 1029, 1030, 1031] (by decide +kernel)
set_option maxRecDepth 20000 in
theorem wl_r38 : ∀ w ∈ wsL_law_r38, w ∈ lw_tbl := wl_p [1032, 1033, 1035, 23, 1036, 230, 1037, 1039, 24, 1040, 1041, 1043, 25, 1044, 1045, 1046, 1047, 1048, 1049, 1050, 1051, 1052, 1850, 1851] (by decide +kernel)
set_option maxRecDepth 20000 in
theorem wl_r39 : ∀ w ∈ wsL_law_r39, w ∈ lw_tbl := wl_p [1852, 1853, 1862, 1854, 1856, 106, 1857, 1858, 1860, 107, 1861, 1863, 1865, 108, 1866, 1867, 1869, 109, 1870, 1053, 1054, 1055, 1056, 403] (by decide +kernel)
set_option maxRecDepth 20000 in
theorem wl_r40 : ∀ w ∈ wsL_law_r40, w ∈ lw_tbl := wl_p [382, 1057, 1059, 26, 1060, 1061, 1062, 1063, 1064, 327, 331, 334, 337, 339, 342, 344, 347, 1065, 350, 1871, 1872, 1873, 1874, 1875] (by decide +kernel)
set_option maxRecDepth 20000 in
theorem wl_r41 : ∀ w ∈ wsL_law_r41, w ∈ lw_tbl := wl_p [1877, 110, 1878, 1879, 1881, 111, 1882, 1066, 1067, 1068, 1069, 1070, 1072, 27, 1073, 1074, 1075, 1076, 1077, 1883, 1884, 1885, 1886, 1891] (by decide +kernel)
set_option maxRecDepth 20000 in
theorem wl_r42 : ∀ w ∈ wsL_law_r42, w ∈ lw_tbl := wl_p [1887, 1889, 112, 1890, 1892, 1894, 113, 1895, 1078, 1079, 1080, 1081, 330, 1082, 1083, 1084, 1085, 399, 1086, 1087, 1088, 1089, 1090, 1091] (by decide +kernel)
set_option maxRecDepth 20000 in
theorem wl_r43 : ∀ w ∈ wsL_law_r43, w ∈ lw_tbl := wl_p [1092, 1093, 1094, 338, 282, 478, 477, 479, 351, 346, 341, 343, 1095, 1096, 1097, 1098, 1099, 1101, 28, 1102, 482, 335, 328, 332] (by decide +kernel)
set_option maxRecDepth 20000 in
theorem wl_r44 : ∀ w ∈ wsL_law_r44, w ∈ lw_tbl := wl_p [1125, 480, 375, 235, 1103, 1104, 1105, 1106, 1107, 1108, 1109, 1110, 1111, 1112, 1113, 1114, 1115, 1116, 1117, 1118, 1120, 29, 1121, 1122] (by decide +kernel)
set_option maxRecDepth 20000 in
theorem wl_r45 : ∀ w ∈ wsL_law_r45, w ∈ lw_tbl := wl_p [1123, 1124, 1126, 1128, 30, 1129, 280, 1130, 1131, 1132, 1133, 1134, 1136, 31, 1137, 1138, 1140, 32, 1141, 476, 1142, 1143, 1144, 1145] (by decide +kernel)
set_option maxRecDepth 20000 in
theorem wl_r46 : ∀ w ∈ wsL_law_r46, w ∈ lw_tbl := wl_p [1146, 1147, 1148, 1149, 1150, 1152, 33, 1153, 1154, 1156, 34, 1157, 1158, 1159, 1160, 349, 1161, 1162, 1164, 35, 1165, 1166, 1168, 36] (by decide +kernel)
set_option maxRecDepth 20000 in
theorem wl_r47 : ∀ w ∈ wsL_law_r47, w ∈ lw_tbl := wl_p [1169, 1170, 1171, 1172, 1173, 1175, 37, 1176, 216, 1177, 1896, 1897, 1898, 1899, 1900, 1901, 1903, 114, 1904, 1905, 1907, 115, 1908, 1504] (by decide +kernel)
set_option maxRecDepth 20000 in
theorem wl_r48 : ∀ w ∈ wsL_law_r48, w ∈ lw_tbl := wl_p [1909, 1911, 116, 1912, 1503, 1913, 1915, 117, 1916, 1917, 1919, 118, 1920, 1921, 1923, 119, 1924, 1925, 1927, 120, 1928, 1929, 1931, 121] (by decide +kernel)
set_option maxRecDepth 20000 in
theorem wl_r49 : ∀ w ∈ wsL_law_r49, w ∈ lw_tbl := wl_p [1932, 1933, 1934, 1936, 122, 1937, 1938, 1940, 123, 1941, 1942, 1944, 124, 1945, 1497, 1946, 1948, 125, 1949, 1950, 1952, 126, 1953, 1954] (by decide +kernel)
set_option maxRecDepth 20000 in
theorem wl_r50 : ∀ w ∈ wsL_law_r50, w ∈ lw_tbl := wl_p [1955, 1956, 1957, 1959, 127, 1960, 1178, 1179, 1180, 1181, 1182, 1183, 1184, 1185, 1186, 1187, 1188, 1189, 226, 1190, 1192, 38, 1193, 1194] (by decide +kernel)
set_option maxRecDepth 20000 in
theorem wl_r51 : ∀ w ∈ wsL_law_r51, w ∈ lw_tbl := wl_p [1196, 39, 1197, 1198, 1200, 40, 1201, 214, 1202, 1203, 1204, 1205, 1206, 1207, 1208, 1210, 41, 1211, 2000, 2001, 2002, 2003, 2004, 2006] (by decide +kernel)
set_option maxRecDepth 20000 in
theorem wl_r52 : ∀ w ∈ wsL_law_r52, w ∈ lw_tbl := wl_p [134, 2007, 2008, 2010, 135, 2011, 2012, 2014, 136, 2015, 1212, 1213, 1214, 1215, 1216, 1217, 1218, 1219, 236, 1220, 1221, 1223, 42, 1224] (by decide +kernel)
set_option maxRecDepth 20000 in
theorem wl_r53 : ∀ w ∈ wsL_law_r53, w ∈ lw_tbl := wl_p [1225, 1227, 43, 1228, 1229, 1231, 44, 1232, 1237, 1233, 1234, 1235, 1236, 1238, 1240, 45, 1241, 2016, 2017, 2018, 2019, 1510, 2020, 2022] (by decide +kernel)
set_option maxRecDepth 20000 in
theorem wl_r54 : ∀ w ∈ wsL_law_r54, w ∈ lw_tbl := wl_p [137, 2023, 1242, 1243, 1244, 1245, 1246, 1247, 1248, 1249, 340, 345, 1250, 1251, 1252, 1253, 1254, 1255, 1256, 1961, 1962, 1963, 1964, 1965] (by decide +kernel)
set_option maxRecDepth 20000 in
theorem wl_r55 : ∀ w ∈ wsL_law_r55, w ∈ lw_tbl := wl_p [1966, 1967, 1969, 128, 1970, 1971, 1973, 129, 1974, 1257, 1258, 1259, 1260, 1261, 1262, 1263, 1264, 481, 1265, 1267, 46, 1268, 1269, 1271] (by decide +kernel)
set_option maxRecDepth 20000 in
theorem wl_r56 : ∀ w ∈ wsL_law_r56, w ∈ lw_tbl := wl_p [47, 1272, 1273, 329, 348, 1274, 1975, 1976, 1977, 1978, 1979, 1981, 130, 1982, 1275, 1276, 1277, 1278, 1279, 1280, 1281, 1282, 519, 1283] (by decide +kernel)
set_option maxRecDepth 20000 in
theorem wl_r57 : ∀ w ∈ wsL_law_r57, w ∈ lw_tbl := wl_p [376, 228, 333, 1284, 1285, 168, 1286, 1287, 1288, 1290, 48, 1291, 1296, 336, 217, 1292, 1294, 49, 1295, 1297, 1298, 1299, 1300, 1301] (by decide +kernel)
set_option maxRecDepth 20000 in
theorem wl_r58 : ∀ w ∈ wsL_law_r58, w ∈ lw_tbl := wl_p [1302, 1983, 1984, 1985, 1986, 1987, 1988, 1990, 131, 1991, 1992, 1994, 132, 1995, 1996, 1998, 133, 1999, 1303, 1304, 1305, 1306, 1307, 1308] (by decide +kernel)
set_option maxRecDepth 20000 in
theorem wl_r59 : ∀ w ∈ wsL_law_r59, w ∈ lw_tbl := wl_p [1309, 1310, 1311, 1313, 50, 1314, 1315, 2024, 2025, 2026, 2027, 2028, 2030, 138, 2031, 1316, 1317, 1318, 1319, 1320, 1321, 1322, 1323, 1324] (by decide +kernel)
set_option maxRecDepth 20000 in
theorem wl_r60 : ∀ w ∈ wsL_law_r60, w ∈ lw_tbl := wl_p [2032, 2033, 2034, 2035, 1325, 1326, 1327, 1328, 407, 386, 390, 2036, 2037, 2038, 2039, 1329, 1330, 1331, 1332, 1333, 1334, 1335, 1336, 567] (by decide +kernel)
set_option maxRecDepth 20000 in
theorem wl_r61 : ∀ w ∈ wsL_law_r61, w ∈ lw_tbl := wl_p [232, 1337, 1338, 1339, 1340, 1341, 404, 1342, 1344, 51, 1345, 211, 1346, 1348, 52, 1349, 384, 388, 1350, 1352, 53, 1353, 229, 1354] (by decide +kernel)
set_option maxRecDepth 20000 in
theorem wl_r62 : ∀ w ∈ wsL_law_r62, w ∈ lw_tbl := wl_p [1356, 54, 1357, 1358, 1360, 55, 1361, 1362, 1363, 1364, 1365, 1366, 1368, 56, 1369, 2040, 2041, 2042, 2043, 2044, 2046, 139, 2047, 2048] (by decide +kernel)
set_option maxRecDepth 20000 in
theorem wl_r63 : ∀ w ∈ wsL_law_r63, w ∈ lw_tbl := wl_p [2050, 140, 2051, 2052, 2054, 141, 2055, 2056, 2057, 2058, 1370, 1371, 1372, 1373, 409, 392, 394, 2059, 2060, 2061, 2062, 1374, 1375, 1376] (by decide +kernel)
set_option maxRecDepth 20000 in
theorem wl_r64 : ∀ w ∈ wsL_law_r64, w ∈ lw_tbl := wl_p [1377, 1378, 1379, 1380, 1381, 1382, 1384, 57, 1385, 1386, 1387, 1388, 1389, 1390, 237, 1391, 1393, 58, 1394, 1395, 2063, 2064, 2065, 2066] (by decide +kernel)
set_option maxRecDepth 20000 in
theorem wl_r65 : ∀ w ∈ wsL_law_r65, w ∈ lw_tbl := wl_p [2067, 2069, 142, 2070, 2071, 2073, 143, 2074, 1396, 1397, 1398, 1399, 412, 397, 2075, 2076, 2077, 2078, 1400, 1401, 1402, 1403, 1404, 1405] (by decide +kernel)
set_option maxRecDepth 20000 in
theorem wl_r66 : ∀ w ∈ wsL_law_r66, w ∈ lw_tbl := wl_p [1406, 1407, 401, 1408, 1410, 59, 1411, 411, 396, 2079, 2080, 2081, 2082, 2083, 2085, 144, 2086, 1412, 1413, 1414, 1415, 1416, 1417, 1418] (by decide +kernel)
set_option maxRecDepth 20000 in
theorem wl_r67 : ∀ w ∈ wsL_law_r67, w ∈ lw_tbl := wl_p [1419, 1420, 1421, 1422, 1423, 1424, 1426, 60, 1427, 406, 385, 389, 2087, 2088, 2089, 2090, 2091, 2093, 145, 2094, 1428, 1429, 1430, 1431] (by decide +kernel)
set_option maxRecDepth 20000 in
theorem wl_r68 : ∀ w ∈ wsL_law_r68, w ∈ lw_tbl := wl_p [415, 2095, 2096, 2097, 2098, 1432, 1433, 1434, 1435, 1436, 1437, 1438, 1439, 414, 520, 1440, 1442, 61, 1443, 1444, 1445, 1446, 1447, 2099] (by decide +kernel)
set_option maxRecDepth 20000 in
theorem wl_r69 : ∀ w ∈ wsL_law_r69, w ∈ lw_tbl := wl_p [2100, 2101, 2102, 2103, 1512, 2104, 2106, 146, 2107, 2108, 2109, 2110, 2111, 1448, 1449, 1450, 1451, 240, 242, 2112, 2113, 2114, 2115, 1452] (by decide +kernel)
set_option maxRecDepth 20000 in
theorem wl_r70 : ∀ w ∈ wsL_law_r70, w ∈ lw_tbl := wl_p [1453, 1454, 1455, 1456, 1457, 1458, 1459, 1461, 413, 1460, 1462, 2116, 2117, 2118, 2119, 1463, 1464, 1465, 1466, 2120, 2121, 2122, 2123] (by decide +kernel)
set_option maxRecDepth 20000 in
theorem inX11 : ∀ w ∈ wsX110, w ∈ lw_tbl := by decide +kernel
set_option maxRecDepth 20000 in
theorem inX12 : ∀ w ∈ wsX120, w ∈ lw_tbl := by decide +kernel
set_option maxRecDepth 20000 in
theorem inX6 : ∀ w ∈ wsX60, w ∈ lw_tbl := by decide +kernel
set_option maxRecDepth 20000 in
theorem inX7 : ∀ w ∈ wsX70, w ∈ lw_tbl := by decide +kernel
set_option maxRecDepth 20000 in
theorem inX2 : ∀ w ∈ wsX20, w ∈ lw_tbl := by decide +kernel
set_option maxRecDepth 20000 in
theorem inX3 : ∀ w ∈ wsX30, w ∈ lw_tbl := by decide +kernel
set_option maxRecDepth 20000 in
theorem inX5 : ∀ w ∈ wsX50, w ∈ lw_tbl := by decide +kernel
set_option maxRecDepth 20000 in
theorem inX0 : ∀ w ∈ wsX00, w ∈ lw_tbl := by decide +kernel
set_option maxRecDepth 20000 in
theorem inX1 : ∀ w ∈ wsX10, w ∈ lw_tbl := by decide +kernel
set_option maxRecDepth 20000 in
theorem inX8 : ∀ w ∈ wsX80, w ∈ lw_tbl := by decide +kernel
set_option maxRecDepth 20000 in
theorem inX4 : ∀ w ∈ wsX40, w ∈ lw_tbl := by decide +kernel
set_option maxRecDepth 20000 in
theorem inX10 : ∀ w ∈ wsX100, w ∈ lw_tbl := by decide +kernel
set_option maxRecDepth 20000 in
theorem inX9 : ∀ w ∈ wsX90, w ∈ lw_tbl := by decide +kernel
theorem wsL_law_in : ∀ w ∈ wsL_law, w ∈ lw_tbl := List.forall_mem_append.mpr ⟨List.forall_mem_append.mpr ⟨List.forall_mem_append.mpr ⟨List.forall_mem_append.mpr ⟨List.forall_mem_append.mpr ⟨List.forall_mem_append.mpr ⟨List.forall_mem_append.mpr ⟨List.forall_mem_append.mpr ⟨List.forall_mem_append.mpr ⟨List.forall_mem_append.mpr ⟨List.forall_mem_append.mpr ⟨List.forall_mem_append.mpr ⟨List.forall_mem_append.mpr ⟨List.forall_mem_append.mpr ⟨List.forall_mem_append.mpr ⟨wl_r1, List.forall_mem_append.mpr ⟨wl_r2, List.forall_mem_append.mpr ⟨wl_r3, List.forall_mem_append.mpr ⟨wl_r4, List.forall_mem_append.mpr ⟨wl_r5, List.forall_mem_append.mpr ⟨wl_r6, List.forall_mem_append.mpr ⟨wl_r7, List.forall_mem_append.mpr ⟨wl_r8, List.forall_mem_append.mpr ⟨wl_r9, List.forall_mem_append.mpr ⟨wl_r10, List.forall_mem_append.mpr ⟨wl_r11, List.forall_mem_append.mpr ⟨wl_r12, List.forall_mem_append.mpr ⟨wl_r13, List.forall_mem_append.mpr ⟨wl_r14, List.forall_mem_append.mpr ⟨wl_r15, List.forall_mem_append.mpr ⟨wl_r16, List.forall_mem_append.mpr ⟨wl_r17, List.forall_mem_append.mpr ⟨wl_r18, List.forall_mem_append.mpr ⟨wl_r19, List.forall_mem_append.mpr ⟨wl_r20, List.forall_mem_append.mpr ⟨wl_r21, List.forall_mem_append.mpr ⟨wl_r22, List.forall_mem_append.mpr ⟨wl_r23, List.forall_mem_append.mpr ⟨wl_r24, List.forall_mem_append.mpr ⟨wl_r25, List.forall_mem_append.mpr ⟨wl_r26, List.forall_mem_append.mpr ⟨wl_r27, List.forall_mem_append.mpr ⟨wl_r28, List.forall_mem_append.mpr ⟨wl_r29, List.forall_mem_append.mpr ⟨wl_r30, List.forall_mem_append.mpr ⟨wl_r31, List.forall_mem_append.mpr ⟨wl_r32, List.forall_mem_append.mpr ⟨wl_r33, List.forall_mem_append.mpr ⟨wl_r34, List.forall_mem_append.mpr ⟨wl_r35, List.forall_mem_append.mpr ⟨wl_r36, List.forall_mem_append.mpr ⟨wl_r37, List.forall_mem_append.mpr ⟨wl_r38, List.forall_mem_append.mpr ⟨wl_r39, List.forall_mem_append.mpr ⟨wl_r40, List.forall_mem_append.mpr ⟨wl_r41, List.forall_mem_append.mpr ⟨wl_r42, List.forall_mem_append.mpr ⟨wl_r43, List.forall_mem_append.mpr ⟨wl_r44, List.forall_mem_append.mpr ⟨wl_r45, List.forall_mem_append.mpr ⟨wl_r46, List.forall_mem_append.mpr ⟨wl_r47, List.forall_mem_append.mpr ⟨wl_r48, List.forall_mem_append.mpr ⟨wl_r49, List.forall_mem_append.mpr ⟨wl_r50, List.forall_mem_append.mpr ⟨wl_r51, List.forall_mem_append.mpr ⟨wl_r52, List.forall_mem_append.mpr ⟨wl_r53, List.forall_mem_append.mpr ⟨wl_r54, List.forall_mem_append.mpr ⟨wl_r55, List.forall_mem_append.mpr ⟨wl_r56, List.forall_mem_append.mpr ⟨wl_r57, List.forall_mem_append.mpr ⟨wl_r58, List.forall_mem_append.mpr ⟨wl_r59, List.forall_mem_append.mpr ⟨wl_r60, List.forall_mem_append.mpr ⟨wl_r61, List.forall_mem_append.mpr ⟨wl_r62, List.forall_mem_append.mpr ⟨wl_r63, List.forall_mem_append.mpr ⟨wl_r64, List.forall_mem_append.mpr ⟨wl_r65, List.forall_mem_append.mpr ⟨wl_r66, List.forall_mem_append.mpr ⟨wl_r67, List.forall_mem_append.mpr ⟨wl_r68, List.forall_mem_append.mpr ⟨wl_r69, wl_r70⟩⟩⟩⟩⟩⟩⟩⟩⟩⟩⟩⟩⟩⟩⟩⟩⟩⟩⟩⟩⟩⟩⟩⟩⟩⟩⟩⟩⟩⟩⟩⟩⟩⟩⟩⟩⟩⟩⟩⟩⟩⟩⟩⟩⟩⟩⟩⟩⟩⟩⟩⟩⟩⟩⟩⟩⟩⟩⟩⟩⟩⟩⟩⟩⟩⟩⟩⟩⟩, inX11⟩, inX12⟩, inX6⟩, inX7⟩, inX2⟩, inX3⟩, inX5⟩, inX0⟩, inX1⟩, inX8⟩, inX4⟩, inX10⟩, inX9⟩, (fun _ h => absurd h List.not_mem_nil)⟩
