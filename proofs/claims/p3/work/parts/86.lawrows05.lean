theorem ggL_law_X11_ways : GoodIn wsR wsX11_ways := goodIn_app gk_X11_ways_1 (goodIn_app (goodIn_app (goodIn_app (goodIn_app (goodIn_app (gk_X11_ways_2) (goodIn_app (gk_X11_ways_3) (gk_X11_ways_4))) (gc_X110)) (gc_X50)) (gc_X70)) (gc_X100))
theorem gL_law_X11_ways : GoodIn wsR (wsV RL 103 RX11 yX11_ways wsX11_ways) := goodIn_app (goodIn_r _ [1431, 1432, 1433, 2] (by decide +kernel) (by decide +kernel)) ggL_law_X11_ways
set_option maxRecDepth 20000 in
theorem gk_X12_ways_1 : GoodIn wsR [Cond.code yX12_ways cX12_ways 7 (some .int)] := goodIn_r _ [1482] (by decide +kernel) (by decide +kernel)
set_option maxRecDepth 20000 in
theorem gk_X12_ways_2 : GoodIn wsR wsX12_ways_r1 := goodIn_r _ [822, 169, 178, 823, 824, 825, 5, 826, 529, 530, 531, 741, 742, 743, 744, 1483, 1484, 1485, 1486, 1487, 1488, 1489, 1490, 789] (by decide +kernel) (by decide +kernel)
set_option maxRecDepth 20000 in
theorem gk_X12_ways_3 : GoodIn wsR wsX12_ways_r2 := goodIn_r _ [790, 791, 1491, 1492, 1493, 1494, 1495, 1496, 1497] (by decide +kernel) (by decide +kernel)
theorem ggL_law_X12_ways : GoodIn wsR wsX12_ways := goodIn_app gk_X12_ways_1 (goodIn_app (goodIn_app (gk_X12_ways_2) (gk_X12_ways_3)) (gc_X120))
theorem gL_law_X12_ways : GoodIn wsR (wsV RL 106 RX12 yX12_ways wsX12_ways) := goodIn_app (goodIn_r _ [1479, 1480, 1481, 5] (by decide +kernel) (by decide +kernel)) ggL_law_X12_ways
set_option maxRecDepth 20000 in
theorem gk_X11_sight_1 : GoodIn wsR [Cond.code yX11_sight cX11_sight 3 (some .int)] := goodIn_r _ [1501] (by decide +kernel) (by decide +kernel)
set_option maxRecDepth 20000 in
theorem gk_X11_sight_2 : GoodIn wsR ([Cond.fieldLink RX11 42 "MondayMaps" "state" "LMondayMaps$State;", Cond.fieldLink RX11 267 "MondayMaps$State" "sights" "I", Cond.fieldLink RX11 120 "MondayMaps$State" "town" "LMondayMaps$Town;", Cond.fieldLink RX11 270 "MondayMaps$State" "sightStreet" "[I", Cond.fieldLink RX11 273 "MondayMaps$State" "sightSign" "[I", Cond.methodLink RX11 133 yX7_hasStreet, Cond.instanceMethod yX7_hasStreet, Cond.selects RX7 yX7_hasStreet yX7_hasStreet, Cond.initialized RX7, Cond.code yX7_hasStreet cX7_hasStreet 2 (some .boolean), Cond.fieldLink RX7 46 "MondayMaps$Town" "streets" "I", Cond.methodLink RX11 173 yX11_isSign, Cond.static yX11_isSign, Cond.initialized RX11, Cond.code yX11_isSign cX11_isSign 1 (some .boolean)] : List Cond) := goodIn_r _ [31, 1502, 217, 1503, 1504, 724, 725, 726, 18, 727, 224, 835, 836, 2, 837] (by decide +kernel) (by decide +kernel)
theorem ggL_law_X11_sight : GoodIn wsR wsX11_sight := goodIn_app gk_X11_sight_1 (goodIn_app (goodIn_app (goodIn_app (gk_X11_sight_2) (gc_X110)) (gc_X50)) (gc_X70))
theorem gL_law_X11_sight : GoodIn wsR (wsV RL 107 RX11 yX11_sight wsX11_sight) := goodIn_app (goodIn_r _ [1498, 1499, 1500, 2] (by decide +kernel) (by decide +kernel)) ggL_law_X11_sight
set_option maxRecDepth 20000 in
theorem gk_X12_sight_1 : GoodIn wsR [Cond.code yX12_sight cX12_sight 3 (some .int)] := goodIn_r _ [1508] (by decide +kernel) (by decide +kernel)
set_option maxRecDepth 20000 in
theorem gk_X12_sight_2 : GoodIn wsR ([Cond.fieldLink RX12 45 "MondayMapsModel" "said" "[I", Cond.constantLong RX12 345 (3), Cond.methodLink RX12 323 yX12_isStreet, Cond.instanceMethod yX12_isStreet, Cond.selects RX12 yX12_isStreet yX12_isStreet, Cond.initialized RX12, Cond.code yX12_isStreet cX12_isStreet 2 (some .boolean), Cond.methodLink RX12 122 yX12_in, Cond.static yX12_in, Cond.code yX12_in cX12_in 6 (some .boolean)] : List Cond) := goodIn_r _ [169, 842, 737, 738, 739, 5, 740, 529, 530, 531] (by decide +kernel) (by decide +kernel)
theorem ggL_law_X12_sight : GoodIn wsR wsX12_sight := goodIn_app gk_X12_sight_1 (goodIn_app (gk_X12_sight_2) (gc_X120))
theorem gL_law_X12_sight : GoodIn wsR (wsV RL 110 RX12 yX12_sight wsX12_sight) := goodIn_app (goodIn_r _ [1505, 1506, 1507, 5] (by decide +kernel) (by decide +kernel)) ggL_law_X12_sight
set_option maxRecDepth 20000 in
theorem gk_X11_weekdays_1 : GoodIn wsR [Cond.code yX11_weekdays cX11_weekdays 3 (some .int)] := goodIn_r _ [1512] (by decide +kernel) (by decide +kernel)
set_option maxRecDepth 20000 in
theorem gk_X11_weekdays_2 : GoodIn wsR wsX11_weekdays_r1 := goodIn_r _ [31, 809, 810, 811, 30, 812, 90, 813, 1513, 1514, 1515, 1516, 1517, 1518, 1519, 1520, 445, 96, 97, 1521, 729, 730, 18, 731] (by decide +kernel) (by decide +kernel)
set_option maxRecDepth 20000 in
theorem gk_X11_weekdays_3 : GoodIn wsR wsX11_weekdays_r2 := goodIn_r _ [67, 1522, 1523, 1524, 1525, 1526, 1527, 1528, 1529, 1530, 1531, 351, 352, 353] (by decide +kernel) (by decide +kernel)
theorem ggL_law_X11_weekdays : GoodIn wsR wsX11_weekdays := goodIn_app gk_X11_weekdays_1 (goodIn_app (goodIn_app (goodIn_app (goodIn_app (gk_X11_weekdays_2) (gk_X11_weekdays_3)) (gc_X110)) (gc_X50)) (gc_X70))
theorem gL_law_X11_weekdays : GoodIn wsR (wsV RL 111 RX11 yX11_weekdays wsX11_weekdays) := goodIn_app (goodIn_r _ [1509, 1510, 1511, 2] (by decide +kernel) (by decide +kernel)) ggL_law_X11_weekdays
set_option maxRecDepth 20000 in
theorem gk_X12_weekdays_1 : GoodIn wsR [Cond.code yX12_weekdays cX12_weekdays 5 (some .int)] := goodIn_r _ [1535] (by decide +kernel) (by decide +kernel)
set_option maxRecDepth 20000 in
theorem gk_X12_weekdays_2 : GoodIn wsR ([Cond.fieldLink RX12 45 "MondayMapsModel" "said" "[I", Cond.methodLink RX12 337 yX12_isTown, Cond.instanceMethod yX12_isTown, Cond.selects RX12 yX12_isTown yX12_isTown, Cond.initialized RX12, Cond.code yX12_isTown cX12_isTown 1 (some .boolean), Cond.methodLink RX12 122 yX12_in, Cond.static yX12_in, Cond.code yX12_in cX12_in 6 (some .boolean), Cond.methodLink RX12 481 yX12_fitting, Cond.instanceMethod yX12_fitting, Cond.selects RX12 yX12_fitting yX12_fitting, Cond.code yX12_fitting cX12_fitting 5 (some .int), Cond.methodLink RX12 300 yX12_streetOf, Cond.instanceMethod yX12_streetOf, Cond.selects RX12 yX12_streetOf yX12_streetOf, Cond.code yX12_streetOf cX12_streetOf 3 (some .int), Cond.methodLink RX12 484 yX12_mostAlike, Cond.instanceMethod yX12_mostAlike, Cond.selects RX12 yX12_mostAlike yX12_mostAlike, Cond.code yX12_mostAlike cX12_mostAlike 7 (some .int), Cond.methodLink RX12 304 yX12_isOf, Cond.static yX12_isOf, Cond.code yX12_isOf cX12_isOf 2 (some .boolean)] : List Cond) := goodIn_r _ [169, 823, 824, 825, 5, 826, 529, 530, 531, 1536, 1537, 1538, 1539, 741, 742, 743, 744, 1540, 1541, 1542, 1543, 789, 790, 791] (by decide +kernel) (by decide +kernel)
theorem ggL_law_X12_weekdays : GoodIn wsR wsX12_weekdays := goodIn_app gk_X12_weekdays_1 (goodIn_app (gk_X12_weekdays_2) (gc_X120))
theorem gL_law_X12_weekdays : GoodIn wsR (wsV RL 114 RX12 yX12_weekdays wsX12_weekdays) := goodIn_app (goodIn_r _ [1532, 1533, 1534, 5] (by decide +kernel) (by decide +kernel)) ggL_law_X12_weekdays
set_option maxRecDepth 20000 in
theorem gk_X11_came_1 : GoodIn wsR [Cond.code yX11_came cX11_came 2 (some .int)] := goodIn_r _ [1547] (by decide +kernel) (by decide +kernel)
set_option maxRecDepth 20000 in
theorem gk_X11_came_2 : GoodIn wsR ([Cond.fieldLink RX11 42 "MondayMaps" "state" "LMondayMaps$State;", Cond.fieldLink RX11 282 "MondayMaps$State" "arrivals" "I", Cond.fieldLink RX11 285 "MondayMaps$State" "arrival" "[I", Cond.methodLink RX11 176 yX11_hasCorner, Cond.instanceMethod yX11_hasCorner, Cond.selects RX11 yX11_hasCorner yX11_hasCorner, Cond.initialized RX11, Cond.code yX11_hasCorner cX11_hasCorner 2 (some .boolean), Cond.fieldLink RX11 120 "MondayMaps$State" "town" "LMondayMaps$Town;", Cond.fieldLink RX11 301 "MondayMaps$Town" "corners" "I"] : List Cond) := goodIn_r _ [31, 1548, 1549, 859, 860, 861, 2, 862, 217, 863] (by decide +kernel) (by decide +kernel)
theorem ggL_law_X11_came : GoodIn wsR wsX11_came := goodIn_app gk_X11_came_1 (goodIn_app (goodIn_app (goodIn_app (gk_X11_came_2) (gc_X110)) (gc_X50)) (gc_X70))
theorem gL_law_X11_came : GoodIn wsR (wsV RL 115 RX11 yX11_came wsX11_came) := goodIn_app (goodIn_r _ [1544, 1545, 1546, 2] (by decide +kernel) (by decide +kernel)) ggL_law_X11_came
set_option maxRecDepth 20000 in
theorem gk_X12_came_1 : GoodIn wsR [Cond.code yX12_came cX12_came 2 (some .int)] := goodIn_r _ [1553] (by decide +kernel) (by decide +kernel)
set_option maxRecDepth 20000 in
theorem gk_X12_came_2 : GoodIn wsR ([Cond.fieldLink RX12 45 "MondayMapsModel" "said" "[I", Cond.methodLink RX12 328 yX12_isCorner, Cond.instanceMethod yX12_isCorner, Cond.selects RX12 yX12_isCorner yX12_isCorner, Cond.initialized RX12, Cond.code yX12_isCorner cX12_isCorner 2 (some .boolean)] : List Cond) := goodIn_r _ [169, 766, 767, 768, 5, 769] (by decide +kernel) (by decide +kernel)
theorem ggL_law_X12_came : GoodIn wsR wsX12_came := goodIn_app gk_X12_came_1 (goodIn_app (gk_X12_came_2) (gc_X120))
theorem gL_law_X12_came : GoodIn wsR (wsV RL 118 RX12 yX12_came wsX12_came) := goodIn_app (goodIn_r _ [1550, 1551, 1552, 5] (by decide +kernel) (by decide +kernel)) ggL_law_X12_came
set_option maxRecDepth 20000 in
theorem gk_X11_had_1 : GoodIn wsR [Cond.code yX11_had cX11_had 2 (some .int)] := goodIn_r _ [1557] (by decide +kernel) (by decide +kernel)
set_option maxRecDepth 20000 in
theorem gk_X11_had_2 : GoodIn wsR wsX11_had_r1 := goodIn_r _ [38, 46, 31, 936, 971, 972, 973, 2, 974, 935, 997, 998, 999, 37, 1000, 113, 1001, 1002, 865, 866, 867, 112, 868, 869] (by decide +kernel) (by decide +kernel)
set_option maxRecDepth 20000 in
theorem gk_X11_had_3 : GoodIn wsR wsX11_had_r2 := goodIn_r _ [870, 871, 110, 872, 111, 873, 874, 875, 876, 877, 878, 879, 880, 881, 882, 883, 884, 729, 730, 18, 731, 67, 885, 886] (by decide +kernel) (by decide +kernel)
set_option maxRecDepth 20000 in
theorem gk_X11_had_4 : GoodIn wsR wsX11_had_r3 := goodIn_r _ [887, 888, 65, 889, 890, 891, 892, 893, 894, 895, 896, 897, 898, 899, 900, 901, 1558, 1559, 1560, 45, 1561, 131, 1562, 128] (by decide +kernel) (by decide +kernel)
set_option maxRecDepth 20000 in
theorem gk_X11_had_5 : GoodIn wsR wsX11_had_r4 := goodIn_r _ [1357, 1284, 1285, 1286, 100, 1287, 945, 946, 947, 948, 949, 950, 951, 952, 954, 1288, 942, 943, 944, 953, 1563, 1564, 1565, 1566] (by decide +kernel) (by decide +kernel)
set_option maxRecDepth 20000 in
theorem gk_X11_had_6 : GoodIn wsR wsX11_had_r5 := goodIn_r _ [1567, 133, 1323, 1568, 1325, 1008, 1009, 41, 1010, 1011, 122, 1012, 1013, 1014, 1015, 1016, 1017, 1018, 1019, 1020, 1021, 1022, 1023, 1024] (by decide +kernel) (by decide +kernel)
set_option maxRecDepth 20000 in
theorem gk_X11_had_7 : GoodIn wsR wsX11_had_r6 := goodIn_r _ [1025, 1026, 1027, 1028, 1029, 121, 1030, 1031, 1032, 351, 352, 353, 1033, 120, 1034, 1035, 1036, 1037, 1038, 1039, 1040, 1041, 1042, 1043] (by decide +kernel) (by decide +kernel)
set_option maxRecDepth 20000 in
theorem gk_X11_had_8 : GoodIn wsR wsX11_had_r7 := goodIn_r _ [1044, 1045, 1046, 1047, 1048, 1049, 1050, 907, 908, 909, 1051, 1052, 1053, 1054, 1055, 435, 436, 437, 1056, 751, 752, 753, 754, 755] (by decide +kernel) (by decide +kernel)
set_option maxRecDepth 20000 in
theorem gk_X11_had_9 : GoodIn wsR wsX11_had_r8 := goodIn_r _ [756, 757, 758, 69, 759, 72, 71, 760, 761, 68, 1057, 903, 904, 905, 1058, 1059, 1060, 1061, 1062, 1063, 1064, 1065, 23, 1066] (by decide +kernel) (by decide +kernel)
set_option maxRecDepth 20000 in
theorem gk_X11_had_10 : GoodIn wsR wsX11_had_r9 := goodIn_r _ [77, 1067, 1068, 1069, 1070, 1071, 1072, 1073, 1074, 1075, 119, 1076, 1077, 1078, 1079, 78, 1080, 1081, 1082, 1083, 79, 1084, 1085, 1086] (by decide +kernel) (by decide +kernel)
set_option maxRecDepth 20000 in
theorem gk_X11_had_11 : GoodIn wsR wsX11_had_r10 := goodIn_r _ [1087, 1088, 1089, 1090, 1091, 1092, 1093, 1094, 1095, 1096, 1097, 1098, 1099, 1100, 1101, 1102, 1103, 1104, 1105, 1106, 1107, 1108, 1109, 1110] (by decide +kernel) (by decide +kernel)
set_option maxRecDepth 20000 in
theorem gk_X11_had_12 : GoodIn wsR wsX11_had_r11 := goodIn_r _ [1111, 1112, 1113] (by decide +kernel) (by decide +kernel)
theorem ggL_law_X11_had : GoodIn wsR wsX11_had := goodIn_app gk_X11_had_1 (goodIn_app (goodIn_app (goodIn_app (goodIn_app (goodIn_app (goodIn_app (goodIn_app (goodIn_app (goodIn_app (gk_X11_had_2) (goodIn_app (gk_X11_had_3) (goodIn_app (gk_X11_had_4) (goodIn_app (gk_X11_had_5) (goodIn_app (gk_X11_had_6) (goodIn_app (gk_X11_had_7) (goodIn_app (gk_X11_had_8) (goodIn_app (gk_X11_had_9) (goodIn_app (gk_X11_had_10) (goodIn_app (gk_X11_had_11) (gk_X11_had_12))))))))))) (gc_X110)) (gc_X50)) (gc_X00)) (gc_X70)) (gc_X80)) (gc_X90)) (gc_X10)) (gc_X20))
theorem gL_law_X11_had : GoodIn wsR (wsV RL 119 RX11 yX11_had wsX11_had) := goodIn_app (goodIn_r _ [1554, 1555, 1556, 2] (by decide +kernel) (by decide +kernel)) ggL_law_X11_had
set_option maxRecDepth 20000 in
theorem gk_X12_had_1 : GoodIn wsR [Cond.code yX12_had cX12_had 4 (some .int)] := goodIn_r _ [1572] (by decide +kernel) (by decide +kernel)
set_option maxRecDepth 20000 in
theorem gk_X12_had_2 : GoodIn wsR wsX12_had_r1 := goodIn_r _ [173, 169, 984, 985, 986, 5, 987, 1297, 1298, 1299, 1300, 1573, 1574, 1575, 1576, 1119, 1120, 1121, 1122, 988, 989, 990, 991, 1123] (by decide +kernel) (by decide +kernel)
set_option maxRecDepth 20000 in
theorem gk_X12_had_3 : GoodIn wsR wsX12_had_r2 := goodIn_r _ [1124, 1125, 1126, 1127, 1128, 1129, 1130, 1131, 1132, 1133, 1134, 1135, 1136, 1137, 1138, 1139, 1140, 171, 741, 742, 743, 744, 915, 916] (by decide +kernel) (by decide +kernel)
set_option maxRecDepth 20000 in
theorem gk_X12_had_4 : GoodIn wsR wsX12_had_r3 := goodIn_r _ [917, 918, 919, 920, 921, 922, 172, 914, 789, 790, 791, 923, 924, 925, 926, 770, 771, 772, 773, 785, 786, 787, 788, 927] (by decide +kernel) (by decide +kernel)
set_option maxRecDepth 20000 in
theorem gk_X12_had_5 : GoodIn wsR wsX12_had_r4 := goodIn_r _ [928, 929, 930, 1141, 1142, 1143, 1144, 162, 161, 1145, 1146, 1147, 1148, 777, 778, 779, 780, 781, 782, 783, 784, 792, 793, 794] (by decide +kernel) (by decide +kernel)
set_option maxRecDepth 20000 in
theorem gk_X12_had_6 : GoodIn wsR wsX12_had_r5 := goodIn_r _ [795, 170, 796, 797, 798, 799, 1149, 1150, 1151, 1152, 168, 1153, 1154, 1155, 1156, 1157, 1158, 1159, 1160, 1161, 1162, 1163, 1164, 1165] (by decide +kernel) (by decide +kernel)
set_option maxRecDepth 20000 in
theorem gk_X12_had_7 : GoodIn wsR wsX12_had_r6 := goodIn_r _ [1166, 159, 1167, 1168, 1169, 1170, 167, 1171, 1172, 1173, 1174, 1175, 1176, 1177, 1178, 1179, 1180, 1181, 1301, 1302, 1303, 1304] (by decide +kernel) (by decide +kernel)
theorem ggL_law_X12_had : GoodIn wsR wsX12_had := goodIn_app gk_X12_had_1 (goodIn_app (goodIn_app (gk_X12_had_2) (goodIn_app (gk_X12_had_3) (goodIn_app (gk_X12_had_4) (goodIn_app (gk_X12_had_5) (goodIn_app (gk_X12_had_6) (gk_X12_had_7)))))) (gc_X120))
theorem gL_law_X12_had : GoodIn wsR (wsV RL 122 RX12 yX12_had wsX12_had) := goodIn_app (goodIn_r _ [1569, 1570, 1571, 5] (by decide +kernel) (by decide +kernel)) ggL_law_X12_had
set_option maxRecDepth 20000 in
theorem gk_X11_built_1 : GoodIn wsR [Cond.code yX11_built cX11_built 4 (some .int)] := goodIn_r _ [1580] (by decide +kernel) (by decide +kernel)
set_option maxRecDepth 20000 in
theorem gk_X11_built_2 : GoodIn wsR wsX11_built_r1 := goodIn_r _ [31, 50, 809, 810, 811, 30, 812, 90, 813, 1186, 1187, 2, 1188, 1189, 1581, 1582, 1583, 49, 1584, 143, 1194, 1585, 1586, 1587] (by decide +kernel) (by decide +kernel)
set_option maxRecDepth 20000 in
theorem gk_X11_built_3 : GoodIn wsR wsX11_built_r2 := goodIn_r _ [18, 1588, 224, 325, 326, 327, 328, 65, 66, 68, 69, 407, 408, 409, 410, 67, 430, 431, 432, 433, 72, 225, 70, 434] (by decide +kernel) (by decide +kernel)
set_option maxRecDepth 20000 in
theorem gk_X11_built_4 : GoodIn wsR wsX11_built_r3 := goodIn_r _ [435, 436, 437, 1589, 1590, 1591, 1592, 141, 1593, 1242, 1594, 1595, 1243, 1191, 1192, 1193, 139, 140, 1195, 1196, 1197, 1198, 1199, 1200] (by decide +kernel) (by decide +kernel)
set_option maxRecDepth 20000 in
theorem gk_X11_built_5 : GoodIn wsR wsX11_built_r4 := goodIn_r _ [1201, 1202, 1203, 1204, 1205, 1206, 1207, 1208, 1209, 886, 887, 888, 1210, 1211, 1212, 1213, 1214, 1215, 1216, 1217, 761, 755, 756, 757] (by decide +kernel) (by decide +kernel)
