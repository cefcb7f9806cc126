set_option maxRecDepth 20000 in
theorem gk_X11_built_6 : GoodIn wsR wsX11_built_r5 := goodIn_r _ [758, 759, 71, 760] (by decide +kernel) (by decide +kernel)
theorem ggL_law_X11_built : GoodIn wsR wsX11_built := goodIn_app gk_X11_built_1 (goodIn_app (goodIn_app (goodIn_app (goodIn_app (goodIn_app (gk_X11_built_2) (goodIn_app (gk_X11_built_3) (goodIn_app (gk_X11_built_4) (goodIn_app (gk_X11_built_5) (gk_X11_built_6))))) (gc_X110)) (gc_X50)) (gc_X70)) (gc_X40))
theorem gL_law_X11_built : GoodIn wsR (wsV RL 123 RX11 yX11_built wsX11_built) := goodIn_app (goodIn_r _ [1577, 1578, 1579, 2] (by decide +kernel) (by decide +kernel)) ggL_law_X11_built
set_option maxRecDepth 20000 in
theorem gk_X12_built_1 : GoodIn wsR [Cond.code yX12_built cX12_built 11 (some .int)] := goodIn_r _ [1599] (by decide +kernel) (by decide +kernel)
set_option maxRecDepth 20000 in
theorem gk_X12_built_2 : GoodIn wsR wsX12_built_r1 := goodIn_r _ [736, 1296, 169, 823, 824, 825, 5, 826, 529, 530, 531, 774, 775, 776, 594, 1600, 1601, 1602, 1603, 914, 1226, 1227, 1228, 1229] (by decide +kernel) (by decide +kernel)
set_option maxRecDepth 20000 in
theorem gk_X12_built_3 : GoodIn wsR wsX12_built_r2 := goodIn_r _ [176, 177, 770, 771, 772, 773, 741, 742, 743, 744, 1230, 1231, 1232, 1233, 781, 782, 783, 784, 785, 786, 787, 788, 789, 790] (by decide +kernel) (by decide +kernel)
set_option maxRecDepth 20000 in
theorem gk_X12_built_4 : GoodIn wsR wsX12_built_r3 := goodIn_r _ [791, 792, 793, 794, 795, 170, 796, 797, 798, 799, 927, 928, 929, 930] (by decide +kernel) (by decide +kernel)
theorem ggL_law_X12_built : GoodIn wsR wsX12_built := goodIn_app gk_X12_built_1 (goodIn_app (goodIn_app (gk_X12_built_2) (goodIn_app (gk_X12_built_3) (gk_X12_built_4))) (gc_X120))
theorem gL_law_X12_built : GoodIn wsR (wsV RL 126 RX12 yX12_built wsX12_built) := goodIn_app (goodIn_r _ [1596, 1597, 1598, 5] (by decide +kernel) (by decide +kernel)) ggL_law_X12_built
set_option maxRecDepth 20000 in
theorem gk_X11_seed_1 : GoodIn wsR [Cond.code yX11_seed cX11_seed 3 (some .int)] := goodIn_r _ [1607] (by decide +kernel) (by decide +kernel)
set_option maxRecDepth 20000 in
theorem gk_X11_seed_2 : GoodIn wsR ([Cond.fieldLink RX11 42 "MondayMaps" "state" "LMondayMaps$State;", Cond.fieldLink RX11 295 "MondayMaps$State" "x" "I"] : List Cond) := goodIn_r _ [31, 1608] (by decide +kernel) (by decide +kernel)
theorem ggL_law_X11_seed : GoodIn wsR wsX11_seed := goodIn_app gk_X11_seed_1 (goodIn_app (goodIn_app (gk_X11_seed_2) (gc_X110)) (gc_X50))
theorem gL_law_X11_seed : GoodIn wsR (wsV RL 127 RX11 yX11_seed wsX11_seed) := goodIn_app (goodIn_r _ [1604, 1605, 1606, 2] (by decide +kernel) (by decide +kernel)) ggL_law_X11_seed
set_option maxRecDepth 20000 in
theorem gk_X12_seed_1 : GoodIn wsR [Cond.code yX12_seed cX12_seed 3 (some .int)] := goodIn_r _ [1612] (by decide +kernel) (by decide +kernel)
set_option maxRecDepth 20000 in
theorem gk_X12_seed_2 : GoodIn wsR ([Cond.fieldLink RX12 45 "MondayMapsModel" "said" "[I"] : List Cond) := goodIn_r _ [169] (by decide +kernel) (by decide +kernel)
theorem ggL_law_X12_seed : GoodIn wsR wsX12_seed := goodIn_app gk_X12_seed_1 (goodIn_app (gk_X12_seed_2) (gc_X120))
theorem gL_law_X12_seed : GoodIn wsR (wsV RL 130 RX12 yX12_seed wsX12_seed) := goodIn_app (goodIn_r _ [1609, 1610, 1611, 5] (by decide +kernel) (by decide +kernel)) ggL_law_X12_seed
set_option maxRecDepth 20000 in
theorem gk_X11_strangers_1 : GoodIn wsR [Cond.code yX11_strangers cX11_strangers 5 (some .int)] := goodIn_r _ [1616] (by decide +kernel) (by decide +kernel)
set_option maxRecDepth 20000 in
theorem gk_X11_strangers_2 : GoodIn wsR wsX11_strangers_r1 := goodIn_r _ [31, 804, 38, 46, 937, 938, 939, 2, 940, 636, 997, 998, 999, 37, 1000, 113, 1001, 1002, 865, 866, 867, 112, 868, 869] (by decide +kernel) (by decide +kernel)
set_option maxRecDepth 20000 in
theorem gk_X11_strangers_3 : GoodIn wsR wsX11_strangers_r2 := goodIn_r _ [870, 871, 110, 872, 111, 873, 874, 875, 876, 877, 878, 879, 880, 881, 882, 883, 884, 729, 730, 18, 731, 67, 885, 886] (by decide +kernel) (by decide +kernel)
set_option maxRecDepth 20000 in
theorem gk_X11_strangers_4 : GoodIn wsR wsX11_strangers_r3 := goodIn_r _ [887, 888, 65, 889, 890, 891, 892, 893, 894, 895, 896, 897, 898, 899, 900, 901, 1617, 1618, 1619, 45, 1620, 131, 1621, 1622] (by decide +kernel) (by decide +kernel)
set_option maxRecDepth 20000 in
theorem gk_X11_strangers_5 : GoodIn wsR wsX11_strangers_r4 := goodIn_r _ [1344, 1345, 1562, 128, 133, 1282, 1623, 1624, 1625, 1626, 1627, 1628, 1629, 1630, 942, 943, 100, 944, 945, 946, 947, 948, 949, 950] (by decide +kernel) (by decide +kernel)
set_option maxRecDepth 20000 in
theorem gk_X11_strangers_6 : GoodIn wsR wsX11_strangers_r5 := goodIn_r _ [951, 952, 953, 954, 1289, 1004, 1005, 41, 1006, 1007, 1008, 1009, 1010, 1011, 122, 1012, 1013, 1014, 1015, 1016, 1017, 1018, 1019, 1020] (by decide +kernel) (by decide +kernel)
set_option maxRecDepth 20000 in
theorem gk_X11_strangers_7 : GoodIn wsR wsX11_strangers_r6 := goodIn_r _ [1021, 1022, 1023, 1024, 1025, 1026, 1027, 1028, 1029, 121, 1030, 1031, 1032, 351, 352, 353, 1033, 120, 1034, 1035, 1036, 1037, 1038, 1039] (by decide +kernel) (by decide +kernel)
set_option maxRecDepth 20000 in
theorem gk_X11_strangers_8 : GoodIn wsR wsX11_strangers_r7 := goodIn_r _ [1040, 1041, 1042, 1043, 1044, 1045, 1046, 1047, 1048, 1049, 1050, 907, 908, 909, 1051, 1052, 1053, 1054, 1055, 435, 436, 437, 1056, 751] (by decide +kernel) (by decide +kernel)
set_option maxRecDepth 20000 in
theorem gk_X11_strangers_9 : GoodIn wsR wsX11_strangers_r8 := goodIn_r _ [752, 753, 754, 755, 756, 757, 758, 69, 759, 72, 71, 760, 761, 68, 1057, 903, 904, 905, 1058, 1059, 1060, 1061, 1062, 1063] (by decide +kernel) (by decide +kernel)
set_option maxRecDepth 20000 in
theorem gk_X11_strangers_10 : GoodIn wsR wsX11_strangers_r9 := goodIn_r _ [1064, 1065, 23, 1066, 77, 1067, 1068, 1069, 1070, 1071, 1072, 1073, 1074, 1075, 119, 1076, 1077, 1078, 1079, 78, 1080, 1081, 1082, 1083] (by decide +kernel) (by decide +kernel)
set_option maxRecDepth 20000 in
theorem gk_X11_strangers_11 : GoodIn wsR wsX11_strangers_r10 := goodIn_r _ [79, 1084, 1085, 1086, 1087, 1088, 1089, 1090, 1091, 1092, 1093, 1094, 1095, 1096, 1097, 1098, 1099, 1100, 1101, 1102, 1103, 1104, 1105, 1106] (by decide +kernel) (by decide +kernel)
set_option maxRecDepth 20000 in
theorem gk_X11_strangers_12 : GoodIn wsR wsX11_strangers_r11 := goodIn_r _ [1107, 1108, 1109, 1110, 1111, 1112, 1113, 1290] (by decide +kernel) (by decide +kernel)
theorem ggL_law_X11_strangers : GoodIn wsR wsX11_strangers := goodIn_app gk_X11_strangers_1 (goodIn_app (goodIn_app (goodIn_app (goodIn_app (goodIn_app (goodIn_app (goodIn_app (goodIn_app (goodIn_app (gk_X11_strangers_2) (goodIn_app (gk_X11_strangers_3) (goodIn_app (gk_X11_strangers_4) (goodIn_app (gk_X11_strangers_5) (goodIn_app (gk_X11_strangers_6) (goodIn_app (gk_X11_strangers_7) (goodIn_app (gk_X11_strangers_8) (goodIn_app (gk_X11_strangers_9) (goodIn_app (gk_X11_strangers_10) (goodIn_app (gk_X11_strangers_11) (gk_X11_strangers_12))))))))))) (gc_X110)) (gc_X50)) (gc_X00)) (gc_X70)) (gc_X80)) (gc_X90)) (gc_X10)) (gc_X20))
theorem gL_law_X11_strangers : GoodIn wsR (wsV RL 131 RX11 yX11_strangers wsX11_strangers) := goodIn_app (goodIn_r _ [1613, 1614, 1615, 2] (by decide +kernel) (by decide +kernel)) ggL_law_X11_strangers
set_option maxRecDepth 20000 in
theorem gk_X12_strangers_1 : GoodIn wsR [Cond.code yX12_strangers cX12_strangers 12 (some .int)] := goodIn_r _ [1634] (by decide +kernel) (by decide +kernel)
set_option maxRecDepth 20000 in
theorem gk_X12_strangers_2 : GoodIn wsR wsX12_strangers_r1 := goodIn_r _ [169, 1635, 1118, 1636, 823, 824, 825, 5, 826, 959, 960, 961, 962, 717, 529, 530, 531, 1297, 1298, 1299, 1300, 173, 1637, 1638] (by decide +kernel) (by decide +kernel)
set_option maxRecDepth 20000 in
theorem gk_X12_strangers_3 : GoodIn wsR wsX12_strangers_r2 := goodIn_r _ [1639, 1640, 1641, 1642, 1643, 1644, 963, 964, 965, 966, 1119, 1120, 1121, 1122, 988, 989, 990, 991, 1123, 1124, 1125, 1126, 1127, 1128] (by decide +kernel) (by decide +kernel)
set_option maxRecDepth 20000 in
theorem gk_X12_strangers_4 : GoodIn wsR wsX12_strangers_r3 := goodIn_r _ [1129, 1130, 1131, 1132, 1133, 1134, 1135, 1136, 1137, 1138, 1139, 1140, 171, 741, 742, 743, 744, 915, 916, 917, 918, 919, 920, 921] (by decide +kernel) (by decide +kernel)
set_option maxRecDepth 20000 in
theorem gk_X12_strangers_5 : GoodIn wsR wsX12_strangers_r4 := goodIn_r _ [922, 172, 914, 789, 790, 791, 923, 924, 925, 926, 770, 771, 772, 773, 785, 786, 787, 788, 927, 928, 929, 930, 1141, 1142] (by decide +kernel) (by decide +kernel)
set_option maxRecDepth 20000 in
theorem gk_X12_strangers_6 : GoodIn wsR wsX12_strangers_r5 := goodIn_r _ [1143, 1144, 162, 161, 1145, 1146, 1147, 1148, 777, 778, 779, 780, 781, 782, 783, 784, 792, 793, 794, 795, 170, 796, 797, 798] (by decide +kernel) (by decide +kernel)
set_option maxRecDepth 20000 in
theorem gk_X12_strangers_7 : GoodIn wsR wsX12_strangers_r6 := goodIn_r _ [799, 1149, 1150, 1151, 1152, 168, 1153, 1154, 1155, 1156, 1157, 1158, 1159, 1160, 1161, 1162, 1163, 1164, 1165, 1166, 159, 1167, 1168, 1169] (by decide +kernel) (by decide +kernel)
set_option maxRecDepth 20000 in
theorem gk_X12_strangers_8 : GoodIn wsR wsX12_strangers_r7 := goodIn_r _ [1170, 167, 1171, 1172, 1173, 1174, 1175, 1176, 1177, 1178, 1179, 1180, 1181, 1301, 1302, 1303, 1304] (by decide +kernel) (by decide +kernel)
theorem ggL_law_X12_strangers : GoodIn wsR wsX12_strangers := goodIn_app gk_X12_strangers_1 (goodIn_app (goodIn_app (gk_X12_strangers_2) (goodIn_app (gk_X12_strangers_3) (goodIn_app (gk_X12_strangers_4) (goodIn_app (gk_X12_strangers_5) (goodIn_app (gk_X12_strangers_6) (goodIn_app (gk_X12_strangers_7) (gk_X12_strangers_8))))))) (gc_X120))
theorem gL_law_X12_strangers : GoodIn wsR (wsV RL 134 RX12 yX12_strangers wsX12_strangers) := goodIn_app (goodIn_r _ [1631, 1632, 1633, 5] (by decide +kernel) (by decide +kernel)) ggL_law_X12_strangers
set_option maxRecDepth 20000 in
theorem gk_X11_count_1 : GoodIn wsR [Cond.code yX11_count cX11_count 2 (some .int)] := goodIn_r _ [1648] (by decide +kernel) (by decide +kernel)
set_option maxRecDepth 20000 in
theorem gk_X11_count_2 : GoodIn wsR ([Cond.fieldLink RX11 42 "MondayMaps" "state" "LMondayMaps$State;", Cond.fieldLink RX11 120 "MondayMaps$State" "town" "LMondayMaps$Town;", Cond.fieldLink RX11 301 "MondayMaps$Town" "corners" "I", Cond.fieldLink RX11 123 "MondayMaps$Town" "streets" "I", Cond.fieldLink RX11 304 "MondayMaps$Town" "saints" "I", Cond.fieldLink RX11 307 "MondayMaps$Town" "lifts" "I", Cond.fieldLink RX11 126 "MondayMaps" "ruleCount" "I", Cond.fieldLink RX11 161 "MondayMaps$State" "maps" "I", Cond.fieldLink RX11 192 "MondayMaps$State" "walkerCount" "I", Cond.fieldLink RX11 248 "MondayMaps$State" "errands" "I", Cond.fieldLink RX11 267 "MondayMaps$State" "sights" "I", Cond.fieldLink RX11 282 "MondayMaps$State" "arrivals" "I", Cond.fieldLink RX11 295 "MondayMaps$State" "x" "I", Cond.fieldLink RX11 10 "MondayMaps" "tape" "LMondayMaps$Tape;", Cond.fieldLink RX11 103 "MondayMaps$Tape" "length" "I"] : List Cond) := goodIn_r _ [31, 217, 863, 218, 1649, 1650, 636, 804, 935, 1424, 1502, 1548, 1608, 15, 185] (by decide +kernel) (by decide +kernel)
theorem ggL_law_X11_count : GoodIn wsR wsX11_count := goodIn_app gk_X11_count_1 (goodIn_app (goodIn_app (goodIn_app (goodIn_app (gk_X11_count_2) (gc_X110)) (gc_X50)) (gc_X70)) (gc_X60))
theorem gL_law_X11_count : GoodIn wsR (wsV RL 135 RX11 yX11_count wsX11_count) := goodIn_app (goodIn_r _ [1645, 1646, 1647, 2] (by decide +kernel) (by decide +kernel)) ggL_law_X11_count
set_option maxRecDepth 20000 in
theorem gk_X12_count_1 : GoodIn wsR [Cond.code yX12_count cX12_count 2 (some .int)] := goodIn_r _ [1654] (by decide +kernel) (by decide +kernel)
set_option maxRecDepth 20000 in
theorem gk_X12_count_2 : GoodIn wsR ([Cond.fieldLink RX12 45 "MondayMapsModel" "said" "[I", Cond.fieldLink RX12 279 "MondayMapsModel" "rules" "I", Cond.fieldLink RX12 83 "MondayMapsModel" "taped" "I"] : List Cond) := goodIn_r _ [169, 717, 199] (by decide +kernel) (by decide +kernel)
theorem ggL_law_X12_count : GoodIn wsR wsX12_count := goodIn_app gk_X12_count_1 (goodIn_app (gk_X12_count_2) (gc_X120))
theorem gL_law_X12_count : GoodIn wsR (wsV RL 138 RX12 yX12_count wsX12_count) := goodIn_app (goodIn_r _ [1651, 1652, 1653, 5] (by decide +kernel) (by decide +kernel)) ggL_law_X12_count
set_option maxRecDepth 20000 in
theorem gk_X11_image_1 : GoodIn wsR [Cond.code yX11_image cX11_image 2 (some .int)] := goodIn_r _ [1658] (by decide +kernel) (by decide +kernel)
set_option maxRecDepth 20000 in
theorem gk_X11_image_2 : GoodIn wsR wsX11_image_r1 := goodIn_r _ [32, 31, 34, 935, 1659, 1660, 1661, 30, 1662, 90, 91, 1663, 452, 453, 454, 93, 94, 95, 96, 97, 98, 442, 443, 444] (by decide +kernel) (by decide +kernel)
set_option maxRecDepth 20000 in
theorem gk_X11_image_3 : GoodIn wsR wsX11_image_r2 := goodIn_r _ [445, 446, 1664, 1665, 439, 440, 441, 447, 448, 449, 18, 450, 65, 451, 66, 67, 68, 69, 70, 71, 72, 223, 224, 225] (by decide +kernel) (by decide +kernel)
set_option maxRecDepth 20000 in
theorem gk_X11_image_4 : GoodIn wsR wsX11_image_r3 := goodIn_r _ [226, 1666, 1285, 1286, 100, 1287, 945, 946, 947, 948, 949, 950, 951, 952, 954, 1288, 942, 943, 944, 953] (by decide +kernel) (by decide +kernel)
theorem ggL_law_X11_image : GoodIn wsR wsX11_image := goodIn_app gk_X11_image_1 (goodIn_app (goodIn_app (goodIn_app (goodIn_app (goodIn_app (gk_X11_image_2) (goodIn_app (gk_X11_image_3) (gk_X11_image_4))) (gc_X110)) (gc_X50)) (gc_X70)) (gc_X90))
theorem gL_law_X11_image : GoodIn wsR (wsV RL 139 RX11 yX11_image wsX11_image) := goodIn_app (goodIn_r _ [1655, 1656, 1657, 2] (by decide +kernel) (by decide +kernel)) ggL_law_X11_image
set_option maxRecDepth 20000 in
theorem gk_X12_image_1 : GoodIn wsR [Cond.code yX12_image cX12_image 3 (some .int)] := goodIn_r _ [1670] (by decide +kernel) (by decide +kernel)
set_option maxRecDepth 20000 in
theorem gk_X12_image_2 : GoodIn wsR ([Cond.constantLong RX12 345 (3), Cond.fieldLink RX12 80 "MondayMapsModel" "isMade" "[Z", Cond.fieldLink RX12 77 "MondayMapsModel" "images" "[I", Cond.fieldLink RX12 45 "MondayMapsModel" "said" "[I", Cond.methodLink RX12 122 yX12_in, Cond.static yX12_in, Cond.initialized RX12, Cond.code yX12_in cX12_in 6 (some .boolean)] : List Cond) := goodIn_r _ [842, 180, 179, 169, 529, 530, 5, 531] (by decide +kernel) (by decide +kernel)
theorem ggL_law_X12_image : GoodIn wsR wsX12_image := goodIn_app gk_X12_image_1 (goodIn_app (gk_X12_image_2) (gc_X120))
theorem gL_law_X12_image : GoodIn wsR (wsV RL 142 RX12 yX12_image wsX12_image) := goodIn_app (goodIn_r _ [1667, 1668, 1669, 5] (by decide +kernel) (by decide +kernel)) ggL_law_X12_image
set_option maxRecDepth 20000 in
theorem gk_X11_back_1 : GoodIn wsR [Cond.code yX11_back cX11_back 2 (some .int)] := goodIn_r _ [1674] (by decide +kernel) (by decide +kernel)
