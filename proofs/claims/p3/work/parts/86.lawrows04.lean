set_option maxRecDepth 20000 in
theorem gk_X11_round_10 : GoodIn wsR wsX11_round_r9 := goodIn_r _ [1064, 1065, 23, 1066, 77, 1067, 1068, 1069, 1070, 1071, 1072, 1073, 1074, 1075, 119, 1076, 1077, 1078, 1079, 78, 1080, 1081, 1082, 1083] (by decide +kernel) (by decide +kernel)
set_option maxRecDepth 20000 in
theorem gk_X11_round_11 : GoodIn wsR wsX11_round_r10 := goodIn_r _ [79, 1084, 1085, 1086, 1087, 1088, 1089, 1090, 1091, 1092, 1093, 1094, 1095, 1096, 1097, 1098, 1099, 1100, 1101, 1102, 1103, 1104, 1105, 1106] (by decide +kernel) (by decide +kernel)
set_option maxRecDepth 20000 in
theorem gk_X11_round_12 : GoodIn wsR wsX11_round_r11 := goodIn_r _ [1107, 1108, 1109, 1110, 1111, 1112, 1113, 1290] (by decide +kernel) (by decide +kernel)
theorem ggL_law_X11_round : GoodIn wsR wsX11_round := goodIn_app gk_X11_round_1 (goodIn_app (goodIn_app (goodIn_app (goodIn_app (goodIn_app (goodIn_app (goodIn_app (goodIn_app (goodIn_app (gk_X11_round_2) (goodIn_app (gk_X11_round_3) (goodIn_app (gk_X11_round_4) (goodIn_app (gk_X11_round_5) (goodIn_app (gk_X11_round_6) (goodIn_app (gk_X11_round_7) (goodIn_app (gk_X11_round_8) (goodIn_app (gk_X11_round_9) (goodIn_app (gk_X11_round_10) (goodIn_app (gk_X11_round_11) (gk_X11_round_12))))))))))) (gc_X110)) (gc_X50)) (gc_X00)) (gc_X70)) (gc_X80)) (gc_X10)) (gc_X90)) (gc_X20))
theorem gL_law_X11_round : GoodIn wsR (wsV RL 83 RX11 yX11_round wsX11_round) := goodIn_app (goodIn_r _ [1305, 1306, 1307, 2] (by decide +kernel) (by decide +kernel)) ggL_law_X11_round
set_option maxRecDepth 20000 in
theorem gk_X12_round_1 : GoodIn wsR [Cond.code yX12_round cX12_round 6 (some .int)] := goodIn_r _ [1329] (by decide +kernel) (by decide +kernel)
set_option maxRecDepth 20000 in
theorem gk_X12_round_2 : GoodIn wsR wsX12_round_r1 := goodIn_r _ [1132, 170, 174, 984, 985, 986, 5, 987, 169, 529, 530, 531, 1297, 1298, 1299, 1300, 173, 1330, 1331, 1332, 1333, 988, 989, 990] (by decide +kernel) (by decide +kernel)
set_option maxRecDepth 20000 in
theorem gk_X12_round_3 : GoodIn wsR wsX12_round_r2 := goodIn_r _ [991, 1119, 1120, 1121, 1122, 1123, 1124, 1125, 1126, 1127, 1128, 1129, 1130, 1131, 1133, 1134, 1135, 1136, 1137, 1138, 1139, 1140, 171, 741] (by decide +kernel) (by decide +kernel)
set_option maxRecDepth 20000 in
theorem gk_X12_round_4 : GoodIn wsR wsX12_round_r3 := goodIn_r _ [742, 743, 744, 915, 916, 917, 918, 919, 920, 921, 922, 172, 914, 789, 790, 791, 923, 924, 925, 926, 770, 771, 772, 773] (by decide +kernel) (by decide +kernel)
set_option maxRecDepth 20000 in
theorem gk_X12_round_5 : GoodIn wsR wsX12_round_r4 := goodIn_r _ [785, 786, 787, 788, 927, 928, 929, 930, 1141, 1142, 1143, 1144, 162, 161, 1145, 1146, 1147, 1148, 777, 778, 779, 780, 781, 782] (by decide +kernel) (by decide +kernel)
set_option maxRecDepth 20000 in
theorem gk_X12_round_6 : GoodIn wsR wsX12_round_r5 := goodIn_r _ [783, 784, 792, 793, 794, 795, 796, 797, 798, 799, 1149, 1150, 1151, 1152, 168, 1153, 1154, 1155, 1156, 1157, 1158, 1159, 1160, 1161] (by decide +kernel) (by decide +kernel)
set_option maxRecDepth 20000 in
theorem gk_X12_round_7 : GoodIn wsR wsX12_round_r6 := goodIn_r _ [1162, 1163, 1164, 1165, 1166, 159, 1167, 1168, 1169, 1170, 167, 1171, 1172, 1173, 1174, 1175, 1176, 1177, 1178, 1179, 1180, 1181, 1301, 1302] (by decide +kernel) (by decide +kernel)
set_option maxRecDepth 20000 in
theorem gk_X12_round_8 : GoodIn wsR wsX12_round_r7 := goodIn_r _ [1303, 1304] (by decide +kernel) (by decide +kernel)
theorem ggL_law_X12_round : GoodIn wsR wsX12_round := goodIn_app gk_X12_round_1 (goodIn_app (goodIn_app (gk_X12_round_2) (goodIn_app (gk_X12_round_3) (goodIn_app (gk_X12_round_4) (goodIn_app (gk_X12_round_5) (goodIn_app (gk_X12_round_6) (goodIn_app (gk_X12_round_7) (gk_X12_round_8))))))) (gc_X120))
theorem gL_law_X12_round : GoodIn wsR (wsV RL 86 RX12 yX12_round wsX12_round) := goodIn_app (goodIn_r _ [1326, 1327, 1328, 5] (by decide +kernel) (by decide +kernel)) ggL_law_X12_round
set_option maxRecDepth 20000 in
theorem gk_X11_questions_1 : GoodIn wsR [Cond.code yX11_questions cX11_questions 3 (some .int)] := goodIn_r _ [1337] (by decide +kernel) (by decide +kernel)
set_option maxRecDepth 20000 in
theorem gk_X11_questions_2 : GoodIn wsR wsX11_questions_r1 := goodIn_r _ [38, 46, 31, 936, 971, 972, 973, 2, 974, 935, 997, 998, 999, 37, 1000, 113, 1001, 1002, 865, 866, 867, 112, 868, 869] (by decide +kernel) (by decide +kernel)
set_option maxRecDepth 20000 in
theorem gk_X11_questions_3 : GoodIn wsR wsX11_questions_r2 := goodIn_r _ [870, 871, 110, 872, 111, 873, 874, 875, 876, 877, 878, 879, 880, 881, 882, 883, 884, 729, 730, 18, 731, 67, 885, 886] (by decide +kernel) (by decide +kernel)
set_option maxRecDepth 20000 in
theorem gk_X11_questions_4 : GoodIn wsR wsX11_questions_r3 := goodIn_r _ [887, 888, 65, 889, 890, 891, 892, 893, 894, 895, 896, 897, 898, 899, 900, 901, 1338, 1339, 1340, 45, 1341, 1342, 130, 1343] (by decide +kernel) (by decide +kernel)
set_option maxRecDepth 20000 in
theorem gk_X11_questions_5 : GoodIn wsR wsX11_questions_r4 := goodIn_r _ [1323, 131, 1344, 1345, 1346, 1347, 1348, 1349, 1350, 1351, 1037, 1038, 100, 1039, 954, 1040, 1041, 1042, 1043, 949, 1044, 1352, 1353, 1354] (by decide +kernel) (by decide +kernel)
set_option maxRecDepth 20000 in
theorem gk_X11_questions_6 : GoodIn wsR wsX11_questions_r5 := goodIn_r _ [1355, 1282, 1356, 1357, 132, 1358, 1359, 1360, 1361, 1362, 1363, 355, 352, 356, 1364, 1047, 1048, 1049, 1365, 907, 908, 909, 1366, 435] (by decide +kernel) (by decide +kernel)
set_option maxRecDepth 20000 in
theorem gk_X11_questions_7 : GoodIn wsR wsX11_questions_r6 := goodIn_r _ [436, 437, 1367, 751, 752, 753, 754, 755, 756, 757, 758, 69, 759, 72, 71, 760, 761, 68, 1368] (by decide +kernel) (by decide +kernel)
theorem ggL_law_X11_questions : GoodIn wsR wsX11_questions := goodIn_app gk_X11_questions_1 (goodIn_app (goodIn_app (goodIn_app (goodIn_app (goodIn_app (goodIn_app (goodIn_app (gk_X11_questions_2) (goodIn_app (gk_X11_questions_3) (goodIn_app (gk_X11_questions_4) (goodIn_app (gk_X11_questions_5) (goodIn_app (gk_X11_questions_6) (gk_X11_questions_7)))))) (gc_X110)) (gc_X50)) (gc_X00)) (gc_X70)) (gc_X80)) (gc_X90))
theorem gL_law_X11_questions : GoodIn wsR (wsV RL 87 RX11 yX11_questions wsX11_questions) := goodIn_app (goodIn_r _ [1334, 1335, 1336, 2] (by decide +kernel) (by decide +kernel)) ggL_law_X11_questions
set_option maxRecDepth 20000 in
theorem gk_X12_questions_1 : GoodIn wsR [Cond.code yX12_questions cX12_questions 8 (some .int)] := goodIn_r _ [1372] (by decide +kernel) (by decide +kernel)
set_option maxRecDepth 20000 in
theorem gk_X12_questions_2 : GoodIn wsR wsX12_questions_r1 := goodIn_r _ [1373, 175, 914, 169, 984, 985, 986, 5, 987, 529, 530, 531, 988, 989, 990, 991, 1133, 1134, 1135, 1136, 1374, 1375, 1376, 1377] (by decide +kernel) (by decide +kernel)
set_option maxRecDepth 20000 in
theorem gk_X12_questions_3 : GoodIn wsR wsX12_questions_r2 := goodIn_r _ [1378, 1379, 1380, 1381, 1382, 1383, 1384, 1385, 1137, 1138, 1139, 1140, 171, 741, 742, 743, 744, 915, 916, 917, 918, 919, 920, 921] (by decide +kernel) (by decide +kernel)
set_option maxRecDepth 20000 in
theorem gk_X12_questions_4 : GoodIn wsR wsX12_questions_r3 := goodIn_r _ [922, 172, 789, 790, 791, 923, 924, 925, 926, 770, 771, 772, 773, 785, 786, 787, 788, 927, 928, 929, 930, 777, 778, 779] (by decide +kernel) (by decide +kernel)
set_option maxRecDepth 20000 in
theorem gk_X12_questions_5 : GoodIn wsR wsX12_questions_r4 := goodIn_r _ [780, 781, 782, 783, 784, 792, 793, 794, 795, 170, 796, 797, 798, 799] (by decide +kernel) (by decide +kernel)
theorem ggL_law_X12_questions : GoodIn wsR wsX12_questions := goodIn_app gk_X12_questions_1 (goodIn_app (goodIn_app (gk_X12_questions_2) (goodIn_app (gk_X12_questions_3) (goodIn_app (gk_X12_questions_4) (gk_X12_questions_5)))) (gc_X120))
theorem gL_law_X12_questions : GoodIn wsR (wsV RL 90 RX12 yX12_questions wsX12_questions) := goodIn_app (goodIn_r _ [1369, 1370, 1371, 5] (by decide +kernel) (by decide +kernel)) ggL_law_X12_questions
set_option maxRecDepth 20000 in
theorem gk_X11_cheap_1 : GoodIn wsR [Cond.code yX11_cheap cX11_cheap 2 (some .int)] := goodIn_r _ [1389] (by decide +kernel) (by decide +kernel)
set_option maxRecDepth 20000 in
theorem gk_X11_cheap_2 : GoodIn wsR ([Cond.fieldLink RX11 42 "MondayMaps" "state" "LMondayMaps$State;", Cond.fieldLink RX11 120 "MondayMaps$State" "town" "LMondayMaps$Town;", Cond.methodLink RX11 133 yX7_hasStreet, Cond.instanceMethod yX7_hasStreet, Cond.selects RX7 yX7_hasStreet yX7_hasStreet, Cond.initialized RX7, Cond.code yX7_hasStreet cX7_hasStreet 2 (some .boolean), Cond.fieldLink RX7 46 "MondayMaps$Town" "streets" "I", Cond.methodLink RX11 242 yX7_commonSign, Cond.instanceMethod yX7_commonSign, Cond.selects RX7 yX7_commonSign yX7_commonSign, Cond.code yX7_commonSign cX7_commonSign 4 (some .int), Cond.methodLink RX7 158 yX7_daysWith, Cond.instanceMethod yX7_daysWith, Cond.selects RX7 yX7_daysWith yX7_daysWith, Cond.code yX7_daysWith cX7_daysWith 5 (some .int), Cond.methodLink RX7 155 yX7_signOn, Cond.instanceMethod yX7_signOn, Cond.selects RX7 yX7_signOn yX7_signOn, Cond.code yX7_signOn cX7_signOn 3 (some .int), Cond.fieldLink RX7 18 "MondayMaps$Town" "signs" "[I"] : List Cond) := goodIn_r _ [31, 217, 724, 725, 726, 18, 727, 224, 1390, 1391, 1392, 1393, 1394, 1395, 1396, 1397, 1398, 729, 730, 731, 67] (by decide +kernel) (by decide +kernel)
theorem ggL_law_X11_cheap : GoodIn wsR wsX11_cheap := goodIn_app gk_X11_cheap_1 (goodIn_app (goodIn_app (goodIn_app (gk_X11_cheap_2) (gc_X110)) (gc_X50)) (gc_X70))
theorem gL_law_X11_cheap : GoodIn wsR (wsV RL 91 RX11 yX11_cheap wsX11_cheap) := goodIn_app (goodIn_r _ [1386, 1387, 1388, 2] (by decide +kernel) (by decide +kernel)) ggL_law_X11_cheap
set_option maxRecDepth 20000 in
theorem gk_X12_cheap_1 : GoodIn wsR [Cond.code yX12_cheap cX12_cheap 2 (some .int)] := goodIn_r _ [1402] (by decide +kernel) (by decide +kernel)
set_option maxRecDepth 20000 in
theorem gk_X12_cheap_2 : GoodIn wsR ([Cond.methodLink RX12 323 yX12_isStreet, Cond.instanceMethod yX12_isStreet, Cond.selects RX12 yX12_isStreet yX12_isStreet, Cond.initialized RX12, Cond.code yX12_isStreet cX12_isStreet 2 (some .boolean), Cond.fieldLink RX12 45 "MondayMapsModel" "said" "[I", Cond.methodLink RX12 465 yX12_cheapOf, Cond.instanceMethod yX12_cheapOf, Cond.selects RX12 yX12_cheapOf yX12_cheapOf, Cond.code yX12_cheapOf cX12_cheapOf 7 (some .int), Cond.methodLink RX12 300 yX12_streetOf, Cond.instanceMethod yX12_streetOf, Cond.selects RX12 yX12_streetOf yX12_streetOf, Cond.code yX12_streetOf cX12_streetOf 3 (some .int)] : List Cond) := goodIn_r _ [737, 738, 739, 5, 740, 169, 1403, 1404, 1405, 1406, 741, 742, 743, 744] (by decide +kernel) (by decide +kernel)
theorem ggL_law_X12_cheap : GoodIn wsR wsX12_cheap := goodIn_app gk_X12_cheap_1 (goodIn_app (gk_X12_cheap_2) (gc_X120))
theorem gL_law_X12_cheap : GoodIn wsR (wsV RL 94 RX12 yX12_cheap wsX12_cheap) := goodIn_app (goodIn_r _ [1399, 1400, 1401, 5] (by decide +kernel) (by decide +kernel)) ggL_law_X12_cheap
set_option maxRecDepth 20000 in
theorem gk_X11_wrong_1 : GoodIn wsR [Cond.code yX11_wrong cX11_wrong 4 (some .int)] := goodIn_r _ [1410] (by decide +kernel) (by decide +kernel)
set_option maxRecDepth 20000 in
theorem gk_X11_wrong_2 : GoodIn wsR wsX11_wrong_r1 := goodIn_r _ [31, 217, 218, 809, 810, 811, 30, 812, 90, 813, 1411, 1412, 1413, 18, 1414, 1415, 1391, 1392, 1393, 1394, 1395, 1396, 1397, 1398] (by decide +kernel) (by decide +kernel)
set_option maxRecDepth 20000 in
theorem gk_X11_wrong_3 : GoodIn wsR wsX11_wrong_r2 := goodIn_r _ [729, 730, 731, 67] (by decide +kernel) (by decide +kernel)
theorem ggL_law_X11_wrong : GoodIn wsR wsX11_wrong := goodIn_app gk_X11_wrong_1 (goodIn_app (goodIn_app (goodIn_app (goodIn_app (gk_X11_wrong_2) (gk_X11_wrong_3)) (gc_X110)) (gc_X50)) (gc_X70))
theorem gL_law_X11_wrong : GoodIn wsR (wsV RL 95 RX11 yX11_wrong wsX11_wrong) := goodIn_app (goodIn_r _ [1407, 1408, 1409, 2] (by decide +kernel) (by decide +kernel)) ggL_law_X11_wrong
set_option maxRecDepth 20000 in
theorem gk_X12_wrong_1 : GoodIn wsR [Cond.code yX12_wrong cX12_wrong 5 (some .int)] := goodIn_r _ [1419] (by decide +kernel) (by decide +kernel)
set_option maxRecDepth 20000 in
theorem gk_X12_wrong_2 : GoodIn wsR ([Cond.constantLong RX12 370 (7), Cond.fieldLink RX12 45 "MondayMapsModel" "said" "[I", Cond.methodLink RX12 337 yX12_isTown, Cond.instanceMethod yX12_isTown, Cond.selects RX12 yX12_isTown yX12_isTown, Cond.initialized RX12, Cond.code yX12_isTown cX12_isTown 1 (some .boolean), Cond.methodLink RX12 122 yX12_in, Cond.static yX12_in, Cond.code yX12_in cX12_in 6 (some .boolean), Cond.methodLink RX12 300 yX12_streetOf, Cond.instanceMethod yX12_streetOf, Cond.selects RX12 yX12_streetOf yX12_streetOf, Cond.code yX12_streetOf cX12_streetOf 3 (some .int), Cond.methodLink RX12 465 yX12_cheapOf, Cond.instanceMethod yX12_cheapOf, Cond.selects RX12 yX12_cheapOf yX12_cheapOf, Cond.code yX12_cheapOf cX12_cheapOf 7 (some .int)] : List Cond) := goodIn_r _ [983, 169, 823, 824, 825, 5, 826, 529, 530, 531, 741, 742, 743, 744, 1403, 1404, 1405, 1406] (by decide +kernel) (by decide +kernel)
theorem ggL_law_X12_wrong : GoodIn wsR wsX12_wrong := goodIn_app gk_X12_wrong_1 (goodIn_app (gk_X12_wrong_2) (gc_X120))
theorem gL_law_X12_wrong : GoodIn wsR (wsV RL 98 RX12 yX12_wrong wsX12_wrong) := goodIn_app (goodIn_r _ [1416, 1417, 1418, 5] (by decide +kernel) (by decide +kernel)) ggL_law_X12_wrong
set_option maxRecDepth 20000 in
theorem gk_X11_errand_1 : GoodIn wsR [Cond.code yX11_errand cX11_errand 3 (some .int)] := goodIn_r _ [1423] (by decide +kernel) (by decide +kernel)
set_option maxRecDepth 20000 in
theorem gk_X11_errand_2 : GoodIn wsR ([Cond.fieldLink RX11 42 "MondayMaps" "state" "LMondayMaps$State;", Cond.fieldLink RX11 248 "MondayMaps$State" "errands" "I", Cond.fieldLink RX11 251 "MondayMaps$State" "errandFrom" "[I", Cond.fieldLink RX11 254 "MondayMaps$State" "errandTo" "[I", Cond.methodLink RX11 176 yX11_hasCorner, Cond.instanceMethod yX11_hasCorner, Cond.selects RX11 yX11_hasCorner yX11_hasCorner, Cond.initialized RX11, Cond.code yX11_hasCorner cX11_hasCorner 2 (some .boolean), Cond.fieldLink RX11 120 "MondayMaps$State" "town" "LMondayMaps$Town;", Cond.fieldLink RX11 301 "MondayMaps$Town" "corners" "I"] : List Cond) := goodIn_r _ [31, 1424, 1425, 1426, 859, 860, 861, 2, 862, 217, 863] (by decide +kernel) (by decide +kernel)
theorem ggL_law_X11_errand : GoodIn wsR wsX11_errand := goodIn_app gk_X11_errand_1 (goodIn_app (goodIn_app (goodIn_app (gk_X11_errand_2) (gc_X110)) (gc_X50)) (gc_X70))
theorem gL_law_X11_errand : GoodIn wsR (wsV RL 99 RX11 yX11_errand wsX11_errand) := goodIn_app (goodIn_r _ [1420, 1421, 1422, 2] (by decide +kernel) (by decide +kernel)) ggL_law_X11_errand
set_option maxRecDepth 20000 in
theorem gk_X12_errand_1 : GoodIn wsR [Cond.code yX12_errand cX12_errand 3 (some .int)] := goodIn_r _ [1430] (by decide +kernel) (by decide +kernel)
set_option maxRecDepth 20000 in
theorem gk_X12_errand_2 : GoodIn wsR ([Cond.fieldLink RX12 45 "MondayMapsModel" "said" "[I", Cond.methodLink RX12 328 yX12_isCorner, Cond.instanceMethod yX12_isCorner, Cond.selects RX12 yX12_isCorner yX12_isCorner, Cond.initialized RX12, Cond.code yX12_isCorner cX12_isCorner 2 (some .boolean)] : List Cond) := goodIn_r _ [169, 766, 767, 768, 5, 769] (by decide +kernel) (by decide +kernel)
theorem ggL_law_X12_errand : GoodIn wsR wsX12_errand := goodIn_app gk_X12_errand_1 (goodIn_app (gk_X12_errand_2) (gc_X120))
theorem gL_law_X12_errand : GoodIn wsR (wsV RL 102 RX12 yX12_errand wsX12_errand) := goodIn_app (goodIn_r _ [1427, 1428, 1429, 5] (by decide +kernel) (by decide +kernel)) ggL_law_X12_errand
set_option maxRecDepth 20000 in
theorem gk_X11_ways_1 : GoodIn wsR [Cond.code yX11_ways cX11_ways 4 (some .int)] := goodIn_r _ [1434] (by decide +kernel) (by decide +kernel)
set_option maxRecDepth 20000 in
theorem gk_X11_ways_2 : GoodIn wsR wsX11_ways_r1 := goodIn_r _ [31, 54, 809, 810, 811, 30, 812, 90, 813, 806, 807, 2, 808, 1435, 1436, 1437, 53, 1438, 1439, 152, 1440, 148, 1441, 729] (by decide +kernel) (by decide +kernel)
set_option maxRecDepth 20000 in
theorem gk_X11_ways_3 : GoodIn wsR wsX11_ways_r2 := goodIn_r _ [730, 18, 731, 67, 1442, 1443, 1444, 1445, 150, 1446, 1447, 1448, 1449, 1450, 149, 1451, 1452, 1453, 1454, 1455, 1456, 1457, 1458, 1459] (by decide +kernel) (by decide +kernel)
set_option maxRecDepth 20000 in
theorem gk_X11_ways_4 : GoodIn wsR wsX11_ways_r3 := goodIn_r _ [1460, 1461, 1462, 1463, 1464, 1465, 1466, 1467, 1468, 1469, 1470, 1471, 1472, 1473, 1474, 1475, 1476, 1477, 1478] (by decide +kernel) (by decide +kernel)
