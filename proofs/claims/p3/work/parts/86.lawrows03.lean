set_option maxRecDepth 20000 in
theorem gk_X12_step_6 : GoodIn wsR wsX12_step_r5 := goodIn_r _ [799, 1149, 1150, 1151, 1152, 168, 1153, 1154, 1155, 1156, 1157, 1158, 1159, 1160, 1161, 1162, 1163, 1164, 1165, 1166, 159, 1167, 1168, 1169] (by decide +kernel) (by decide +kernel)
set_option maxRecDepth 20000 in
theorem gk_X12_step_7 : GoodIn wsR wsX12_step_r6 := goodIn_r _ [1170, 167, 1171, 1172, 1173, 1174, 1175, 1176, 1177, 1178, 1179, 1180, 1181] (by decide +kernel) (by decide +kernel)
theorem ggL_law_X12_step : GoodIn wsR wsX12_step := goodIn_app gk_X12_step_1 (goodIn_app (goodIn_app (gk_X12_step_2) (goodIn_app (gk_X12_step_3) (goodIn_app (gk_X12_step_4) (goodIn_app (gk_X12_step_5) (goodIn_app (gk_X12_step_6) (gk_X12_step_7)))))) (gc_X120))
theorem gL_law_X12_step : GoodIn wsR (wsV RL 70 RX12 yX12_step wsX12_step) := goodIn_app (goodIn_r _ [1114, 1115, 1116, 5] (by decide +kernel) (by decide +kernel)) ggL_law_X12_step
set_option maxRecDepth 20000 in
theorem gk_X11_soonest_1 : GoodIn wsR [Cond.code yX11_soonest cX11_soonest 5 (some .int)] := goodIn_r _ [1185] (by decide +kernel) (by decide +kernel)
set_option maxRecDepth 20000 in
theorem gk_X11_soonest_2 : GoodIn wsR wsX11_soonest_r1 := goodIn_r _ [50, 31, 217, 218, 859, 860, 861, 2, 862, 863, 1186, 1187, 1188, 1189, 1190, 1191, 1192, 49, 1193, 139, 143, 1194, 140, 1195] (by decide +kernel) (by decide +kernel)
set_option maxRecDepth 20000 in
theorem gk_X11_soonest_3 : GoodIn wsR wsX11_soonest_r2 := goodIn_r _ [1196, 1197, 1198, 1199, 1200, 1201, 1202, 1203, 1204, 1205, 1206, 1207, 1208, 435, 436, 18, 437, 65, 1209, 886, 887, 888, 1210, 1211] (by decide +kernel) (by decide +kernel)
set_option maxRecDepth 20000 in
theorem gk_X11_soonest_4 : GoodIn wsR wsX11_soonest_r3 := goodIn_r _ [1212, 1213, 1214, 1215, 1216, 1217, 69, 68, 761, 755, 756, 757, 758, 759, 72, 71, 760] (by decide +kernel) (by decide +kernel)
theorem ggL_law_X11_soonest : GoodIn wsR wsX11_soonest := goodIn_app gk_X11_soonest_1 (goodIn_app (goodIn_app (goodIn_app (goodIn_app (goodIn_app (gk_X11_soonest_2) (goodIn_app (gk_X11_soonest_3) (gk_X11_soonest_4))) (gc_X110)) (gc_X50)) (gc_X70)) (gc_X40))
theorem gL_law_X11_soonest : GoodIn wsR (wsV RL 71 RX11 yX11_soonest wsX11_soonest) := goodIn_app (goodIn_r _ [1182, 1183, 1184, 2] (by decide +kernel) (by decide +kernel)) ggL_law_X11_soonest
set_option maxRecDepth 20000 in
theorem gk_X12_soonest_1 : GoodIn wsR [Cond.code yX12_soonest cX12_soonest 5 (some .int)] := goodIn_r _ [1221] (by decide +kernel) (by decide +kernel)
set_option maxRecDepth 20000 in
theorem gk_X12_soonest_2 : GoodIn wsR wsX12_soonest_r1 := goodIn_r _ [914, 1222, 1223, 1224, 5, 1225, 766, 767, 768, 769, 169, 774, 775, 776, 594, 1226, 1227, 1228, 1229, 176, 177, 770, 771, 772] (by decide +kernel) (by decide +kernel)
set_option maxRecDepth 20000 in
theorem gk_X12_soonest_3 : GoodIn wsR wsX12_soonest_r2 := goodIn_r _ [773, 741, 742, 743, 744, 1230, 1231, 1232, 1233, 781, 782, 783, 784, 785, 786, 787, 788, 789, 790, 791, 792, 793, 794, 795] (by decide +kernel) (by decide +kernel)
set_option maxRecDepth 20000 in
theorem gk_X12_soonest_4 : GoodIn wsR wsX12_soonest_r3 := goodIn_r _ [170, 796, 797, 798, 799, 927, 928, 929, 930] (by decide +kernel) (by decide +kernel)
theorem ggL_law_X12_soonest : GoodIn wsR wsX12_soonest := goodIn_app gk_X12_soonest_1 (goodIn_app (goodIn_app (gk_X12_soonest_2) (goodIn_app (gk_X12_soonest_3) (gk_X12_soonest_4))) (gc_X120))
theorem gL_law_X12_soonest : GoodIn wsR (wsV RL 74 RX12 yX12_soonest wsX12_soonest) := goodIn_app (goodIn_r _ [1218, 1219, 1220, 5] (by decide +kernel) (by decide +kernel)) ggL_law_X12_soonest
set_option maxRecDepth 20000 in
theorem gk_X11_way_1 : GoodIn wsR [Cond.code yX11_way cX11_way 6 (some .int)] := goodIn_r _ [1237] (by decide +kernel) (by decide +kernel)
set_option maxRecDepth 20000 in
theorem gk_X11_way_2 : GoodIn wsR wsX11_way_r1 := goodIn_r _ [50, 859, 860, 861, 2, 862, 31, 217, 863, 1186, 1187, 1188, 1189, 1238, 1239, 1240, 49, 1241, 143, 1242, 1207, 1243, 1191, 1192] (by decide +kernel) (by decide +kernel)
set_option maxRecDepth 20000 in
theorem gk_X11_way_3 : GoodIn wsR wsX11_way_r2 := goodIn_r _ [1193, 139, 1194, 140, 1195, 1196, 1197, 1198, 1199, 1200, 1201, 1202, 1203, 1204, 1205, 1206, 1208, 435, 436, 18, 437, 65, 1209, 886] (by decide +kernel) (by decide +kernel)
set_option maxRecDepth 20000 in
theorem gk_X11_way_4 : GoodIn wsR wsX11_way_r3 := goodIn_r _ [887, 888, 1210, 1211, 1212, 1213, 1214, 1215, 1216, 1217, 69, 68, 761, 755, 756, 757, 758, 759, 72, 71, 760, 1244, 1245, 1246] (by decide +kernel) (by decide +kernel)
set_option maxRecDepth 20000 in
theorem gk_X11_way_5 : GoodIn wsR wsX11_way_r4 := goodIn_r _ [1247, 1248, 1249, 1250, 1251, 1252, 1253, 1254, 1255, 1256, 351, 352, 353, 1257, 1258, 1259, 1260, 1261, 1262, 1263, 1264] (by decide +kernel) (by decide +kernel)
theorem ggL_law_X11_way : GoodIn wsR wsX11_way := goodIn_app gk_X11_way_1 (goodIn_app (goodIn_app (goodIn_app (goodIn_app (goodIn_app (gk_X11_way_2) (goodIn_app (gk_X11_way_3) (goodIn_app (gk_X11_way_4) (gk_X11_way_5)))) (gc_X110)) (gc_X50)) (gc_X70)) (gc_X40))
theorem gL_law_X11_way : GoodIn wsR (wsV RL 75 RX11 yX11_way wsX11_way) := goodIn_app (goodIn_r _ [1234, 1235, 1236, 2] (by decide +kernel) (by decide +kernel)) ggL_law_X11_way
set_option maxRecDepth 20000 in
theorem gk_X12_way_1 : GoodIn wsR [Cond.code yX12_way cX12_way 10 (some .int)] := goodIn_r _ [1268] (by decide +kernel) (by decide +kernel)
set_option maxRecDepth 20000 in
theorem gk_X12_way_2 : GoodIn wsR wsX12_way_r1 := goodIn_r _ [914, 1269, 1222, 1223, 1224, 5, 1225, 766, 767, 768, 769, 169, 774, 775, 776, 594, 1226, 1227, 1228, 1229, 176, 177, 770, 771] (by decide +kernel) (by decide +kernel)
set_option maxRecDepth 20000 in
theorem gk_X12_way_3 : GoodIn wsR wsX12_way_r2 := goodIn_r _ [772, 773, 741, 742, 743, 744, 1230, 1231, 1232, 1233, 781, 782, 783, 784, 785, 786, 787, 788, 789, 790, 791, 792, 793, 794] (by decide +kernel) (by decide +kernel)
set_option maxRecDepth 20000 in
theorem gk_X12_way_4 : GoodIn wsR wsX12_way_r3 := goodIn_r _ [795, 170, 796, 797, 798, 799, 927, 928, 929, 930, 1270, 1271, 1272, 1273] (by decide +kernel) (by decide +kernel)
theorem ggL_law_X12_way : GoodIn wsR wsX12_way := goodIn_app gk_X12_way_1 (goodIn_app (goodIn_app (gk_X12_way_2) (goodIn_app (gk_X12_way_3) (gk_X12_way_4))) (gc_X120))
theorem gL_law_X12_way : GoodIn wsR (wsV RL 78 RX12 yX12_way wsX12_way) := goodIn_app (goodIn_r _ [1265, 1266, 1267, 5] (by decide +kernel) (by decide +kernel)) ggL_law_X12_way
set_option maxRecDepth 20000 in
theorem gk_X11_comes_1 : GoodIn wsR [Cond.code yX11_comes cX11_comes 4 (some .int)] := goodIn_r _ [1277] (by decide +kernel) (by decide +kernel)
set_option maxRecDepth 20000 in
theorem gk_X11_comes_2 : GoodIn wsR wsX11_comes_r1 := goodIn_r _ [38, 46, 31, 936, 971, 972, 973, 2, 974, 935, 997, 998, 999, 37, 1000, 113, 1001, 1002, 865, 866, 867, 112, 868, 869] (by decide +kernel) (by decide +kernel)
set_option maxRecDepth 20000 in
theorem gk_X11_comes_3 : GoodIn wsR wsX11_comes_r2 := goodIn_r _ [870, 871, 110, 872, 111, 873, 874, 875, 876, 877, 878, 879, 880, 881, 882, 883, 884, 729, 730, 18, 731, 67, 885, 886] (by decide +kernel) (by decide +kernel)
set_option maxRecDepth 20000 in
theorem gk_X11_comes_4 : GoodIn wsR wsX11_comes_r3 := goodIn_r _ [887, 888, 65, 889, 890, 891, 892, 893, 894, 895, 896, 897, 898, 899, 900, 901, 1278, 1279, 1280, 45, 1281, 128, 133, 1282] (by decide +kernel) (by decide +kernel)
set_option maxRecDepth 20000 in
theorem gk_X11_comes_5 : GoodIn wsR wsX11_comes_r4 := goodIn_r _ [1283, 1284, 1285, 1286, 100, 1287, 945, 946, 947, 948, 949, 950, 951, 952, 954, 1288, 942, 943, 944, 953, 1289, 1004, 1005, 41] (by decide +kernel) (by decide +kernel)
set_option maxRecDepth 20000 in
theorem gk_X11_comes_6 : GoodIn wsR wsX11_comes_r5 := goodIn_r _ [1006, 1007, 1008, 1009, 1010, 1011, 122, 1012, 1013, 1014, 1015, 1016, 1017, 1018, 1019, 1020, 1021, 1022, 1023, 1024, 1025, 1026, 1027, 1028] (by decide +kernel) (by decide +kernel)
set_option maxRecDepth 20000 in
theorem gk_X11_comes_7 : GoodIn wsR wsX11_comes_r6 := goodIn_r _ [1029, 121, 1030, 1031, 1032, 351, 352, 353, 1033, 120, 1034, 1035, 1036, 1037, 1038, 1039, 1040, 1041, 1042, 1043, 1044, 1045, 1046, 1047] (by decide +kernel) (by decide +kernel)
set_option maxRecDepth 20000 in
theorem gk_X11_comes_8 : GoodIn wsR wsX11_comes_r7 := goodIn_r _ [1048, 1049, 1050, 907, 908, 909, 1051, 1052, 1053, 1054, 1055, 435, 436, 437, 1056, 751, 752, 753, 754, 755, 756, 757, 758, 69] (by decide +kernel) (by decide +kernel)
set_option maxRecDepth 20000 in
theorem gk_X11_comes_9 : GoodIn wsR wsX11_comes_r8 := goodIn_r _ [759, 72, 71, 760, 761, 68, 1057, 903, 904, 905, 1058, 1059, 1060, 1061, 1062, 1063, 1064, 1065, 23, 1066, 77, 1067, 1068, 1069] (by decide +kernel) (by decide +kernel)
set_option maxRecDepth 20000 in
theorem gk_X11_comes_10 : GoodIn wsR wsX11_comes_r9 := goodIn_r _ [1070, 1071, 1072, 1073, 1074, 1075, 119, 1076, 1077, 1078, 1079, 78, 1080, 1081, 1082, 1083, 79, 1084, 1085, 1086, 1087, 1088, 1089, 1090] (by decide +kernel) (by decide +kernel)
set_option maxRecDepth 20000 in
theorem gk_X11_comes_11 : GoodIn wsR wsX11_comes_r10 := goodIn_r _ [1091, 1092, 1093, 1094, 1095, 1096, 1097, 1098, 1099, 1100, 1101, 1102, 1103, 1104, 1105, 1106, 1107, 1108, 1109, 1110, 1111, 1112, 1113, 1290] (by decide +kernel) (by decide +kernel)
theorem ggL_law_X11_comes : GoodIn wsR wsX11_comes := goodIn_app gk_X11_comes_1 (goodIn_app (goodIn_app (goodIn_app (goodIn_app (goodIn_app (goodIn_app (goodIn_app (goodIn_app (goodIn_app (gk_X11_comes_2) (goodIn_app (gk_X11_comes_3) (goodIn_app (gk_X11_comes_4) (goodIn_app (gk_X11_comes_5) (goodIn_app (gk_X11_comes_6) (goodIn_app (gk_X11_comes_7) (goodIn_app (gk_X11_comes_8) (goodIn_app (gk_X11_comes_9) (goodIn_app (gk_X11_comes_10) (gk_X11_comes_11)))))))))) (gc_X110)) (gc_X50)) (gc_X00)) (gc_X70)) (gc_X80)) (gc_X90)) (gc_X10)) (gc_X20))
theorem gL_law_X11_comes : GoodIn wsR (wsV RL 79 RX11 yX11_comes wsX11_comes) := goodIn_app (goodIn_r _ [1274, 1275, 1276, 2] (by decide +kernel) (by decide +kernel)) ggL_law_X11_comes
set_option maxRecDepth 20000 in
theorem gk_X12_comes_1 : GoodIn wsR [Cond.code yX12_comes cX12_comes 7 (some .int)] := goodIn_r _ [1294] (by decide +kernel) (by decide +kernel)
set_option maxRecDepth 20000 in
theorem gk_X12_comes_2 : GoodIn wsR wsX12_comes_r1 := goodIn_r _ [1295, 1296, 984, 985, 986, 5, 987, 169, 529, 530, 531, 1297, 1298, 1299, 1300, 173, 988, 989, 990, 991, 1119, 1120, 1121, 1122] (by decide +kernel) (by decide +kernel)
set_option maxRecDepth 20000 in
theorem gk_X12_comes_3 : GoodIn wsR wsX12_comes_r2 := goodIn_r _ [1123, 1124, 1125, 1126, 1127, 1128, 1129, 1130, 1131, 1132, 1133, 1134, 1135, 1136, 1137, 1138, 1139, 1140, 171, 741, 742, 743, 744, 915] (by decide +kernel) (by decide +kernel)
set_option maxRecDepth 20000 in
theorem gk_X12_comes_4 : GoodIn wsR wsX12_comes_r3 := goodIn_r _ [916, 917, 918, 919, 920, 921, 922, 172, 914, 789, 790, 791, 923, 924, 925, 926, 770, 771, 772, 773, 785, 786, 787, 788] (by decide +kernel) (by decide +kernel)
set_option maxRecDepth 20000 in
theorem gk_X12_comes_5 : GoodIn wsR wsX12_comes_r4 := goodIn_r _ [927, 928, 929, 930, 1141, 1142, 1143, 1144, 162, 161, 1145, 1146, 1147, 1148, 777, 778, 779, 780, 781, 782, 783, 784, 792, 793] (by decide +kernel) (by decide +kernel)
set_option maxRecDepth 20000 in
theorem gk_X12_comes_6 : GoodIn wsR wsX12_comes_r5 := goodIn_r _ [794, 795, 170, 796, 797, 798, 799, 1149, 1150, 1151, 1152, 168, 1153, 1154, 1155, 1156, 1157, 1158, 1159, 1160, 1161, 1162, 1163, 1164] (by decide +kernel) (by decide +kernel)
set_option maxRecDepth 20000 in
theorem gk_X12_comes_7 : GoodIn wsR wsX12_comes_r6 := goodIn_r _ [1165, 1166, 159, 1167, 1168, 1169, 1170, 167, 1171, 1172, 1173, 1174, 1175, 1176, 1177, 1178, 1179, 1180, 1181, 1301, 1302, 1303, 1304] (by decide +kernel) (by decide +kernel)
theorem ggL_law_X12_comes : GoodIn wsR wsX12_comes := goodIn_app gk_X12_comes_1 (goodIn_app (goodIn_app (gk_X12_comes_2) (goodIn_app (gk_X12_comes_3) (goodIn_app (gk_X12_comes_4) (goodIn_app (gk_X12_comes_5) (goodIn_app (gk_X12_comes_6) (gk_X12_comes_7)))))) (gc_X120))
theorem gL_law_X12_comes : GoodIn wsR (wsV RL 82 RX12 yX12_comes wsX12_comes) := goodIn_app (goodIn_r _ [1291, 1292, 1293, 5] (by decide +kernel) (by decide +kernel)) ggL_law_X12_comes
set_option maxRecDepth 20000 in
theorem gk_X11_round_1 : GoodIn wsR [Cond.code yX11_round cX11_round 3 (some .int)] := goodIn_r _ [1308] (by decide +kernel) (by decide +kernel)
set_option maxRecDepth 20000 in
theorem gk_X11_round_2 : GoodIn wsR wsX11_round_r1 := goodIn_r _ [38, 46, 31, 936, 971, 972, 973, 2, 974, 935, 997, 998, 999, 37, 1000, 113, 1001, 1002, 865, 866, 867, 112, 868, 869] (by decide +kernel) (by decide +kernel)
set_option maxRecDepth 20000 in
theorem gk_X11_round_3 : GoodIn wsR wsX11_round_r2 := goodIn_r _ [870, 871, 110, 872, 111, 873, 874, 875, 876, 877, 878, 879, 880, 881, 882, 883, 884, 729, 730, 18, 731, 67, 885, 886] (by decide +kernel) (by decide +kernel)
set_option maxRecDepth 20000 in
theorem gk_X11_round_4 : GoodIn wsR wsX11_round_r3 := goodIn_r _ [887, 888, 65, 889, 890, 891, 892, 893, 894, 895, 896, 897, 898, 899, 900, 901, 1309, 1310, 1311, 45, 1312, 128, 133, 1313] (by decide +kernel) (by decide +kernel)
set_option maxRecDepth 20000 in
theorem gk_X11_round_5 : GoodIn wsR wsX11_round_r4 := goodIn_r _ [1284, 1285, 1286, 100, 1287, 945, 946, 947, 948, 949, 950, 951, 952, 954, 1288, 942, 943, 944, 953, 1314, 1315, 1316, 1317, 129] (by decide +kernel) (by decide +kernel)
set_option maxRecDepth 20000 in
theorem gk_X11_round_6 : GoodIn wsR wsX11_round_r5 := goodIn_r _ [1318, 1319, 1320, 1321, 1282, 1322, 1323, 1324, 1325, 1008, 1009, 41, 1010, 1011, 122, 1012, 1013, 1014, 1015, 1016, 1017, 1018, 1019, 1020] (by decide +kernel) (by decide +kernel)
set_option maxRecDepth 20000 in
theorem gk_X11_round_7 : GoodIn wsR wsX11_round_r6 := goodIn_r _ [1021, 1022, 1023, 1024, 1025, 1026, 1027, 1028, 1029, 121, 1030, 1031, 1032, 351, 352, 353, 1033, 120, 1034, 1035, 1036, 1037, 1038, 1039] (by decide +kernel) (by decide +kernel)
set_option maxRecDepth 20000 in
theorem gk_X11_round_8 : GoodIn wsR wsX11_round_r7 := goodIn_r _ [1040, 1041, 1042, 1043, 1044, 1045, 1046, 1047, 1048, 1049, 1050, 907, 908, 909, 1051, 1052, 1053, 1054, 1055, 435, 436, 437, 1056, 751] (by decide +kernel) (by decide +kernel)
set_option maxRecDepth 20000 in
theorem gk_X11_round_9 : GoodIn wsR wsX11_round_r8 := goodIn_r _ [752, 753, 754, 755, 756, 757, 758, 69, 759, 72, 71, 760, 761, 68, 1057, 903, 904, 905, 1058, 1059, 1060, 1061, 1062, 1063] (by decide +kernel) (by decide +kernel)
