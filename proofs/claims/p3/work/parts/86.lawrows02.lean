theorem ggL_law_X11_misprint : GoodIn wsR wsX11_misprint := goodIn_app gk_X11_misprint_1 (goodIn_app (goodIn_app (goodIn_app (goodIn_app (goodIn_app (gk_X11_misprint_2) (gk_X11_misprint_3)) (gc_X110)) (gc_X50)) (gc_X70)) (gc_X00))
theorem gL_law_X11_misprint : GoodIn wsR (wsV RL 46 RX11 yX11_misprint wsX11_misprint) := goodIn_app (goodIn_r _ [827, 828, 829, 2] (by decide +kernel) (by decide +kernel)) ggL_law_X11_misprint
set_option maxRecDepth 20000 in
theorem gk_X12_misprint_1 : GoodIn wsR [Cond.code yX12_misprint cX12_misprint 5 (some .int)] := goodIn_r _ [841] (by decide +kernel) (by decide +kernel)
set_option maxRecDepth 20000 in
theorem gk_X12_misprint_2 : GoodIn wsR ([Cond.constantLong RX12 345 (3), Cond.fieldLink RX12 45 "MondayMapsModel" "said" "[I", Cond.methodLink RX12 342 yX12_isMap, Cond.instanceMethod yX12_isMap, Cond.selects RX12 yX12_isMap yX12_isMap, Cond.initialized RX12, Cond.code yX12_isMap cX12_isMap 2 (some .boolean), Cond.methodLink RX12 323 yX12_isStreet, Cond.instanceMethod yX12_isStreet, Cond.selects RX12 yX12_isStreet yX12_isStreet, Cond.code yX12_isStreet cX12_isStreet 2 (some .boolean), Cond.methodLink RX12 122 yX12_in, Cond.static yX12_in, Cond.code yX12_in cX12_in 6 (some .boolean)] : List Cond) := goodIn_r _ [842, 169, 843, 844, 845, 5, 846, 737, 738, 739, 740, 529, 530, 531] (by decide +kernel) (by decide +kernel)
theorem ggL_law_X12_misprint : GoodIn wsR wsX12_misprint := goodIn_app gk_X12_misprint_1 (goodIn_app (gk_X12_misprint_2) (gc_X120))
theorem gL_law_X12_misprint : GoodIn wsR (wsV RL 49 RX12 yX12_misprint wsX12_misprint) := goodIn_app (goodIn_r _ [838, 839, 840, 5] (by decide +kernel) (by decide +kernel)) ggL_law_X12_misprint
set_option maxRecDepth 20000 in
theorem gk_X11_shown_1 : GoodIn wsR [Cond.code yX11_shown cX11_shown 3 (some .int)] := goodIn_r _ [850] (by decide +kernel) (by decide +kernel)
set_option maxRecDepth 20000 in
theorem gk_X11_shown_2 : GoodIn wsR ([Cond.fieldLink RX11 42 "MondayMaps" "state" "LMondayMaps$State;", Cond.fieldLink RX11 120 "MondayMaps$State" "town" "LMondayMaps$Town;", Cond.fieldLink RX11 164 "MondayMaps$State" "mapSigns" "[I", Cond.methodLink RX11 170 yX11_hasMap, Cond.instanceMethod yX11_hasMap, Cond.selects RX11 yX11_hasMap yX11_hasMap, Cond.initialized RX11, Cond.code yX11_hasMap cX11_hasMap 2 (some .boolean), Cond.fieldLink RX11 161 "MondayMaps$State" "maps" "I", Cond.methodLink RX11 133 yX7_hasStreet, Cond.instanceMethod yX7_hasStreet, Cond.selects RX7 yX7_hasStreet yX7_hasStreet, Cond.initialized RX7, Cond.code yX7_hasStreet cX7_hasStreet 2 (some .boolean), Cond.fieldLink RX7 46 "MondayMaps$Town" "streets" "I"] : List Cond) := goodIn_r _ [31, 217, 805, 831, 832, 833, 2, 834, 804, 724, 725, 726, 18, 727, 224] (by decide +kernel) (by decide +kernel)
theorem ggL_law_X11_shown : GoodIn wsR wsX11_shown := goodIn_app gk_X11_shown_1 (goodIn_app (goodIn_app (goodIn_app (gk_X11_shown_2) (gc_X110)) (gc_X50)) (gc_X70))
theorem gL_law_X11_shown : GoodIn wsR (wsV RL 50 RX11 yX11_shown wsX11_shown) := goodIn_app (goodIn_r _ [847, 848, 849, 2] (by decide +kernel) (by decide +kernel)) ggL_law_X11_shown
set_option maxRecDepth 20000 in
theorem gk_X12_shown_1 : GoodIn wsR [Cond.code yX12_shown cX12_shown 3 (some .int)] := goodIn_r _ [854] (by decide +kernel) (by decide +kernel)
set_option maxRecDepth 20000 in
theorem gk_X12_shown_2 : GoodIn wsR ([Cond.fieldLink RX12 45 "MondayMapsModel" "said" "[I", Cond.methodLink RX12 342 yX12_isMap, Cond.instanceMethod yX12_isMap, Cond.selects RX12 yX12_isMap yX12_isMap, Cond.initialized RX12, Cond.code yX12_isMap cX12_isMap 2 (some .boolean), Cond.methodLink RX12 323 yX12_isStreet, Cond.instanceMethod yX12_isStreet, Cond.selects RX12 yX12_isStreet yX12_isStreet, Cond.code yX12_isStreet cX12_isStreet 2 (some .boolean)] : List Cond) := goodIn_r _ [169, 843, 844, 845, 5, 846, 737, 738, 739, 740] (by decide +kernel) (by decide +kernel)
theorem ggL_law_X12_shown : GoodIn wsR wsX12_shown := goodIn_app gk_X12_shown_1 (goodIn_app (gk_X12_shown_2) (gc_X120))
theorem gL_law_X12_shown : GoodIn wsR (wsV RL 53 RX12 yX12_shown wsX12_shown) := goodIn_app (goodIn_r _ [851, 852, 853, 5] (by decide +kernel) (by decide +kernel)) ggL_law_X12_shown
set_option maxRecDepth 20000 in
theorem gk_X11_by_1 : GoodIn wsR [Cond.code yX11_by cX11_by 6 (some .int)] := goodIn_r _ [858] (by decide +kernel) (by decide +kernel)
set_option maxRecDepth 20000 in
theorem gk_X11_by_2 : GoodIn wsR wsX11_by_r1 := goodIn_r _ [38, 831, 832, 833, 2, 834, 31, 804, 859, 860, 861, 862, 217, 863, 864, 865, 866, 37, 867, 112, 868, 869, 870, 871] (by decide +kernel) (by decide +kernel)
set_option maxRecDepth 20000 in
theorem gk_X11_by_3 : GoodIn wsR wsX11_by_r2 := goodIn_r _ [110, 872, 111, 113, 873, 874, 875, 876, 877, 878, 879, 880, 881, 882, 883, 884, 729, 730, 18, 731, 67, 885, 886, 887] (by decide +kernel) (by decide +kernel)
set_option maxRecDepth 20000 in
theorem gk_X11_by_4 : GoodIn wsR wsX11_by_r3 := goodIn_r _ [888, 65, 889, 890, 891, 892, 893, 894, 895, 896, 897, 898, 899, 900, 901, 902, 903, 904, 905, 906, 907, 908, 909] (by decide +kernel) (by decide +kernel)
theorem ggL_law_X11_by : GoodIn wsR wsX11_by := goodIn_app gk_X11_by_1 (goodIn_app (goodIn_app (goodIn_app (goodIn_app (goodIn_app (gk_X11_by_2) (goodIn_app (gk_X11_by_3) (gk_X11_by_4))) (gc_X110)) (gc_X50)) (gc_X70)) (gc_X00))
theorem gL_law_X11_by : GoodIn wsR (wsV RL 54 RX11 yX11_by wsX11_by) := goodIn_app (goodIn_r _ [855, 856, 857, 2] (by decide +kernel) (by decide +kernel)) ggL_law_X11_by
set_option maxRecDepth 20000 in
theorem gk_X12_by_1 : GoodIn wsR [Cond.code yX12_by cX12_by 6 (some .int)] := goodIn_r _ [913] (by decide +kernel) (by decide +kernel)
set_option maxRecDepth 20000 in
theorem gk_X12_by_2 : GoodIn wsR wsX12_by_r1 := goodIn_r _ [172, 914, 843, 844, 845, 5, 846, 169, 766, 767, 768, 769, 529, 530, 531, 915, 916, 917, 918, 171, 919, 920, 921, 922] (by decide +kernel) (by decide +kernel)
set_option maxRecDepth 20000 in
theorem gk_X12_by_3 : GoodIn wsR wsX12_by_r2 := goodIn_r _ [741, 742, 743, 744, 789, 790, 791, 923, 924, 925, 926, 770, 771, 772, 773, 785, 786, 787, 788, 927, 928, 929, 930] (by decide +kernel) (by decide +kernel)
theorem ggL_law_X12_by : GoodIn wsR wsX12_by := goodIn_app gk_X12_by_1 (goodIn_app (goodIn_app (gk_X12_by_2) (gk_X12_by_3)) (gc_X120))
theorem gL_law_X12_by : GoodIn wsR (wsV RL 58 RX12 yX12_by wsX12_by) := goodIn_app (goodIn_r _ [910, 911, 912, 5] (by decide +kernel) (by decide +kernel)) ggL_law_X12_by
set_option maxRecDepth 20000 in
theorem gk_X11_walker_1 : GoodIn wsR [Cond.code yX11_walker cX11_walker 7 (some .int)] := goodIn_r _ [934] (by decide +kernel) (by decide +kernel)
set_option maxRecDepth 20000 in
theorem gk_X11_walker_2 : GoodIn wsR wsX11_walker_r1 := goodIn_r _ [31, 935, 936, 859, 860, 861, 2, 862, 217, 863, 831, 832, 833, 834, 804, 937, 938, 939, 940, 636, 941, 942, 943, 100] (by decide +kernel) (by decide +kernel)
set_option maxRecDepth 20000 in
theorem gk_X11_walker_3 : GoodIn wsR wsX11_walker_r2 := goodIn_r _ [944, 945, 946, 947, 948, 949, 950, 951, 952, 953, 954] (by decide +kernel) (by decide +kernel)
theorem ggL_law_X11_walker : GoodIn wsR wsX11_walker := goodIn_app gk_X11_walker_1 (goodIn_app (goodIn_app (goodIn_app (goodIn_app (goodIn_app (gk_X11_walker_2) (gk_X11_walker_3)) (gc_X110)) (gc_X50)) (gc_X70)) (gc_X90))
theorem gL_law_X11_walker : GoodIn wsR (wsV RL 59 RX11 yX11_walker wsX11_walker) := goodIn_app (goodIn_r _ [931, 932, 933, 2] (by decide +kernel) (by decide +kernel)) ggL_law_X11_walker
set_option maxRecDepth 20000 in
theorem gk_X12_walker_1 : GoodIn wsR [Cond.code yX12_walker cX12_walker 6 (some .int)] := goodIn_r _ [958] (by decide +kernel) (by decide +kernel)
set_option maxRecDepth 20000 in
theorem gk_X12_walker_2 : GoodIn wsR ([Cond.fieldLink RX12 45 "MondayMapsModel" "said" "[I", Cond.methodLink RX12 328 yX12_isCorner, Cond.instanceMethod yX12_isCorner, Cond.selects RX12 yX12_isCorner yX12_isCorner, Cond.initialized RX12, Cond.code yX12_isCorner cX12_isCorner 2 (some .boolean), Cond.methodLink RX12 342 yX12_isMap, Cond.instanceMethod yX12_isMap, Cond.selects RX12 yX12_isMap yX12_isMap, Cond.code yX12_isMap cX12_isMap 2 (some .boolean), Cond.methodLink RX12 360 yX12_isRule, Cond.instanceMethod yX12_isRule, Cond.selects RX12 yX12_isRule yX12_isRule, Cond.code yX12_isRule cX12_isRule 2 (some .boolean), Cond.fieldLink RX12 279 "MondayMapsModel" "rules" "I", Cond.methodLink RX12 331 yX12_isHour, Cond.static yX12_isHour, Cond.code yX12_isHour cX12_isHour 1 (some .boolean), Cond.constant RX12 166 (99999), Cond.methodLink RX12 363 yX12_setsOut, Cond.instanceMethod yX12_setsOut, Cond.selects RX12 yX12_setsOut yX12_setsOut, Cond.code yX12_setsOut cX12_setsOut 8 none] : List Cond) := goodIn_r _ [169, 766, 767, 768, 5, 769, 843, 844, 845, 846, 959, 960, 961, 962, 717, 774, 775, 776, 594, 963, 964, 965, 966] (by decide +kernel) (by decide +kernel)
theorem ggL_law_X12_walker : GoodIn wsR wsX12_walker := goodIn_app gk_X12_walker_1 (goodIn_app (gk_X12_walker_2) (gc_X120))
theorem gL_law_X12_walker : GoodIn wsR (wsV RL 62 RX12 yX12_walker wsX12_walker) := goodIn_app (goodIn_r _ [955, 956, 957, 5] (by decide +kernel) (by decide +kernel)) ggL_law_X12_walker
set_option maxRecDepth 20000 in
theorem gk_X11_about_1 : GoodIn wsR [Cond.code yX11_about cX11_about 3 (some .int)] := goodIn_r _ [970] (by decide +kernel) (by decide +kernel)
set_option maxRecDepth 20000 in
theorem gk_X11_about_2 : GoodIn wsR ([Cond.fieldLink RX11 42 "MondayMaps" "state" "LMondayMaps$State;", Cond.fieldLink RX11 195 "MondayMaps$State" "walkers" "[LMondayMaps$Walker;", Cond.methodLink RX11 205 yX11_hasWalker, Cond.instanceMethod yX11_hasWalker, Cond.selects RX11 yX11_hasWalker yX11_hasWalker, Cond.initialized RX11, Cond.code yX11_hasWalker cX11_hasWalker 2 (some .boolean), Cond.fieldLink RX11 192 "MondayMaps$State" "walkerCount" "I", Cond.methodLink RX11 208 yX9_tell, Cond.instanceMethod yX9_tell, Cond.selects RX9 yX9_tell yX9_tell, Cond.initialized RX9, Cond.code yX9_tell cX9_tell 2 (some .int), Cond.fieldLink RX9 9 "MondayMaps$Walker" "corner" "I", Cond.fieldLink RX9 15 "MondayMaps$Walker" "goal" "I", Cond.fieldLink RX9 18 "MondayMaps$Walker" "map" "I", Cond.fieldLink RX9 21 "MondayMaps$Walker" "rule" "I", Cond.fieldLink RX9 24 "MondayMaps$Walker" "hour" "J", Cond.fieldLink RX9 28 "MondayMaps$Walker" "steps" "I", Cond.fieldLink RX9 31 "MondayMaps$Walker" "asked" "I", Cond.fieldLink RX9 34 "MondayMaps$Walker" "cameFrom" "I"] : List Cond) := goodIn_r _ [31, 936, 971, 972, 973, 2, 974, 935, 975, 976, 977, 100, 978, 945, 946, 947, 948, 949, 950, 951, 952] (by decide +kernel) (by decide +kernel)
theorem ggL_law_X11_about : GoodIn wsR wsX11_about := goodIn_app gk_X11_about_1 (goodIn_app (goodIn_app (goodIn_app (gk_X11_about_2) (gc_X110)) (gc_X50)) (gc_X90))
theorem gL_law_X11_about : GoodIn wsR (wsV RL 63 RX11 yX11_about wsX11_about) := goodIn_app (goodIn_r _ [967, 968, 969, 2] (by decide +kernel) (by decide +kernel)) ggL_law_X11_about
set_option maxRecDepth 20000 in
theorem gk_X12_about_1 : GoodIn wsR [Cond.code yX12_about cX12_about 3 (some .int)] := goodIn_r _ [982] (by decide +kernel) (by decide +kernel)
set_option maxRecDepth 20000 in
theorem gk_X12_about_2 : GoodIn wsR ([Cond.constantLong RX12 370 (7), Cond.methodLink RX12 367 yX12_isWalker, Cond.instanceMethod yX12_isWalker, Cond.selects RX12 yX12_isWalker yX12_isWalker, Cond.initialized RX12, Cond.code yX12_isWalker cX12_isWalker 2 (some .boolean), Cond.fieldLink RX12 45 "MondayMapsModel" "said" "[I", Cond.methodLink RX12 122 yX12_in, Cond.static yX12_in, Cond.code yX12_in cX12_in 6 (some .boolean), Cond.methodLink RX12 372 yX12_walkerOf, Cond.instanceMethod yX12_walkerOf, Cond.selects RX12 yX12_walkerOf yX12_walkerOf, Cond.code yX12_walkerOf cX12_walkerOf 3 (some .int)] : List Cond) := goodIn_r _ [983, 984, 985, 986, 5, 987, 169, 529, 530, 531, 988, 989, 990, 991] (by decide +kernel) (by decide +kernel)
theorem ggL_law_X12_about : GoodIn wsR wsX12_about := goodIn_app gk_X12_about_1 (goodIn_app (gk_X12_about_2) (gc_X120))
theorem gL_law_X12_about : GoodIn wsR (wsV RL 66 RX12 yX12_about wsX12_about) := goodIn_app (goodIn_r _ [979, 980, 981, 5] (by decide +kernel) (by decide +kernel)) ggL_law_X12_about
set_option maxRecDepth 20000 in
theorem gk_X11_step_1 : GoodIn wsR [Cond.code yX11_step cX11_step 4 (some .int)] := goodIn_r _ [995] (by decide +kernel) (by decide +kernel)
set_option maxRecDepth 20000 in
theorem gk_X11_step_2 : GoodIn wsR wsX11_step_r1 := goodIn_r _ [38, 31, 936, 42, 996, 971, 972, 973, 2, 974, 935, 997, 998, 999, 37, 1000, 113, 1001, 1002, 865, 866, 867, 112, 868] (by decide +kernel) (by decide +kernel)
set_option maxRecDepth 20000 in
theorem gk_X11_step_3 : GoodIn wsR wsX11_step_r2 := goodIn_r _ [869, 870, 871, 110, 872, 111, 873, 874, 875, 876, 877, 878, 879, 880, 881, 882, 883, 884, 729, 730, 18, 731, 67, 885] (by decide +kernel) (by decide +kernel)
set_option maxRecDepth 20000 in
theorem gk_X11_step_4 : GoodIn wsR wsX11_step_r3 := goodIn_r _ [886, 887, 888, 65, 889, 890, 891, 892, 893, 894, 895, 896, 897, 898, 899, 900, 901, 1003, 1004, 1005, 41, 1006, 1007, 1008] (by decide +kernel) (by decide +kernel)
set_option maxRecDepth 20000 in
theorem gk_X11_step_5 : GoodIn wsR wsX11_step_r4 := goodIn_r _ [1009, 1010, 1011, 122, 1012, 1013, 1014, 1015, 1016, 1017, 1018, 1019, 1020, 1021, 1022, 100, 1023, 945, 946, 1024, 1025, 1026, 1027, 1028] (by decide +kernel) (by decide +kernel)
set_option maxRecDepth 20000 in
theorem gk_X11_step_6 : GoodIn wsR wsX11_step_r5 := goodIn_r _ [1029, 121, 1030, 1031, 1032, 351, 352, 353, 1033, 120, 1034, 1035, 1036, 1037, 1038, 1039, 954, 1040, 1041, 1042, 1043, 949, 1044, 1045] (by decide +kernel) (by decide +kernel)
set_option maxRecDepth 20000 in
theorem gk_X11_step_7 : GoodIn wsR wsX11_step_r6 := goodIn_r _ [1046, 1047, 1048, 1049, 1050, 907, 908, 909, 1051, 1052, 1053, 1054, 1055, 435, 436, 437, 1056, 751, 752, 753, 754, 755, 756, 757] (by decide +kernel) (by decide +kernel)
set_option maxRecDepth 20000 in
theorem gk_X11_step_8 : GoodIn wsR wsX11_step_r7 := goodIn_r _ [758, 69, 759, 72, 71, 760, 761, 68, 1057, 903, 904, 905, 1058, 1059, 1060, 1061, 1062, 1063, 1064, 1065, 23, 1066, 77, 1067] (by decide +kernel) (by decide +kernel)
set_option maxRecDepth 20000 in
theorem gk_X11_step_9 : GoodIn wsR wsX11_step_r8 := goodIn_r _ [1068, 1069, 1070, 1071, 1072, 1073, 1074, 1075, 119, 1076, 1077, 1078, 1079, 78, 1080, 1081, 1082, 1083, 79, 1084, 1085, 1086, 1087, 1088] (by decide +kernel) (by decide +kernel)
set_option maxRecDepth 20000 in
theorem gk_X11_step_10 : GoodIn wsR wsX11_step_r9 := goodIn_r _ [1089, 1090, 1091, 1092, 1093, 1094, 1095, 1096, 1097, 1098, 1099, 1100, 1101, 1102, 1103, 1104, 1105, 1106, 1107, 1108, 1109, 1110, 1111, 1112] (by decide +kernel) (by decide +kernel)
set_option maxRecDepth 20000 in
theorem gk_X11_step_11 : GoodIn wsR wsX11_step_r10 := goodIn_r _ [1113] (by decide +kernel) (by decide +kernel)
theorem ggL_law_X11_step : GoodIn wsR wsX11_step := goodIn_app gk_X11_step_1 (goodIn_app (goodIn_app (goodIn_app (goodIn_app (goodIn_app (goodIn_app (goodIn_app (goodIn_app (gk_X11_step_2) (goodIn_app (gk_X11_step_3) (goodIn_app (gk_X11_step_4) (goodIn_app (gk_X11_step_5) (goodIn_app (gk_X11_step_6) (goodIn_app (gk_X11_step_7) (goodIn_app (gk_X11_step_8) (goodIn_app (gk_X11_step_9) (goodIn_app (gk_X11_step_10) (gk_X11_step_11)))))))))) (gc_X110)) (gc_X50)) (gc_X90)) (gc_X00)) (gc_X70)) (gc_X10)) (gc_X20))
theorem gL_law_X11_step : GoodIn wsR (wsV RL 67 RX11 yX11_step wsX11_step) := goodIn_app (goodIn_r _ [992, 993, 994, 2] (by decide +kernel) (by decide +kernel)) ggL_law_X11_step
set_option maxRecDepth 20000 in
theorem gk_X12_step_1 : GoodIn wsR [Cond.code yX12_step cX12_step 4 (some .int)] := goodIn_r _ [1117] (by decide +kernel) (by decide +kernel)
set_option maxRecDepth 20000 in
theorem gk_X12_step_2 : GoodIn wsR wsX12_step_r1 := goodIn_r _ [1118, 984, 985, 986, 5, 987, 169, 529, 530, 531, 1119, 1120, 1121, 1122, 988, 989, 990, 991, 1123, 1124, 1125, 1126, 1127, 1128] (by decide +kernel) (by decide +kernel)
set_option maxRecDepth 20000 in
theorem gk_X12_step_3 : GoodIn wsR wsX12_step_r2 := goodIn_r _ [1129, 1130, 1131, 1132, 1133, 1134, 1135, 1136, 1137, 1138, 1139, 1140, 171, 741, 742, 743, 744, 915, 916, 917, 918, 919, 920, 921] (by decide +kernel) (by decide +kernel)
set_option maxRecDepth 20000 in
theorem gk_X12_step_4 : GoodIn wsR wsX12_step_r3 := goodIn_r _ [922, 172, 914, 789, 790, 791, 923, 924, 925, 926, 770, 771, 772, 773, 785, 786, 787, 788, 927, 928, 929, 930, 1141, 1142] (by decide +kernel) (by decide +kernel)
set_option maxRecDepth 20000 in
theorem gk_X12_step_5 : GoodIn wsR wsX12_step_r4 := goodIn_r _ [1143, 1144, 162, 161, 1145, 1146, 1147, 1148, 777, 778, 779, 780, 781, 782, 783, 784, 792, 793, 794, 795, 170, 796, 797, 798] (by decide +kernel) (by decide +kernel)
