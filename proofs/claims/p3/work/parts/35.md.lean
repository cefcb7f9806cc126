set_option maxRecDepth 20000 in
theorem ggX12_closes_X12_settles : GoodIn wsX12_closes wsX12_settles := goodIn_r _ [8, 1, 9, 2, 10, 11, 7, 12, 13, 14, 15, 16, 17, 18, 19, 30, 31, 32, 33, 34, 35, 36, 37, 38, 39, 40, 41, 42, 43, 44, 45, 46, 47, 48, 49, 50, 51, 52, 53, 54, 55, 56, 57, 58, 59, 60, 61, 62, 63, 64, 65, 66, 67, 68, 69, 70, 71] (by decide +kernel) (by decide +kernel)
set_option maxRecDepth 20000 in
theorem gX12_closes_X12_settles : GoodIn wsX12_closes (wsV RX12 194 RX12 yX12_settles wsX12_settles) := goodIn_app (goodIn_of _ (by decide +kernel)) ggX12_closes_X12_settles
set_option maxRecDepth 20000 in
theorem ggX12_closes_X12_see : GoodIn wsX12_closes wsX12_see := goodIn_r _ [23, 3, 24, 25, 30, 31, 32, 33, 34, 35, 36, 37, 38, 39, 40, 41, 42, 43, 44, 45, 46, 47, 48, 49, 50, 51, 52, 53, 54, 55, 56, 57, 58, 59, 60, 61, 62, 63, 64, 65, 66, 67, 68, 69, 70, 71] (by decide +kernel) (by decide +kernel)
set_option maxRecDepth 20000 in
theorem gX12_closes_X12_see : GoodIn wsX12_closes (wsV RX12 97 RX12 yX12_see wsX12_see) := goodIn_app (goodIn_of _ (by decide +kernel)) ggX12_closes_X12_see
set_option maxRecDepth 20000 in
theorem ggX12_closes_X12_isInside : GoodIn wsX12_closes wsX12_isInside := goodIn_r _ [29, 1, 9, 30, 31, 32, 33, 34, 35, 36, 37, 38, 39, 40, 41, 42, 43, 44, 45, 46, 47, 48, 49, 50, 51, 52, 53, 54, 55, 56, 57, 58, 59, 60, 61, 62, 63, 64, 65, 66, 67, 68, 69, 70, 71] (by decide +kernel) (by decide +kernel)
set_option maxRecDepth 20000 in
theorem gX12_closes_X12_isInside : GoodIn wsX12_closes (wsV RX12 197 RX12 yX12_isInside wsX12_isInside) := goodIn_app (goodIn_of _ (by decide +kernel)) ggX12_closes_X12_isInside
theorem dX12_closes_0 : decode cX12_closes 0 = .ok (.aload_n 0, 1) := by decide +kernel
theorem dX12_closes_1 : decode cX12_closes 1 = .ok (.iconst 3, 1) := by decide +kernel
theorem dX12_closes_2 : decode cX12_closes 2 = .ok (.invokevirtual 194, 3) := by decide +kernel
theorem dX12_closes_5 : decode cX12_closes 5 = .ok (.aload_n 0, 1) := by decide +kernel
theorem dX12_closes_6 : decode cX12_closes 6 = .ok (.invokevirtual 97, 3) := by decide +kernel
theorem dX12_closes_9 : decode cX12_closes 9 = .ok (.bipush 93, 2) := by decide +kernel
theorem dX12_closes_11 : decode cX12_closes 11 = .ok (.if_icmp .ne 53, 3) := by decide +kernel
theorem dX12_closes_14 : decode cX12_closes 14 = .ok (.aload_n 0, 1) := by decide +kernel
theorem dX12_closes_15 : decode cX12_closes 15 = .ok (.invokevirtual 197, 3) := by decide +kernel
theorem dX12_closes_18 : decode cX12_closes 18 = .ok (.ifCond .eq 46, 3) := by decide +kernel
theorem dX12_closes_21 : decode cX12_closes 21 = .ok (.aload_n 0, 1) := by decide +kernel
theorem dX12_closes_22 : decode cX12_closes 22 = .ok (.iconst 1, 1) := by decide +kernel
theorem dX12_closes_23 : decode cX12_closes 23 = .ok (.invokevirtual 194, 3) := by decide +kernel
theorem dX12_closes_26 : decode cX12_closes 26 = .ok (.aload_n 0, 1) := by decide +kernel
theorem dX12_closes_27 : decode cX12_closes 27 = .ok (.dup, 1) := by decide +kernel
theorem dX12_closes_28 : decode cX12_closes 28 = .ok (.getfield 155, 3) := by decide +kernel
theorem dX12_closes_31 : decode cX12_closes 31 = .ok (.iconst 1, 1) := by decide +kernel
theorem dX12_closes_32 : decode cX12_closes 32 = .ok (.isub, 1) := by decide +kernel
theorem dX12_closes_33 : decode cX12_closes 33 = .ok (.putfield 155, 3) := by decide +kernel
theorem dX12_closes_36 : decode cX12_closes 36 = .ok (.aload_n 0, 1) := by decide +kernel
theorem dX12_closes_37 : decode cX12_closes 37 = .ok (.dup, 1) := by decide +kernel
theorem dX12_closes_38 : decode cX12_closes 38 = .ok (.getfield 152, 3) := by decide +kernel
theorem dX12_closes_41 : decode cX12_closes 41 = .ok (.iconst 1, 1) := by decide +kernel
theorem dX12_closes_42 : decode cX12_closes 42 = .ok (.isub, 1) := by decide +kernel
theorem dX12_closes_43 : decode cX12_closes 43 = .ok (.putfield 152, 3) := by decide +kernel
theorem dX12_closes_46 : decode cX12_closes 46 = .ok (.aload_n 0, 1) := by decide +kernel
theorem dX12_closes_47 : decode cX12_closes 47 = .ok (.dup, 1) := by decide +kernel
theorem dX12_closes_48 : decode cX12_closes 48 = .ok (.getfield 94, 3) := by decide +kernel
theorem dX12_closes_51 : decode cX12_closes 51 = .ok (.iconst 1, 1) := by decide +kernel
theorem dX12_closes_52 : decode cX12_closes 52 = .ok (.iadd, 1) := by decide +kernel
theorem dX12_closes_53 : decode cX12_closes 53 = .ok (.putfield 94, 3) := by decide +kernel
theorem dX12_closes_56 : decode cX12_closes 56 = .ok (.aload_n 0, 1) := by decide +kernel
theorem dX12_closes_57 : decode cX12_closes 57 = .ok (.iconst 3, 1) := by decide +kernel
theorem dX12_closes_58 : decode cX12_closes 58 = .ok (.invokevirtual 194, 3) := by decide +kernel
theorem dX12_closes_61 : decode cX12_closes 61 = .ok (.goto (-56), 3) := by decide +kernel
theorem dX12_closes_64 : decode cX12_closes 64 = .ok (.return_, 1) := by decide +kernel
set_option maxRecDepth 20000 in
theorem ggX12_tested_X12_fact : GoodIn wsX12_tested wsX12_fact := goodIn_r _ [11, 12, 6, 13, 14, 15, 10, 16, 17, 18, 19, 20, 21, 22, 23, 24, 25, 26, 27, 28, 29, 30, 2, 5, 1, 31, 32, 33, 34, 35, 36, 37, 38, 39, 40, 41, 42, 43, 44, 45, 46, 47, 48, 49, 50, 51, 52, 53, 54, 55, 56, 57, 58, 59, 60, 61, 62, 63, 64, 65, 66, 67, 68, 69, 70, 71, 72, 73, 74, 75, 76, 77, 78, 79, 80, 81, 82, 83, 84, 85, 86, 87, 88, 89, 90, 91, 92, 93, 94, 110, 111, 112, 113, 114, 115, 116, 117, 118, 119, 120, 121, 122, 123, 124, 125, 126, 127, 128, 129, 130, 131, 132, 133, 134, 135, 136, 137, 138, 139, 140, 141, 142, 143, 144, 145, 146, 147, 148, 149, 150, 151] (by decide +kernel) (by decide +kernel)
set_option maxRecDepth 20000 in
theorem gX12_tested_X12_fact : GoodIn wsX12_tested (wsV RX12 200 RX12 yX12_fact wsX12_fact) := goodIn_app (goodIn_of _ (by decide +kernel)) ggX12_tested_X12_fact
set_option maxRecDepth 20000 in
theorem ggX12_tested_X12_closes : GoodIn wsX12_tested wsX12_closes := goodIn_r _ [98, 1, 2, 6, 99, 100, 101, 10, 102, 5, 103, 104, 105, 74, 75, 76, 77, 78, 79, 80, 13, 14, 15, 16, 17, 18, 106, 107, 108, 109, 110, 111, 112, 113, 114, 115, 116, 117, 118, 119, 120, 121, 122, 123, 124, 125, 126, 127, 128, 129, 130, 131, 132, 133, 134, 135, 136, 137, 138, 139, 140, 141, 142, 143, 144, 145, 146, 147, 148, 149, 150, 151] (by decide +kernel) (by decide +kernel)
set_option maxRecDepth 20000 in
theorem gX12_tested_X12_closes : GoodIn wsX12_tested (wsV RX12 203 RX12 yX12_closes wsX12_closes) := goodIn_app (goodIn_of _ (by decide +kernel)) ggX12_tested_X12_closes
set_option maxRecDepth 20000 in
theorem ggX12_tested_X12_isWord : GoodIn wsX12_tested wsX12_isWord := goodIn_r _ [22, 6, 18, 13, 14, 15, 10, 16, 17, 23, 24, 25, 26, 110, 111, 112, 113, 114, 115, 116, 117, 118, 119, 120, 121, 122, 123, 124, 125, 126, 127, 128, 129, 130, 131, 132, 133, 134, 135, 136, 137, 138, 139, 140, 141, 142, 143, 144, 145, 146, 147, 148, 149, 150, 151] (by decide +kernel) (by decide +kernel)
set_option maxRecDepth 20000 in
theorem gX12_tested_X12_isWord : GoodIn wsX12_tested (wsV RX12 105 RX12 yX12_isWord wsX12_isWord) := goodIn_app (goodIn_of _ (by decide +kernel)) ggX12_tested_X12_isWord
set_option maxRecDepth 20000 in
theorem ggX12_tested_X12_passWord : GoodIn wsX12_tested wsX12_passWord := goodIn_r _ [39, 6, 23, 24, 25, 10, 26, 17, 18, 110, 111, 112, 113, 114, 115, 116, 117, 118, 119, 120, 121, 122, 123, 124, 125, 126, 127, 128, 129, 130, 131, 132, 133, 134, 135, 136, 137, 138, 139, 140, 141, 142, 143, 144, 145, 146, 147, 148, 149, 150, 151] (by decide +kernel) (by decide +kernel)
set_option maxRecDepth 20000 in
theorem gX12_tested_X12_passWord : GoodIn wsX12_tested (wsV RX12 109 RX12 yX12_passWord wsX12_passWord) := goodIn_app (goodIn_of _ (by decide +kernel)) ggX12_tested_X12_passWord
set_option maxRecDepth 20000 in
theorem ggX12_tested_X12_strength : GoodIn wsX12_tested wsX12_strength := goodIn_r _ [105] (by decide +kernel) (by decide +kernel)
set_option maxRecDepth 20000 in
theorem gX12_tested_X12_strength : GoodIn wsX12_tested (va_wsS RX12 158 yX12_strength wsX12_strength) := goodIn_app (goodIn_of _ (by decide +kernel)) ggX12_tested_X12_strength
set_option maxRecDepth 20000 in
theorem ggX12_tested_X12_settles : GoodIn wsX12_tested wsX12_settles := goodIn_r _ [102, 1, 5, 2, 103, 104, 10, 105, 74, 75, 76, 77, 78, 79, 80, 110, 111, 112, 113, 114, 115, 116, 117, 118, 119, 120, 121, 122, 123, 124, 125, 126, 127, 128, 129, 130, 131, 132, 133, 134, 135, 136, 137, 138, 139, 140, 141, 142, 143, 144, 145, 146, 147, 148, 149, 150, 151] (by decide +kernel) (by decide +kernel)
set_option maxRecDepth 20000 in
theorem gX12_tested_X12_settles : GoodIn wsX12_tested (wsV RX12 194 RX12 yX12_settles wsX12_settles) := goodIn_app (goodIn_of _ (by decide +kernel)) ggX12_tested_X12_settles
set_option maxRecDepth 20000 in
theorem ggX12_tested_X12_isInside : GoodIn wsX12_tested wsX12_isInside := goodIn_r _ [109, 1, 5, 110, 111, 112, 113, 114, 115, 116, 117, 118, 119, 120, 121, 122, 123, 124, 125, 126, 127, 128, 129, 130, 131, 132, 133, 134, 135, 136, 137, 138, 139, 140, 141, 142, 143, 144, 145, 146, 147, 148, 149, 150, 151] (by decide +kernel) (by decide +kernel)
set_option maxRecDepth 20000 in
theorem gX12_tested_X12_isInside : GoodIn wsX12_tested (wsV RX12 197 RX12 yX12_isInside wsX12_isInside) := goodIn_app (goodIn_of _ (by decide +kernel)) ggX12_tested_X12_isInside
set_option maxRecDepth 20000 in
theorem ggX12_tested_X12_see : GoodIn wsX12_tested wsX12_see := goodIn_r _ [16, 6, 17, 18, 110, 111, 112, 113, 114, 115, 116, 117, 118, 119, 120, 121, 122, 123, 124, 125, 126, 127, 128, 129, 130, 131, 132, 133, 134, 135, 136, 137, 138, 139, 140, 141, 142, 143, 144, 145, 146, 147, 148, 149, 150, 151] (by decide +kernel) (by decide +kernel)
set_option maxRecDepth 20000 in
theorem gX12_tested_X12_see : GoodIn wsX12_tested (wsV RX12 97 RX12 yX12_see wsX12_see) := goodIn_app (goodIn_of _ (by decide +kernel)) ggX12_tested_X12_see
set_option maxRecDepth 20000 in
theorem ggX12_tested_X12_fails : GoodIn wsX12_tested wsX12_fails := goodIn_r _ [34, 35, 110, 111, 112, 113, 114, 115, 116, 117, 118, 119, 120, 121, 122, 123, 124, 125, 126, 127, 128, 129, 130, 131, 132, 133, 134, 135, 136, 137, 138, 139, 140, 141, 142, 143, 144, 145, 146, 147, 148, 149, 150, 151] (by decide +kernel) (by decide +kernel)
set_option maxRecDepth 20000 in
theorem gX12_tested_X12_fails : GoodIn wsX12_tested (wsV RX12 115 RX12 yX12_fails wsX12_fails) := goodIn_app (goodIn_of _ (by decide +kernel)) ggX12_tested_X12_fails
theorem dX12_tested_0 : decode cX12_tested 0 = .ok (.aload_n 0, 1) := by decide +kernel
theorem dX12_tested_1 : decode cX12_tested 1 = .ok (.iconst 0, 1) := by decide +kernel
theorem dX12_tested_2 : decode cX12_tested 2 = .ok (.putfield 155, 3) := by decide +kernel
theorem dX12_tested_5 : decode cX12_tested 5 = .ok (.aload_n 0, 1) := by decide +kernel
theorem dX12_tested_6 : decode cX12_tested 6 = .ok (.iconst 0, 1) := by decide +kernel
theorem dX12_tested_7 : decode cX12_tested 7 = .ok (.putfield 152, 3) := by decide +kernel
theorem dX12_tested_10 : decode cX12_tested 10 = .ok (.iconst 1, 1) := by decide +kernel
theorem dX12_tested_11 : decode cX12_tested 11 = .ok (.istore_n 1, 1) := by decide +kernel
theorem dX12_tested_12 : decode cX12_tested 12 = .ok (.iload_n 1, 1) := by decide +kernel
theorem dX12_tested_13 : decode cX12_tested 13 = .ok (.ifCond .eq 99, 3) := by decide +kernel
theorem dX12_tested_16 : decode cX12_tested 16 = .ok (.aload_n 0, 1) := by decide +kernel
theorem dX12_tested_17 : decode cX12_tested 17 = .ok (.invokevirtual 200, 3) := by decide +kernel
theorem dX12_tested_20 : decode cX12_tested 20 = .ok (.ifCond .ne 5, 3) := by decide +kernel
theorem dX12_tested_23 : decode cX12_tested 23 = .ok (.iconst 0, 1) := by decide +kernel
theorem dX12_tested_24 : decode cX12_tested 24 = .ok (.ireturn, 1) := by decide +kernel
theorem dX12_tested_25 : decode cX12_tested 25 = .ok (.aload_n 0, 1) := by decide +kernel
theorem dX12_tested_26 : decode cX12_tested 26 = .ok (.invokevirtual 203, 3) := by decide +kernel
theorem dX12_tested_29 : decode cX12_tested 29 = .ok (.aload_n 0, 1) := by decide +kernel
theorem dX12_tested_30 : decode cX12_tested 30 = .ok (.ldc2_w 206, 3) := by decide +kernel
theorem dX12_tested_33 : decode cX12_tested 33 = .ok (.invokevirtual 105, 3) := by decide +kernel
theorem dX12_tested_36 : decode cX12_tested 36 = .ok (.ifCond .ne 13, 3) := by decide +kernel
theorem dX12_tested_39 : decode cX12_tested 39 = .ok (.aload_n 0, 1) := by decide +kernel
theorem dX12_tested_40 : decode cX12_tested 40 = .ok (.ldc2_w 208, 3) := by decide +kernel
theorem dX12_tested_43 : decode cX12_tested 43 = .ok (.invokevirtual 105, 3) := by decide +kernel
theorem dX12_tested_46 : decode cX12_tested 46 = .ok (.ifCond .eq 7, 3) := by decide +kernel
theorem dX12_tested_49 : decode cX12_tested 49 = .ok (.iconst 1, 1) := by decide +kernel
theorem dX12_tested_50 : decode cX12_tested 50 = .ok (.goto 4, 3) := by decide +kernel
theorem dX12_tested_53 : decode cX12_tested 53 = .ok (.iconst 0, 1) := by decide +kernel
theorem dX12_tested_54 : decode cX12_tested 54 = .ok (.istore_n 1, 1) := by decide +kernel
theorem dX12_tested_55 : decode cX12_tested 55 = .ok (.iload_n 1, 1) := by decide +kernel
theorem dX12_tested_56 : decode cX12_tested 56 = .ok (.ifCond .eq (-44), 3) := by decide +kernel
theorem dX12_tested_59 : decode cX12_tested 59 = .ok (.aload_n 0, 1) := by decide +kernel
theorem dX12_tested_60 : decode cX12_tested 60 = .ok (.ldc2_w 206, 3) := by decide +kernel
theorem dX12_tested_63 : decode cX12_tested 63 = .ok (.invokevirtual 105, 3) := by decide +kernel
theorem dX12_tested_66 : decode cX12_tested 66 = .ok (.ifCond .eq 8, 3) := by decide +kernel
theorem dX12_tested_69 : decode cX12_tested 69 = .ok (.bipush 12, 2) := by decide +kernel
theorem dX12_tested_71 : decode cX12_tested 71 = .ok (.goto 5, 3) := by decide +kernel
theorem dX12_tested_74 : decode cX12_tested 74 = .ok (.bipush 13, 2) := by decide +kernel
theorem dX12_tested_76 : decode cX12_tested 76 = .ok (.istore_n 2, 1) := by decide +kernel
theorem dX12_tested_77 : decode cX12_tested 77 = .ok (.aload_n 0, 1) := by decide +kernel
theorem dX12_tested_78 : decode cX12_tested 78 = .ok (.invokevirtual 109, 3) := by decide +kernel
theorem dX12_tested_81 : decode cX12_tested 81 = .ok (.aload_n 0, 1) := by decide +kernel
theorem dX12_tested_82 : decode cX12_tested 82 = .ok (.iload_n 2, 1) := by decide +kernel
theorem dX12_tested_83 : decode cX12_tested 83 = .ok (.invokestatic 158, 3) := by decide +kernel
theorem dX12_tested_86 : decode cX12_tested 86 = .ok (.invokevirtual 194, 3) := by decide +kernel
theorem dX12_tested_89 : decode cX12_tested 89 = .ok (.aload_n 0, 1) := by decide +kernel
theorem dX12_tested_90 : decode cX12_tested 90 = .ok (.getfield 35, 3) := by decide +kernel
theorem dX12_tested_93 : decode cX12_tested 93 = .ok (.aload_n 0, 1) := by decide +kernel
theorem dX12_tested_94 : decode cX12_tested 94 = .ok (.getfield 155, 3) := by decide +kernel
theorem dX12_tested_97 : decode cX12_tested 97 = .ok (.iload_n 2, 1) := by decide +kernel
theorem dX12_tested_98 : decode cX12_tested 98 = .ok (.iastore, 1) := by decide +kernel
theorem dX12_tested_99 : decode cX12_tested 99 = .ok (.aload_n 0, 1) := by decide +kernel
theorem dX12_tested_100 : decode cX12_tested 100 = .ok (.dup, 1) := by decide +kernel
theorem dX12_tested_101 : decode cX12_tested 101 = .ok (.getfield 155, 3) := by decide +kernel
theorem dX12_tested_104 : decode cX12_tested 104 = .ok (.iconst 1, 1) := by decide +kernel
theorem dX12_tested_105 : decode cX12_tested 105 = .ok (.iadd, 1) := by decide +kernel
theorem dX12_tested_106 : decode cX12_tested 106 = .ok (.putfield 155, 3) := by decide +kernel
theorem dX12_tested_109 : decode cX12_tested 109 = .ok (.goto (-97), 3) := by decide +kernel
theorem dX12_tested_112 : decode cX12_tested 112 = .ok (.aload_n 0, 1) := by decide +kernel
theorem dX12_tested_113 : decode cX12_tested 113 = .ok (.invokevirtual 197, 3) := by decide +kernel
theorem dX12_tested_116 : decode cX12_tested 116 = .ok (.ifCond .eq 18, 3) := by decide +kernel
theorem dX12_tested_119 : decode cX12_tested 119 = .ok (.aload_n 0, 1) := by decide +kernel
theorem dX12_tested_120 : decode cX12_tested 120 = .ok (.invokevirtual 97, 3) := by decide +kernel
theorem dX12_tested_123 : decode cX12_tested 123 = .ok (.pop, 1) := by decide +kernel
theorem dX12_tested_124 : decode cX12_tested 124 = .ok (.aload_n 0, 1) := by decide +kernel
theorem dX12_tested_125 : decode cX12_tested 125 = .ok (.iconst 0, 1) := by decide +kernel
theorem dX12_tested_126 : decode cX12_tested 126 = .ok (.aload_n 0, 1) := by decide +kernel
theorem dX12_tested_127 : decode cX12_tested 127 = .ok (.getfield 94, 3) := by decide +kernel
theorem dX12_tested_130 : decode cX12_tested 130 = .ok (.invokevirtual 115, 3) := by decide +kernel
theorem dX12_tested_133 : decode cX12_tested 133 = .ok (.ireturn, 1) := by decide +kernel
theorem dX12_tested_134 : decode cX12_tested 134 = .ok (.aload_n 0, 1) := by decide +kernel
theorem dX12_tested_135 : decode cX12_tested 135 = .ok (.iconst 1, 1) := by decide +kernel
theorem dX12_tested_136 : decode cX12_tested 136 = .ok (.invokevirtual 194, 3) := by decide +kernel
theorem dX12_tested_139 : decode cX12_tested 139 = .ok (.iconst 1, 1) := by decide +kernel
theorem dX12_tested_140 : decode cX12_tested 140 = .ok (.ireturn, 1) := by decide +kernel
set_option maxRecDepth 20000 in
theorem ggX12_isDoingHere_X12_passWord : GoodIn wsX12_isDoingHere wsX12_passWord := goodIn_r _ [10, 11, 12, 13, 14, 9, 15, 16, 17, 121, 122, 123, 124, 125, 126, 127, 128, 129, 130, 131, 132, 133, 134, 135, 136, 137, 138, 139, 140, 141, 142, 143, 144, 145, 146, 147, 148, 149, 150, 151, 152, 153, 154, 155, 156, 157, 158, 159, 160, 161, 162] (by decide +kernel) (by decide +kernel)
set_option maxRecDepth 20000 in
theorem gX12_isDoingHere_X12_passWord : GoodIn wsX12_isDoingHere (wsV RX12 109 RX12 yX12_passWord wsX12_passWord) := goodIn_app (goodIn_of _ (by decide +kernel)) ggX12_isDoingHere_X12_passWord
set_option maxRecDepth 20000 in
theorem ggX12_isDoingHere_X12_takesWord : GoodIn wsX12_isDoingHere wsX12_takesWord := goodIn_r _ [21, 22, 23, 24, 9, 25, 11, 17, 26, 27, 28, 29, 16, 12, 13, 14, 15, 6, 7, 8, 10, 121, 122, 123, 124, 125, 126, 127, 128, 129, 130, 131, 132, 133, 134, 135, 136, 137, 138, 139, 140, 141, 142, 143, 144, 145, 146, 147, 148, 149, 150, 151, 152, 153, 154, 155, 156, 157, 158, 159, 160, 161, 162] (by decide +kernel) (by decide +kernel)
set_option maxRecDepth 20000 in
theorem gX12_isDoingHere_X12_takesWord : GoodIn wsX12_isDoingHere (wsV RX12 212 RX12 yX12_takesWord wsX12_takesWord) := goodIn_app (goodIn_of _ (by decide +kernel)) ggX12_isDoingHere_X12_takesWord
set_option maxRecDepth 20000 in
theorem ggX12_isDoingHere_X12_tested : GoodIn wsX12_isDoingHere wsX12_tested := goodIn_r _ [33, 34, 35, 36, 37, 38, 11, 39, 40, 41, 9, 42, 43, 26, 27, 28, 29, 16, 17, 22, 23, 24, 25, 12, 13, 14, 15, 44, 45, 46, 47, 48, 49, 50, 51, 52, 6, 7, 8, 10, 53, 54, 55, 56, 57, 58, 59, 60, 61, 62, 63, 64, 65, 66, 67, 68, 69, 70, 71, 72, 73, 74, 75, 76, 77, 78, 79, 80, 81, 82, 83, 84, 85, 86, 87, 88, 89, 90, 91, 1, 5, 92, 93, 94, 95, 96, 97, 98, 99, 100, 101, 102, 103, 104, 105, 106, 107, 108, 109, 110, 111, 112, 113, 114, 115, 116, 117, 118, 119, 120, 121, 122, 123, 124, 125, 126, 127, 128, 129, 130, 131, 132, 133, 134, 135, 136, 137, 138, 139, 140, 141, 142, 143, 144, 145, 146, 147, 148, 149, 150, 151, 152, 153, 154, 155, 156, 157, 158, 159, 160, 161, 162] (by decide +kernel) (by decide +kernel)
set_option maxRecDepth 20000 in
theorem gX12_isDoingHere_X12_tested : GoodIn wsX12_isDoingHere (wsV RX12 215 RX12 yX12_tested wsX12_tested) := goodIn_app (goodIn_of _ (by decide +kernel)) ggX12_isDoingHere_X12_tested
theorem dX12_isDoingHere_0 : decode cX12_isDoingHere 0 = .ok (.aload_n 0, 1) := by decide +kernel
theorem dX12_isDoingHere_1 : decode cX12_isDoingHere 1 = .ok (.invokevirtual 109, 3) := by decide +kernel
theorem dX12_isDoingHere_4 : decode cX12_isDoingHere 4 = .ok (.bipush 36, 2) := by decide +kernel
theorem dX12_isDoingHere_6 : decode cX12_isDoingHere 6 = .ok (.aload_n 0, 1) := by decide +kernel
theorem dX12_isDoingHere_7 : decode cX12_isDoingHere 7 = .ok (.getfield 146, 3) := by decide +kernel
theorem dX12_isDoingHere_10 : decode cX12_isDoingHere 10 = .ok (.imul, 1) := by decide +kernel
theorem dX12_isDoingHere_11 : decode cX12_isDoingHere 11 = .ok (.iconst 3, 1) := by decide +kernel
theorem dX12_isDoingHere_12 : decode cX12_isDoingHere 12 = .ok (.aload_n 0, 1) := by decide +kernel
theorem dX12_isDoingHere_13 : decode cX12_isDoingHere 13 = .ok (.getfield 23, 3) := by decide +kernel
theorem dX12_isDoingHere_16 : decode cX12_isDoingHere 16 = .ok (.aload_n 0, 1) := by decide +kernel
theorem dX12_isDoingHere_17 : decode cX12_isDoingHere 17 = .ok (.getfield 146, 3) := by decide +kernel
theorem dX12_isDoingHere_20 : decode cX12_isDoingHere 20 = .ok (.iaload, 1) := by decide +kernel
theorem dX12_isDoingHere_21 : decode cX12_isDoingHere 21 = .ok (.imul, 1) := by decide +kernel
theorem dX12_isDoingHere_22 : decode cX12_isDoingHere 22 = .ok (.iadd, 1) := by decide +kernel
theorem dX12_isDoingHere_23 : decode cX12_isDoingHere 23 = .ok (.istore_n 2, 1) := by decide +kernel
theorem dX12_isDoingHere_24 : decode cX12_isDoingHere 24 = .ok (.aload_n 0, 1) := by decide +kernel
theorem dX12_isDoingHere_25 : decode cX12_isDoingHere 25 = .ok (.getfield 20, 3) := by decide +kernel
theorem dX12_isDoingHere_28 : decode cX12_isDoingHere 28 = .ok (.iload_n 2, 1) := by decide +kernel
theorem dX12_isDoingHere_29 : decode cX12_isDoingHere 29 = .ok (.iload_n 1, 1) := by decide +kernel
theorem dX12_isDoingHere_30 : decode cX12_isDoingHere 30 = .ok (.iastore, 1) := by decide +kernel
theorem dX12_isDoingHere_31 : decode cX12_isDoingHere 31 = .ok (.aload_n 0, 1) := by decide +kernel
theorem dX12_isDoingHere_32 : decode cX12_isDoingHere 32 = .ok (.getfield 20, 3) := by decide +kernel
theorem dX12_isDoingHere_35 : decode cX12_isDoingHere 35 = .ok (.iload_n 2, 1) := by decide +kernel
theorem dX12_isDoingHere_36 : decode cX12_isDoingHere 36 = .ok (.iconst 1, 1) := by decide +kernel
theorem dX12_isDoingHere_37 : decode cX12_isDoingHere 37 = .ok (.iadd, 1) := by decide +kernel
theorem dX12_isDoingHere_38 : decode cX12_isDoingHere 38 = .ok (.iconst (-1), 1) := by decide +kernel
theorem dX12_isDoingHere_39 : decode cX12_isDoingHere 39 = .ok (.iastore, 1) := by decide +kernel
theorem dX12_isDoingHere_40 : decode cX12_isDoingHere 40 = .ok (.aload_n 0, 1) := by decide +kernel
theorem dX12_isDoingHere_41 : decode cX12_isDoingHere 41 = .ok (.ldc2_w 210, 3) := by decide +kernel
theorem dX12_isDoingHere_44 : decode cX12_isDoingHere 44 = .ok (.invokevirtual 212, 3) := by decide +kernel
theorem dX12_isDoingHere_47 : decode cX12_isDoingHere 47 = .ok (.ifCond .eq 29, 3) := by decide +kernel
theorem dX12_isDoingHere_50 : decode cX12_isDoingHere 50 = .ok (.aload_n 0, 1) := by decide +kernel
theorem dX12_isDoingHere_51 : decode cX12_isDoingHere 51 = .ok (.getfield 20, 3) := by decide +kernel
theorem dX12_isDoingHere_54 : decode cX12_isDoingHere 54 = .ok (.iload_n 2, 1) := by decide +kernel
theorem dX12_isDoingHere_55 : decode cX12_isDoingHere 55 = .ok (.iconst 1, 1) := by decide +kernel
theorem dX12_isDoingHere_56 : decode cX12_isDoingHere 56 = .ok (.iadd, 1) := by decide +kernel
theorem dX12_isDoingHere_57 : decode cX12_isDoingHere 57 = .ok (.aload_n 0, 1) := by decide +kernel
theorem dX12_isDoingHere_58 : decode cX12_isDoingHere 58 = .ok (.getfield 17, 3) := by decide +kernel
theorem dX12_isDoingHere_61 : decode cX12_isDoingHere 61 = .ok (.aload_n 0, 1) := by decide +kernel
theorem dX12_isDoingHere_62 : decode cX12_isDoingHere 62 = .ok (.getfield 146, 3) := by decide +kernel
theorem dX12_isDoingHere_65 : decode cX12_isDoingHere 65 = .ok (.iaload, 1) := by decide +kernel
theorem dX12_isDoingHere_66 : decode cX12_isDoingHere 66 = .ok (.iastore, 1) := by decide +kernel
theorem dX12_isDoingHere_67 : decode cX12_isDoingHere 67 = .ok (.aload_n 0, 1) := by decide +kernel
theorem dX12_isDoingHere_68 : decode cX12_isDoingHere 68 = .ok (.invokevirtual 215, 3) := by decide +kernel
theorem dX12_isDoingHere_71 : decode cX12_isDoingHere 71 = .ok (.ifCond .ne 5, 3) := by decide +kernel
theorem dX12_isDoingHere_74 : decode cX12_isDoingHere 74 = .ok (.iconst 0, 1) := by decide +kernel
theorem dX12_isDoingHere_75 : decode cX12_isDoingHere 75 = .ok (.ireturn, 1) := by decide +kernel
theorem dX12_isDoingHere_76 : decode cX12_isDoingHere 76 = .ok (.aload_n 0, 1) := by decide +kernel
theorem dX12_isDoingHere_77 : decode cX12_isDoingHere 77 = .ok (.getfield 20, 3) := by decide +kernel
theorem dX12_isDoingHere_80 : decode cX12_isDoingHere 80 = .ok (.iload_n 2, 1) := by decide +kernel
theorem dX12_isDoingHere_81 : decode cX12_isDoingHere 81 = .ok (.iconst 2, 1) := by decide +kernel
theorem dX12_isDoingHere_82 : decode cX12_isDoingHere 82 = .ok (.iadd, 1) := by decide +kernel
theorem dX12_isDoingHere_83 : decode cX12_isDoingHere 83 = .ok (.aload_n 0, 1) := by decide +kernel
theorem dX12_isDoingHere_84 : decode cX12_isDoingHere 84 = .ok (.getfield 17, 3) := by decide +kernel
theorem dX12_isDoingHere_87 : decode cX12_isDoingHere 87 = .ok (.aload_n 0, 1) := by decide +kernel
theorem dX12_isDoingHere_88 : decode cX12_isDoingHere 88 = .ok (.getfield 146, 3) := by decide +kernel
theorem dX12_isDoingHere_91 : decode cX12_isDoingHere 91 = .ok (.iaload, 1) := by decide +kernel
theorem dX12_isDoingHere_92 : decode cX12_isDoingHere 92 = .ok (.iastore, 1) := by decide +kernel
theorem dX12_isDoingHere_93 : decode cX12_isDoingHere 93 = .ok (.aload_n 0, 1) := by decide +kernel
theorem dX12_isDoingHere_94 : decode cX12_isDoingHere 94 = .ok (.getfield 23, 3) := by decide +kernel
theorem dX12_isDoingHere_97 : decode cX12_isDoingHere 97 = .ok (.aload_n 0, 1) := by decide +kernel
theorem dX12_isDoingHere_98 : decode cX12_isDoingHere 98 = .ok (.getfield 146, 3) := by decide +kernel
theorem dX12_isDoingHere_101 : decode cX12_isDoingHere 101 = .ok (.dup2, 1) := by decide +kernel
theorem dX12_isDoingHere_102 : decode cX12_isDoingHere 102 = .ok (.iaload, 1) := by decide +kernel
theorem dX12_isDoingHere_103 : decode cX12_isDoingHere 103 = .ok (.iconst 1, 1) := by decide +kernel
theorem dX12_isDoingHere_104 : decode cX12_isDoingHere 104 = .ok (.iadd, 1) := by decide +kernel
theorem dX12_isDoingHere_105 : decode cX12_isDoingHere 105 = .ok (.iastore, 1) := by decide +kernel
theorem dX12_isDoingHere_106 : decode cX12_isDoingHere 106 = .ok (.iconst 1, 1) := by decide +kernel
theorem dX12_isDoingHere_107 : decode cX12_isDoingHere 107 = .ok (.ireturn, 1) := by decide +kernel
set_option maxRecDepth 20000 in
theorem ggX12_clauseHere_X12_doingSort : GoodIn wsX12_clauseHere wsX12_doingSort := goodIn_r _ [26, 27, 28, 29, 30, 15, 16, 17, 11, 18, 1, 14, 8, 9, 10, 12, 13, 19, 20, 21, 22, 173, 174, 175, 176, 177, 178, 179, 180, 181, 182, 183, 184, 185, 186, 187, 188, 189, 190, 191, 192, 193, 194, 195, 196, 197, 198, 199, 200, 201, 202, 203, 204, 205, 206, 207, 208, 209, 210, 211, 212, 213, 214] (by decide +kernel) (by decide +kernel)
set_option maxRecDepth 20000 in
theorem gX12_clauseHere_X12_doingSort : GoodIn wsX12_clauseHere (wsV RX12 264 RX12 yX12_doingSort wsX12_doingSort) := goodIn_app (goodIn_of _ (by decide +kernel)) ggX12_clauseHere_X12_doingSort
set_option maxRecDepth 20000 in
theorem ggX12_clauseHere_X12_isDoingHere : GoodIn wsX12_clauseHere wsX12_isDoingHere := goodIn_r _ [90, 2, 91, 92, 93, 94, 46, 47, 48, 11, 49, 1, 19, 20, 21, 22, 13, 14, 95, 96, 97, 98, 15, 16, 17, 18, 8, 9, 10, 12, 99, 100, 101, 102, 103, 104, 105, 106, 107, 108, 109, 110, 111, 112, 113, 114, 115, 116, 31, 32, 33, 34, 35, 117, 118, 119, 120, 121, 122, 123, 124, 125, 126, 127, 128, 129, 130, 131, 132, 133, 45, 54, 55, 56, 57, 50, 51, 52, 53, 58, 59, 60, 134, 135, 136, 137, 138, 139, 140, 141, 142, 143, 144, 145, 146, 147, 148, 149, 150, 151, 152, 153, 154, 155, 156, 157, 158, 159, 160, 161, 162, 163, 164, 165, 166, 167, 168, 169, 170, 171, 172, 173, 174, 175, 176, 177, 178, 179, 180, 181, 182, 183, 184, 185, 186, 187, 188, 189, 190, 191, 192, 193, 194, 195, 196, 197, 198, 199, 200, 201, 202, 203, 204, 205, 206, 207, 208, 209, 210, 211, 212, 213, 214] (by decide +kernel) (by decide +kernel)
set_option maxRecDepth 20000 in
theorem gX12_clauseHere_X12_isDoingHere : GoodIn wsX12_clauseHere (wsV RX12 273 RX12 yX12_isDoingHere wsX12_isDoingHere) := goodIn_app (goodIn_of _ (by decide +kernel)) ggX12_clauseHere_X12_isDoingHere
theorem dX12_clauseHere_23 : decode cX12_clauseHere 23 = .ok (.iconst 0, 1) := by decide +kernel
theorem dX12_clauseHere_77 : decode cX12_clauseHere 77 = .ok (.aload_n 0, 1) := by decide +kernel
theorem dX12_clauseHere_78 : decode cX12_clauseHere 78 = .ok (.invokevirtual 264, 3) := by decide +kernel
theorem dX12_clauseHere_81 : decode cX12_clauseHere 81 = .ok (.ifCond .lt 7, 3) := by decide +kernel
theorem dX12_clauseHere_84 : decode cX12_clauseHere 84 = .ok (.iconst 1, 1) := by decide +kernel
theorem dX12_clauseHere_85 : decode cX12_clauseHere 85 = .ok (.goto 4, 3) := by decide +kernel
theorem dX12_clauseHere_88 : decode cX12_clauseHere 88 = .ok (.iconst 0, 1) := by decide +kernel
theorem dX12_clauseHere_114 : decode cX12_clauseHere 114 = .ok (.bipush 12, 2) := by decide +kernel
theorem dX12_clauseHere_148 : decode cX12_clauseHere 148 = .ok (.aload_n 0, 1) := by decide +kernel
theorem dX12_clauseHere_149 : decode cX12_clauseHere 149 = .ok (.aload_n 0, 1) := by decide +kernel
theorem dX12_clauseHere_150 : decode cX12_clauseHere 150 = .ok (.invokevirtual 264, 3) := by decide +kernel
theorem dX12_clauseHere_153 : decode cX12_clauseHere 153 = .ok (.invokevirtual 273, 3) := by decide +kernel
set_option maxRecDepth 20000 in
theorem ggX12_rule_X12_readsAll : GoodIn wsX12_rule wsX12_readsAll := goodIn_r _ [9, 10, 2, 11, 12, 4, 13, 14, 15, 16, 17, 8, 18, 19, 20, 21, 22, 23, 24, 25, 26, 27, 28, 29, 30, 31, 32, 33, 34, 35, 36, 37, 38, 39, 40, 41, 42, 43, 44, 45, 46, 47, 48, 49, 50, 51, 52, 53, 54, 55, 56, 57, 58, 59, 60, 61, 62, 63, 64, 65, 66, 67, 68, 69, 70, 71, 72, 73, 74, 75, 76, 77, 78, 79, 80, 81, 82, 83, 84, 85, 86, 87, 88, 89, 90, 91, 92, 93, 94, 95, 96, 97, 98, 99, 100, 101, 102, 3, 103, 104, 105, 106, 107, 108, 109, 110, 111, 112, 113, 114, 115, 116, 117, 118, 119, 120, 121, 122, 123, 124, 125, 126, 127, 128, 129, 130, 131, 132, 133, 134, 135, 136, 137, 138, 139, 140, 141, 142, 143, 144, 145, 146, 147, 148, 149, 150, 151, 152, 153, 154, 155, 156, 157, 158, 159, 160, 161, 162, 163, 164, 165, 166, 167, 168, 169, 170, 171, 172, 173, 174, 175, 176, 177, 178, 179, 180, 181, 182, 183, 184, 185, 186, 187, 188, 189, 190, 191, 192, 193, 194, 195, 196, 197, 198, 199, 200, 201, 202, 203, 204, 205, 206, 207, 208, 209, 210, 211, 212, 213, 214, 215, 216, 217, 218, 219, 220, 221, 222, 223] (by decide +kernel) (by decide +kernel)
set_option maxRecDepth 20000 in
theorem gX12_rule_X12_readsAll : GoodIn wsX12_rule (wsV RX12 282 RX12 yX12_readsAll wsX12_readsAll) := goodIn_app (goodIn_of _ (by decide +kernel)) ggX12_rule_X12_readsAll
theorem dX12_rule_0 : decode cX12_rule 0 = .ok (.aload_n 0, 1) := by decide +kernel
theorem dX12_rule_1 : decode cX12_rule 1 = .ok (.getfield 279, 3) := by decide +kernel
theorem dX12_rule_4 : decode cX12_rule 4 = .ok (.bipush 6, 2) := by decide +kernel
theorem dX12_rule_6 : decode cX12_rule 6 = .ok (.if_icmp .ne 5, 3) := by decide +kernel
theorem dX12_rule_9 : decode cX12_rule 9 = .ok (.iconst (-1), 1) := by decide +kernel
theorem dX12_rule_10 : decode cX12_rule 10 = .ok (.ireturn, 1) := by decide +kernel
theorem dX12_rule_11 : decode cX12_rule 11 = .ok (.aload_n 0, 1) := by decide +kernel
theorem dX12_rule_12 : decode cX12_rule 12 = .ok (.aload_n 0, 1) := by decide +kernel
theorem dX12_rule_13 : decode cX12_rule 13 = .ok (.getfield 279, 3) := by decide +kernel
theorem dX12_rule_16 : decode cX12_rule 16 = .ok (.putfield 146, 3) := by decide +kernel
theorem dX12_rule_19 : decode cX12_rule 19 = .ok (.aload_n 0, 1) := by decide +kernel
theorem dX12_rule_20 : decode cX12_rule 20 = .ok (.getfield 23, 3) := by decide +kernel
theorem dX12_rule_23 : decode cX12_rule 23 = .ok (.aload_n 0, 1) := by decide +kernel
theorem dX12_rule_24 : decode cX12_rule 24 = .ok (.getfield 146, 3) := by decide +kernel
theorem dX12_rule_27 : decode cX12_rule 27 = .ok (.iconst 0, 1) := by decide +kernel
theorem dX12_rule_28 : decode cX12_rule 28 = .ok (.iastore, 1) := by decide +kernel
theorem dX12_rule_29 : decode cX12_rule 29 = .ok (.aload_n 0, 1) := by decide +kernel
theorem dX12_rule_30 : decode cX12_rule 30 = .ok (.invokevirtual 282, 3) := by decide +kernel
theorem dX12_rule_33 : decode cX12_rule 33 = .ok (.ifCond .ne 11, 3) := by decide +kernel
theorem dX12_rule_36 : decode cX12_rule 36 = .ok (.bipush (-2), 2) := by decide +kernel
theorem dX12_rule_38 : decode cX12_rule 38 = .ok (.aload_n 0, 1) := by decide +kernel
theorem dX12_rule_39 : decode cX12_rule 39 = .ok (.getfield 91, 3) := by decide +kernel
theorem dX12_rule_42 : decode cX12_rule 42 = .ok (.isub, 1) := by decide +kernel
theorem dX12_rule_43 : decode cX12_rule 43 = .ok (.ireturn, 1) := by decide +kernel
theorem dX12_rule_44 : decode cX12_rule 44 = .ok (.aload_n 0, 1) := by decide +kernel
theorem dX12_rule_45 : decode cX12_rule 45 = .ok (.dup, 1) := by decide +kernel
theorem dX12_rule_46 : decode cX12_rule 46 = .ok (.getfield 279, 3) := by decide +kernel
theorem dX12_rule_49 : decode cX12_rule 49 = .ok (.iconst 1, 1) := by decide +kernel
theorem dX12_rule_50 : decode cX12_rule 50 = .ok (.iadd, 1) := by decide +kernel
theorem dX12_rule_51 : decode cX12_rule 51 = .ok (.putfield 279, 3) := by decide +kernel
theorem dX12_rule_54 : decode cX12_rule 54 = .ok (.aload_n 0, 1) := by decide +kernel
theorem dX12_rule_55 : decode cX12_rule 55 = .ok (.getfield 279, 3) := by decide +kernel
theorem dX12_rule_58 : decode cX12_rule 58 = .ok (.iconst 1, 1) := by decide +kernel
theorem dX12_rule_59 : decode cX12_rule 59 = .ok (.isub, 1) := by decide +kernel
theorem dX12_rule_60 : decode cX12_rule 60 = .ok (.ireturn, 1) := by decide +kernel
theorem dX12_push_0 : decode cX12_push 0 = .ok (.aload_n 0, 1) := by decide +kernel
theorem dX12_push_1 : decode cX12_push 1 = .ok (.getfield 38, 3) := by decide +kernel
theorem dX12_push_4 : decode cX12_push 4 = .ok (.aload_n 0, 1) := by decide +kernel
theorem dX12_push_5 : decode cX12_push 5 = .ok (.getfield 285, 3) := by decide +kernel
theorem dX12_push_8 : decode cX12_push 8 = .ok (.lload_n 1, 1) := by decide +kernel
theorem dX12_push_9 : decode cX12_push 9 = .ok (.lastore, 1) := by decide +kernel
theorem dX12_push_10 : decode cX12_push 10 = .ok (.aload_n 0, 1) := by decide +kernel
theorem dX12_push_11 : decode cX12_push 11 = .ok (.dup, 1) := by decide +kernel
theorem dX12_push_12 : decode cX12_push 12 = .ok (.getfield 285, 3) := by decide +kernel
theorem dX12_push_15 : decode cX12_push 15 = .ok (.iconst 1, 1) := by decide +kernel
theorem dX12_push_16 : decode cX12_push 16 = .ok (.iadd, 1) := by decide +kernel
theorem dX12_push_17 : decode cX12_push 17 = .ok (.putfield 285, 3) := by decide +kernel
theorem dX12_push_20 : decode cX12_push 20 = .ok (.return_, 1) := by decide +kernel
theorem dX12_pop_0 : decode cX12_pop 0 = .ok (.aload_n 0, 1) := by decide +kernel
theorem dX12_pop_1 : decode cX12_pop 1 = .ok (.dup, 1) := by decide +kernel
theorem dX12_pop_2 : decode cX12_pop 2 = .ok (.getfield 285, 3) := by decide +kernel
theorem dX12_pop_5 : decode cX12_pop 5 = .ok (.iconst 1, 1) := by decide +kernel
theorem dX12_pop_6 : decode cX12_pop 6 = .ok (.isub, 1) := by decide +kernel
theorem dX12_pop_7 : decode cX12_pop 7 = .ok (.putfield 285, 3) := by decide +kernel
theorem dX12_pop_10 : decode cX12_pop 10 = .ok (.aload_n 0, 1) := by decide +kernel
theorem dX12_pop_11 : decode cX12_pop 11 = .ok (.getfield 38, 3) := by decide +kernel
theorem dX12_pop_14 : decode cX12_pop 14 = .ok (.aload_n 0, 1) := by decide +kernel
theorem dX12_pop_15 : decode cX12_pop 15 = .ok (.getfield 285, 3) := by decide +kernel
theorem dX12_pop_18 : decode cX12_pop 18 = .ok (.laload, 1) := by decide +kernel
theorem dX12_pop_19 : decode cX12_pop 19 = .ok (.lreturn, 1) := by decide +kernel
theorem dX12_one_0 : decode cX12_one 0 = .ok (.iload_n 0, 1) := by decide +kernel
theorem dX12_one_1 : decode cX12_one 1 = .ok (.tableswitch 149 2 12 #[59, 63, 67, 71, 85, 97, 109, 121, 133, 149, 145], 59) := by decide +kernel
theorem dX12_one_60 : decode cX12_one 60 = .ok (.lload_n 1, 1) := by decide +kernel
theorem dX12_one_61 : decode cX12_one 61 = .ok (.lload_n 3, 1) := by decide +kernel
theorem dX12_one_62 : decode cX12_one 62 = .ok (.ladd, 1) := by decide +kernel
theorem dX12_one_63 : decode cX12_one 63 = .ok (.lreturn, 1) := by decide +kernel
theorem dX12_one_64 : decode cX12_one 64 = .ok (.lload_n 1, 1) := by decide +kernel
theorem dX12_one_65 : decode cX12_one 65 = .ok (.lload_n 3, 1) := by decide +kernel
theorem dX12_one_66 : decode cX12_one 66 = .ok (.lsub, 1) := by decide +kernel
theorem dX12_one_67 : decode cX12_one 67 = .ok (.lreturn, 1) := by decide +kernel
theorem dX12_one_68 : decode cX12_one 68 = .ok (.lload_n 1, 1) := by decide +kernel
theorem dX12_one_69 : decode cX12_one 69 = .ok (.lload_n 3, 1) := by decide +kernel
theorem dX12_one_70 : decode cX12_one 70 = .ok (.lmul, 1) := by decide +kernel
theorem dX12_one_71 : decode cX12_one 71 = .ok (.lreturn, 1) := by decide +kernel
theorem dX12_one_72 : decode cX12_one 72 = .ok (.lload_n 3, 1) := by decide +kernel
theorem dX12_one_73 : decode cX12_one 73 = .ok (.lconst 0, 1) := by decide +kernel
theorem dX12_one_74 : decode cX12_one 74 = .ok (.lcmp, 1) := by decide +kernel
theorem dX12_one_75 : decode cX12_one 75 = .ok (.ifCond .ne 7, 3) := by decide +kernel
theorem dX12_one_78 : decode cX12_one 78 = .ok (.lconst 0, 1) := by decide +kernel
theorem dX12_one_79 : decode cX12_one 79 = .ok (.goto 6, 3) := by decide +kernel
theorem dX12_one_82 : decode cX12_one 82 = .ok (.lload_n 1, 1) := by decide +kernel
theorem dX12_one_83 : decode cX12_one 83 = .ok (.lload_n 3, 1) := by decide +kernel
theorem dX12_one_84 : decode cX12_one 84 = .ok (.ldiv, 1) := by decide +kernel
theorem dX12_one_85 : decode cX12_one 85 = .ok (.lreturn, 1) := by decide +kernel
theorem dX12_one_86 : decode cX12_one 86 = .ok (.lload_n 1, 1) := by decide +kernel
theorem dX12_one_87 : decode cX12_one 87 = .ok (.lload_n 3, 1) := by decide +kernel
theorem dX12_one_88 : decode cX12_one 88 = .ok (.lcmp, 1) := by decide +kernel
theorem dX12_one_89 : decode cX12_one 89 = .ok (.ifCond .ge 7, 3) := by decide +kernel
theorem dX12_one_92 : decode cX12_one 92 = .ok (.lconst 1, 1) := by decide +kernel
theorem dX12_one_93 : decode cX12_one 93 = .ok (.goto 4, 3) := by decide +kernel
theorem dX12_one_96 : decode cX12_one 96 = .ok (.lconst 0, 1) := by decide +kernel
theorem dX12_one_97 : decode cX12_one 97 = .ok (.lreturn, 1) := by decide +kernel
theorem dX12_one_98 : decode cX12_one 98 = .ok (.lload_n 1, 1) := by decide +kernel
theorem dX12_one_99 : decode cX12_one 99 = .ok (.lload_n 3, 1) := by decide +kernel
theorem dX12_one_100 : decode cX12_one 100 = .ok (.lcmp, 1) := by decide +kernel
theorem dX12_one_101 : decode cX12_one 101 = .ok (.ifCond .gt 7, 3) := by decide +kernel
theorem dX12_one_104 : decode cX12_one 104 = .ok (.lconst 1, 1) := by decide +kernel
theorem dX12_one_105 : decode cX12_one 105 = .ok (.goto 4, 3) := by decide +kernel
theorem dX12_one_108 : decode cX12_one 108 = .ok (.lconst 0, 1) := by decide +kernel
theorem dX12_one_109 : decode cX12_one 109 = .ok (.lreturn, 1) := by decide +kernel
theorem dX12_one_110 : decode cX12_one 110 = .ok (.lload_n 1, 1) := by decide +kernel
theorem dX12_one_111 : decode cX12_one 111 = .ok (.lload_n 3, 1) := by decide +kernel
theorem dX12_one_112 : decode cX12_one 112 = .ok (.lcmp, 1) := by decide +kernel
theorem dX12_one_113 : decode cX12_one 113 = .ok (.ifCond .ne 7, 3) := by decide +kernel
theorem dX12_one_116 : decode cX12_one 116 = .ok (.lconst 1, 1) := by decide +kernel
theorem dX12_one_117 : decode cX12_one 117 = .ok (.goto 4, 3) := by decide +kernel
theorem dX12_one_120 : decode cX12_one 120 = .ok (.lconst 0, 1) := by decide +kernel
theorem dX12_one_121 : decode cX12_one 121 = .ok (.lreturn, 1) := by decide +kernel
theorem dX12_one_122 : decode cX12_one 122 = .ok (.lload_n 1, 1) := by decide +kernel
theorem dX12_one_123 : decode cX12_one 123 = .ok (.lload_n 3, 1) := by decide +kernel
theorem dX12_one_124 : decode cX12_one 124 = .ok (.lcmp, 1) := by decide +kernel
theorem dX12_one_125 : decode cX12_one 125 = .ok (.ifCond .lt 7, 3) := by decide +kernel
theorem dX12_one_128 : decode cX12_one 128 = .ok (.lconst 1, 1) := by decide +kernel
theorem dX12_one_129 : decode cX12_one 129 = .ok (.goto 4, 3) := by decide +kernel
theorem dX12_one_132 : decode cX12_one 132 = .ok (.lconst 0, 1) := by decide +kernel
theorem dX12_one_133 : decode cX12_one 133 = .ok (.lreturn, 1) := by decide +kernel
theorem dX12_one_134 : decode cX12_one 134 = .ok (.lload_n 1, 1) := by decide +kernel
theorem dX12_one_135 : decode cX12_one 135 = .ok (.lload_n 3, 1) := by decide +kernel
theorem dX12_one_136 : decode cX12_one 136 = .ok (.lcmp, 1) := by decide +kernel
theorem dX12_one_137 : decode cX12_one 137 = .ok (.ifCond .le 7, 3) := by decide +kernel
theorem dX12_one_140 : decode cX12_one 140 = .ok (.lconst 1, 1) := by decide +kernel
theorem dX12_one_141 : decode cX12_one 141 = .ok (.goto 4, 3) := by decide +kernel
theorem dX12_one_144 : decode cX12_one 144 = .ok (.lconst 0, 1) := by decide +kernel
theorem dX12_one_145 : decode cX12_one 145 = .ok (.lreturn, 1) := by decide +kernel
theorem dX12_one_146 : decode cX12_one 146 = .ok (.lload_n 1, 1) := by decide +kernel
theorem dX12_one_147 : decode cX12_one 147 = .ok (.lload_n 3, 1) := by decide +kernel
theorem dX12_one_148 : decode cX12_one 148 = .ok (.land, 1) := by decide +kernel
theorem dX12_one_149 : decode cX12_one 149 = .ok (.lreturn, 1) := by decide +kernel
theorem dX12_one_150 : decode cX12_one 150 = .ok (.lload_n 1, 1) := by decide +kernel
theorem dX12_one_151 : decode cX12_one 151 = .ok (.lload_n 3, 1) := by decide +kernel
theorem dX12_one_152 : decode cX12_one 152 = .ok (.lor, 1) := by decide +kernel
theorem dX12_one_153 : decode cX12_one 153 = .ok (.lreturn, 1) := by decide +kernel
set_option maxRecDepth 20000 in
theorem ggX12_reckons_X12_push : GoodIn wsX12_reckons wsX12_push := goodIn_r _ [8, 9, 1, 17, 18, 19, 20, 21, 22, 23, 24, 25, 26, 27, 28, 29, 30, 31, 32, 33, 34, 35, 36, 37, 38, 39, 40, 41, 42, 43, 44, 45, 46, 47, 48, 49, 50, 51, 52, 53, 54, 55, 56, 57, 58] (by decide +kernel) (by decide +kernel)
set_option maxRecDepth 20000 in
theorem gX12_reckons_X12_push : GoodIn wsX12_reckons (wsV RX12 288 RX12 yX12_push wsX12_push) := goodIn_app (goodIn_of _ (by decide +kernel)) ggX12_reckons_X12_push
set_option maxRecDepth 20000 in
theorem ggX12_reckons_X12_pop : GoodIn wsX12_reckons wsX12_pop := goodIn_r _ [13, 1, 9, 17, 18, 19, 20, 21, 22, 23, 24, 25, 26, 27, 28, 29, 30, 31, 32, 33, 34, 35, 36, 37, 38, 39, 40, 41, 42, 43, 44, 45, 46, 47, 48, 49, 50, 51, 52, 53, 54, 55, 56, 57, 58] (by decide +kernel) (by decide +kernel)
set_option maxRecDepth 20000 in
theorem gX12_reckons_X12_pop : GoodIn wsX12_reckons (wsV RX12 292 RX12 yX12_pop wsX12_pop) := goodIn_app (goodIn_of _ (by decide +kernel)) ggX12_reckons_X12_pop
set_option maxRecDepth 20000 in
theorem ggX12_reckons_X12_one : GoodIn wsX12_reckons wsX12_one := goodIn_r _ [16] (by decide +kernel) (by decide +kernel)
set_option maxRecDepth 20000 in
theorem gX12_reckons_X12_one : GoodIn wsX12_reckons (va_wsS RX12 296 yX12_one wsX12_one) := goodIn_app (goodIn_of _ (by decide +kernel)) ggX12_reckons_X12_one
theorem dX12_reckons_0 : decode cX12_reckons 0 = .ok (.aload_n 0, 1) := by decide +kernel
theorem dX12_reckons_1 : decode cX12_reckons 1 = .ok (.iconst 0, 1) := by decide +kernel
theorem dX12_reckons_2 : decode cX12_reckons 2 = .ok (.putfield 285, 3) := by decide +kernel
theorem dX12_reckons_5 : decode cX12_reckons 5 = .ok (.iload_n 2, 1) := by decide +kernel
theorem dX12_reckons_6 : decode cX12_reckons 6 = .ok (.istore 4, 2) := by decide +kernel
theorem dX12_reckons_8 : decode cX12_reckons 8 = .ok (.iload 4, 2) := by decide +kernel
theorem dX12_reckons_10 : decode cX12_reckons 10 = .ok (.iload_n 3, 1) := by decide +kernel
theorem dX12_reckons_11 : decode cX12_reckons 11 = .ok (.if_icmp .ge 124, 3) := by decide +kernel
theorem dX12_reckons_14 : decode cX12_reckons 14 = .ok (.aload_n 0, 1) := by decide +kernel
theorem dX12_reckons_15 : decode cX12_reckons 15 = .ok (.getfield 13, 3) := by decide +kernel
theorem dX12_reckons_18 : decode cX12_reckons 18 = .ok (.sipush 400, 3) := by decide +kernel
theorem dX12_reckons_21 : decode cX12_reckons 21 = .ok (.iload_n 1, 1) := by decide +kernel
theorem dX12_reckons_22 : decode cX12_reckons 22 = .ok (.imul, 1) := by decide +kernel
theorem dX12_reckons_23 : decode cX12_reckons 23 = .ok (.iload 4, 2) := by decide +kernel
theorem dX12_reckons_25 : decode cX12_reckons 25 = .ok (.iadd, 1) := by decide +kernel
theorem dX12_reckons_26 : decode cX12_reckons 26 = .ok (.iaload, 1) := by decide +kernel
theorem dX12_reckons_27 : decode cX12_reckons 27 = .ok (.bipush 15, 2) := by decide +kernel
theorem dX12_reckons_29 : decode cX12_reckons 29 = .ok (.iand, 1) := by decide +kernel
theorem dX12_reckons_30 : decode cX12_reckons 30 = .ok (.istore 5, 2) := by decide +kernel
theorem dX12_reckons_32 : decode cX12_reckons 32 = .ok (.aload_n 0, 1) := by decide +kernel
theorem dX12_reckons_33 : decode cX12_reckons 33 = .ok (.getfield 13, 3) := by decide +kernel
theorem dX12_reckons_36 : decode cX12_reckons 36 = .ok (.sipush 400, 3) := by decide +kernel
theorem dX12_reckons_39 : decode cX12_reckons 39 = .ok (.iload_n 1, 1) := by decide +kernel
theorem dX12_reckons_40 : decode cX12_reckons 40 = .ok (.imul, 1) := by decide +kernel
theorem dX12_reckons_41 : decode cX12_reckons 41 = .ok (.iload 4, 2) := by decide +kernel
theorem dX12_reckons_43 : decode cX12_reckons 43 = .ok (.iadd, 1) := by decide +kernel
theorem dX12_reckons_44 : decode cX12_reckons 44 = .ok (.iaload, 1) := by decide +kernel
theorem dX12_reckons_45 : decode cX12_reckons 45 = .ok (.iconst 4, 1) := by decide +kernel
theorem dX12_reckons_46 : decode cX12_reckons 46 = .ok (.ishr, 1) := by decide +kernel
theorem dX12_reckons_47 : decode cX12_reckons 47 = .ok (.istore 6, 2) := by decide +kernel
theorem dX12_reckons_49 : decode cX12_reckons 49 = .ok (.iload 5, 2) := by decide +kernel
theorem dX12_reckons_51 : decode cX12_reckons 51 = .ok (.ifCond .ne 13, 3) := by decide +kernel
theorem dX12_reckons_54 : decode cX12_reckons 54 = .ok (.aload_n 0, 1) := by decide +kernel
theorem dX12_reckons_55 : decode cX12_reckons 55 = .ok (.iload 6, 2) := by decide +kernel
theorem dX12_reckons_57 : decode cX12_reckons 57 = .ok (.i2l, 1) := by decide +kernel
theorem dX12_reckons_58 : decode cX12_reckons 58 = .ok (.invokevirtual 288, 3) := by decide +kernel
theorem dX12_reckons_61 : decode cX12_reckons 61 = .ok (.goto 68, 3) := by decide +kernel
theorem dX12_reckons_64 : decode cX12_reckons 64 = .ok (.iload 5, 2) := by decide +kernel
theorem dX12_reckons_66 : decode cX12_reckons 66 = .ok (.iconst 1, 1) := by decide +kernel
theorem dX12_reckons_67 : decode cX12_reckons 67 = .ok (.if_icmp .ne 17, 3) := by decide +kernel
theorem dX12_reckons_70 : decode cX12_reckons 70 = .ok (.aload_n 0, 1) := by decide +kernel
theorem dX12_reckons_71 : decode cX12_reckons 71 = .ok (.aload_n 0, 1) := by decide +kernel
theorem dX12_reckons_72 : decode cX12_reckons 72 = .ok (.getfield 42, 3) := by decide +kernel
theorem dX12_reckons_75 : decode cX12_reckons 75 = .ok (.iload 6, 2) := by decide +kernel
theorem dX12_reckons_77 : decode cX12_reckons 77 = .ok (.laload, 1) := by decide +kernel
theorem dX12_reckons_78 : decode cX12_reckons 78 = .ok (.invokevirtual 288, 3) := by decide +kernel
theorem dX12_reckons_81 : decode cX12_reckons 81 = .ok (.goto 48, 3) := by decide +kernel
theorem dX12_reckons_84 : decode cX12_reckons 84 = .ok (.iload 5, 2) := by decide +kernel
theorem dX12_reckons_86 : decode cX12_reckons 86 = .ok (.bipush 11, 2) := by decide +kernel
theorem dX12_reckons_88 : decode cX12_reckons 88 = .ok (.if_icmp .ne 16, 3) := by decide +kernel
theorem dX12_reckons_91 : decode cX12_reckons 91 = .ok (.aload_n 0, 1) := by decide +kernel
theorem dX12_reckons_92 : decode cX12_reckons 92 = .ok (.lconst 1, 1) := by decide +kernel
theorem dX12_reckons_93 : decode cX12_reckons 93 = .ok (.aload_n 0, 1) := by decide +kernel
theorem dX12_reckons_94 : decode cX12_reckons 94 = .ok (.invokevirtual 292, 3) := by decide +kernel
theorem dX12_reckons_97 : decode cX12_reckons 97 = .ok (.lsub, 1) := by decide +kernel
theorem dX12_reckons_98 : decode cX12_reckons 98 = .ok (.invokevirtual 288, 3) := by decide +kernel
theorem dX12_reckons_101 : decode cX12_reckons 101 = .ok (.goto 28, 3) := by decide +kernel
theorem dX12_reckons_104 : decode cX12_reckons 104 = .ok (.aload_n 0, 1) := by decide +kernel
theorem dX12_reckons_105 : decode cX12_reckons 105 = .ok (.invokevirtual 292, 3) := by decide +kernel
theorem dX12_reckons_108 : decode cX12_reckons 108 = .ok (.lstore 7, 2) := by decide +kernel
theorem dX12_reckons_110 : decode cX12_reckons 110 = .ok (.aload_n 0, 1) := by decide +kernel
theorem dX12_reckons_111 : decode cX12_reckons 111 = .ok (.invokevirtual 292, 3) := by decide +kernel
theorem dX12_reckons_114 : decode cX12_reckons 114 = .ok (.lstore 9, 2) := by decide +kernel
theorem dX12_reckons_116 : decode cX12_reckons 116 = .ok (.aload_n 0, 1) := by decide +kernel
theorem dX12_reckons_117 : decode cX12_reckons 117 = .ok (.iload 5, 2) := by decide +kernel
theorem dX12_reckons_119 : decode cX12_reckons 119 = .ok (.lload 9, 2) := by decide +kernel
theorem dX12_reckons_121 : decode cX12_reckons 121 = .ok (.lload 7, 2) := by decide +kernel
theorem dX12_reckons_123 : decode cX12_reckons 123 = .ok (.invokestatic 296, 3) := by decide +kernel
theorem dX12_reckons_126 : decode cX12_reckons 126 = .ok (.invokevirtual 288, 3) := by decide +kernel
theorem dX12_reckons_129 : decode cX12_reckons 129 = .ok (.iinc 4 1, 3) := by decide +kernel
theorem dX12_reckons_132 : decode cX12_reckons 132 = .ok (.goto (-124), 3) := by decide +kernel
theorem dX12_reckons_135 : decode cX12_reckons 135 = .ok (.aload_n 0, 1) := by decide +kernel
theorem dX12_reckons_136 : decode cX12_reckons 136 = .ok (.invokevirtual 292, 3) := by decide +kernel
theorem dX12_reckons_139 : decode cX12_reckons 139 = .ok (.lreturn, 1) := by decide +kernel
set_option maxRecDepth 20000 in
theorem ggX12_doing_X12_walkerOf : GoodIn wsX12_doing wsX12_walkerOf := goodIn_r _ [7, 8, 85, 86, 87, 88, 89, 90, 91, 92, 93, 94, 95, 96, 97, 98, 99, 100, 101, 102, 103, 104, 105, 106, 107, 108, 109, 110, 111, 112, 113, 114, 115, 116, 117, 118, 119, 120, 121, 122, 123, 124, 125, 126] (by decide +kernel) (by decide +kernel)
set_option maxRecDepth 20000 in
theorem gX12_doing_X12_walkerOf : GoodIn wsX12_doing (wsV RX12 372 RX12 yX12_walkerOf wsX12_walkerOf) := goodIn_app (goodIn_of _ (by decide +kernel)) ggX12_doing_X12_walkerOf
set_option maxRecDepth 20000 in
theorem ggX12_doing_X12_canGo : GoodIn wsX12_doing wsX12_canGo := goodIn_r _ [12, 13, 3, 4, 5, 6, 7, 8, 14, 15, 16, 17, 18, 19, 20, 21, 22, 23, 24, 25, 26, 27, 28, 29, 30, 31, 32, 33, 34, 35, 36, 37, 38, 39, 40, 41, 42, 43, 44, 45, 85, 86, 87, 88, 89, 90, 91, 92, 93, 94, 95, 96, 97, 98, 99, 100, 101, 102, 103, 104, 105, 106, 107, 108, 109, 110, 111, 112, 113, 114, 115, 116, 117, 118, 119, 120, 121, 122, 123, 124, 125, 126] (by decide +kernel) (by decide +kernel)
set_option maxRecDepth 20000 in
theorem gX12_doing_X12_canGo : GoodIn wsX12_doing (wsV RX12 387 RX12 yX12_canGo wsX12_canGo) := goodIn_app (goodIn_of _ (by decide +kernel)) ggX12_doing_X12_canGo
set_option maxRecDepth 20000 in
theorem ggX12_doing_X12_words : GoodIn wsX12_doing wsX12_words := goodIn_r _ [49, 50, 51, 52, 53, 54, 3, 4, 5, 6, 7, 8, 9, 10, 11, 12, 13, 14, 15, 16, 17, 18, 19, 20, 21, 22, 23, 24, 25, 26, 27, 28, 29, 30, 31, 32, 33, 34, 35, 36, 37, 38, 39, 40, 41, 42, 43, 44, 45, 85, 86, 87, 88, 89, 90, 91, 92, 93, 94, 95, 96, 97, 98, 99, 100, 101, 102, 103, 104, 105, 106, 107, 108, 109, 110, 111, 112, 113, 114, 115, 116, 117, 118, 119, 120, 121, 122, 123, 124, 125, 126] (by decide +kernel) (by decide +kernel)
set_option maxRecDepth 20000 in
theorem gX12_doing_X12_words : GoodIn wsX12_doing (wsV RX12 395 RX12 yX12_words wsX12_words) := goodIn_app (goodIn_of _ (by decide +kernel)) ggX12_doing_X12_words
set_option maxRecDepth 20000 in
theorem ggX12_doing_X12_mayDo : GoodIn wsX12_doing wsX12_mayDo := goodIn_r _ [58, 51, 9, 10, 11, 6, 12, 13, 3, 4, 5, 7, 8, 14, 15, 16, 17, 18, 19, 20, 21, 22, 23, 24, 25, 26, 27, 28, 29, 30, 31, 32, 33, 34, 35, 36, 37, 38, 39, 40, 41, 42, 43, 44, 45, 59, 60, 61, 62, 63, 64, 65, 66, 85, 86, 87, 88, 89, 90, 91, 92, 93, 94, 95, 96, 97, 98, 99, 100, 101, 102, 103, 104, 105, 106, 107, 108, 109, 110, 111, 112, 113, 114, 115, 116, 117, 118, 119, 120, 121, 122, 123, 124, 125, 126] (by decide +kernel) (by decide +kernel)
set_option maxRecDepth 20000 in
theorem gX12_doing_X12_mayDo : GoodIn wsX12_doing (wsV RX12 398 RX12 yX12_mayDo wsX12_mayDo) := goodIn_app (goodIn_of _ (by decide +kernel)) ggX12_doing_X12_mayDo
set_option maxRecDepth 20000 in
theorem ggX12_doing_X12_reckons : GoodIn wsX12_doing wsX12_reckons := goodIn_r _ [70, 71, 72, 50, 73, 74, 75, 6, 76, 77, 78, 79, 80, 81, 82, 83, 84, 85, 86, 87, 88, 89, 90, 91, 92, 93, 94, 95, 96, 97, 98, 99, 100, 101, 102, 103, 104, 105, 106, 107, 108, 109, 110, 111, 112, 113, 114, 115, 116, 117, 118, 119, 120, 121, 122, 123, 124, 125, 126] (by decide +kernel) (by decide +kernel)
set_option maxRecDepth 20000 in
theorem gX12_doing_X12_reckons : GoodIn wsX12_doing (wsV RX12 401 RX12 yX12_reckons wsX12_reckons) := goodIn_app (goodIn_of _ (by decide +kernel)) ggX12_doing_X12_reckons
theorem dX12_doing_0 : decode cX12_doing 0 = .ok (.aload_n 0, 1) := by decide +kernel
theorem dX12_doing_1 : decode cX12_doing 1 = .ok (.iload_n 1, 1) := by decide +kernel
theorem dX12_doing_2 : decode cX12_doing 2 = .ok (.iconst 3, 1) := by decide +kernel
theorem dX12_doing_3 : decode cX12_doing 3 = .ok (.invokevirtual 372, 3) := by decide +kernel
theorem dX12_doing_6 : decode cX12_doing 6 = .ok (.istore_n 2, 1) := by decide +kernel
theorem dX12_doing_7 : decode cX12_doing 7 = .ok (.iload_n 2, 1) := by decide +kernel
theorem dX12_doing_8 : decode cX12_doing 8 = .ok (.ifCond .ge 17, 3) := by decide +kernel
theorem dX12_doing_11 : decode cX12_doing 11 = .ok (.aload_n 0, 1) := by decide +kernel
theorem dX12_doing_12 : decode cX12_doing 12 = .ok (.iload_n 1, 1) := by decide +kernel
theorem dX12_doing_13 : decode cX12_doing 13 = .ok (.invokevirtual 387, 3) := by decide +kernel
theorem dX12_doing_16 : decode cX12_doing 16 = .ok (.ifCond .eq 7, 3) := by decide +kernel
theorem dX12_doing_19 : decode cX12_doing 19 = .ok (.iconst 0, 1) := by decide +kernel
theorem dX12_doing_20 : decode cX12_doing 20 = .ok (.goto 4, 3) := by decide +kernel
theorem dX12_doing_23 : decode cX12_doing 23 = .ok (.iconst 3, 1) := by decide +kernel
theorem dX12_doing_24 : decode cX12_doing 24 = .ok (.ireturn, 1) := by decide +kernel
theorem dX12_doing_25 : decode cX12_doing 25 = .ok (.aload_n 0, 1) := by decide +kernel
theorem dX12_doing_26 : decode cX12_doing 26 = .ok (.iload_n 1, 1) := by decide +kernel
theorem dX12_doing_27 : decode cX12_doing 27 = .ok (.invokevirtual 395, 3) := by decide +kernel
theorem dX12_doing_30 : decode cX12_doing 30 = .ok (.iconst 0, 1) := by decide +kernel
theorem dX12_doing_31 : decode cX12_doing 31 = .ok (.istore_n 3, 1) := by decide +kernel
theorem dX12_doing_32 : decode cX12_doing 32 = .ok (.iload_n 3, 1) := by decide +kernel
theorem dX12_doing_33 : decode cX12_doing 33 = .ok (.aload_n 0, 1) := by decide +kernel
theorem dX12_doing_34 : decode cX12_doing 34 = .ok (.getfield 23, 3) := by decide +kernel
theorem dX12_doing_37 : decode cX12_doing 37 = .ok (.iload_n 2, 1) := by decide +kernel
theorem dX12_doing_38 : decode cX12_doing 38 = .ok (.iaload, 1) := by decide +kernel
theorem dX12_doing_39 : decode cX12_doing 39 = .ok (.if_icmp .ge 82, 3) := by decide +kernel
theorem dX12_doing_42 : decode cX12_doing 42 = .ok (.bipush 36, 2) := by decide +kernel
theorem dX12_doing_44 : decode cX12_doing 44 = .ok (.iload_n 2, 1) := by decide +kernel
theorem dX12_doing_45 : decode cX12_doing 45 = .ok (.imul, 1) := by decide +kernel
theorem dX12_doing_46 : decode cX12_doing 46 = .ok (.iconst 3, 1) := by decide +kernel
theorem dX12_doing_47 : decode cX12_doing 47 = .ok (.iload_n 3, 1) := by decide +kernel
theorem dX12_doing_48 : decode cX12_doing 48 = .ok (.imul, 1) := by decide +kernel
theorem dX12_doing_49 : decode cX12_doing 49 = .ok (.iadd, 1) := by decide +kernel
theorem dX12_doing_50 : decode cX12_doing 50 = .ok (.istore 4, 2) := by decide +kernel
theorem dX12_doing_52 : decode cX12_doing 52 = .ok (.aload_n 0, 1) := by decide +kernel
theorem dX12_doing_53 : decode cX12_doing 53 = .ok (.iload_n 1, 1) := by decide +kernel
theorem dX12_doing_54 : decode cX12_doing 54 = .ok (.aload_n 0, 1) := by decide +kernel
theorem dX12_doing_55 : decode cX12_doing 55 = .ok (.getfield 20, 3) := by decide +kernel
theorem dX12_doing_58 : decode cX12_doing 58 = .ok (.iload 4, 2) := by decide +kernel
theorem dX12_doing_60 : decode cX12_doing 60 = .ok (.iaload, 1) := by decide +kernel
theorem dX12_doing_61 : decode cX12_doing 61 = .ok (.invokevirtual 398, 3) := by decide +kernel
theorem dX12_doing_64 : decode cX12_doing 64 = .ok (.ifCond .eq 51, 3) := by decide +kernel
theorem dX12_doing_67 : decode cX12_doing 67 = .ok (.aload_n 0, 1) := by decide +kernel
theorem dX12_doing_68 : decode cX12_doing 68 = .ok (.getfield 20, 3) := by decide +kernel
theorem dX12_doing_71 : decode cX12_doing 71 = .ok (.iload 4, 2) := by decide +kernel
theorem dX12_doing_73 : decode cX12_doing 73 = .ok (.iconst 1, 1) := by decide +kernel
theorem dX12_doing_74 : decode cX12_doing 74 = .ok (.iadd, 1) := by decide +kernel
theorem dX12_doing_75 : decode cX12_doing 75 = .ok (.iaload, 1) := by decide +kernel
theorem dX12_doing_76 : decode cX12_doing 76 = .ok (.ifCond .lt 31, 3) := by decide +kernel
theorem dX12_doing_79 : decode cX12_doing 79 = .ok (.aload_n 0, 1) := by decide +kernel
theorem dX12_doing_80 : decode cX12_doing 80 = .ok (.iload_n 2, 1) := by decide +kernel
theorem dX12_doing_81 : decode cX12_doing 81 = .ok (.aload_n 0, 1) := by decide +kernel
theorem dX12_doing_82 : decode cX12_doing 82 = .ok (.getfield 20, 3) := by decide +kernel
theorem dX12_doing_85 : decode cX12_doing 85 = .ok (.iload 4, 2) := by decide +kernel
theorem dX12_doing_87 : decode cX12_doing 87 = .ok (.iconst 1, 1) := by decide +kernel
theorem dX12_doing_88 : decode cX12_doing 88 = .ok (.iadd, 1) := by decide +kernel
theorem dX12_doing_89 : decode cX12_doing 89 = .ok (.iaload, 1) := by decide +kernel
theorem dX12_doing_90 : decode cX12_doing 90 = .ok (.aload_n 0, 1) := by decide +kernel
theorem dX12_doing_91 : decode cX12_doing 91 = .ok (.getfield 20, 3) := by decide +kernel
theorem dX12_doing_94 : decode cX12_doing 94 = .ok (.iload 4, 2) := by decide +kernel
theorem dX12_doing_96 : decode cX12_doing 96 = .ok (.iconst 2, 1) := by decide +kernel
theorem dX12_doing_97 : decode cX12_doing 97 = .ok (.iadd, 1) := by decide +kernel
theorem dX12_doing_98 : decode cX12_doing 98 = .ok (.iaload, 1) := by decide +kernel
theorem dX12_doing_99 : decode cX12_doing 99 = .ok (.invokevirtual 401, 3) := by decide +kernel
theorem dX12_doing_102 : decode cX12_doing 102 = .ok (.lconst 1, 1) := by decide +kernel
theorem dX12_doing_103 : decode cX12_doing 103 = .ok (.lcmp, 1) := by decide +kernel
theorem dX12_doing_104 : decode cX12_doing 104 = .ok (.ifCond .ne 11, 3) := by decide +kernel
theorem dX12_doing_107 : decode cX12_doing 107 = .ok (.aload_n 0, 1) := by decide +kernel
theorem dX12_doing_108 : decode cX12_doing 108 = .ok (.getfield 20, 3) := by decide +kernel
theorem dX12_doing_111 : decode cX12_doing 111 = .ok (.iload 4, 2) := by decide +kernel
theorem dX12_doing_113 : decode cX12_doing 113 = .ok (.iaload, 1) := by decide +kernel
theorem dX12_doing_114 : decode cX12_doing 114 = .ok (.ireturn, 1) := by decide +kernel
theorem dX12_doing_115 : decode cX12_doing 115 = .ok (.iinc 3 1, 3) := by decide +kernel
theorem dX12_doing_118 : decode cX12_doing 118 = .ok (.goto (-86), 3) := by decide +kernel
theorem dX12_doing_121 : decode cX12_doing 121 = .ok (.iconst 3, 1) := by decide +kernel
theorem dX12_doing_122 : decode cX12_doing 122 = .ok (.ireturn, 1) := by decide +kernel
set_option maxRecDepth 20000 in
theorem ggX12_steps_X12_looks : GoodIn wsX12_steps wsX12_looks := goodIn_r _ [7, 8, 1, 9, 10, 11, 6, 12, 13, 14, 15, 16, 2, 17, 18, 19, 20, 21, 22, 23, 24, 25, 26, 27, 28, 29, 30, 31, 32, 33, 34, 35, 36, 37, 38, 39, 40, 41, 42, 43, 44, 45, 46, 47, 48, 49, 50, 51, 52, 53, 54, 118, 119, 120, 121, 122, 123, 124, 125, 126, 127, 128, 129, 130, 131, 132, 133, 134, 135, 136, 137, 138, 139, 140, 141, 142, 143, 144, 145, 146, 147, 148, 149, 150, 151, 152, 153, 154, 155, 156, 157, 158, 159] (by decide +kernel) (by decide +kernel)
set_option maxRecDepth 20000 in
theorem gX12_steps_X12_looks : GoodIn wsX12_steps (wsV RX12 405 RX12 yX12_looks wsX12_looks) := goodIn_app (goodIn_of _ (by decide +kernel)) ggX12_steps_X12_looks
set_option maxRecDepth 20000 in
theorem ggX12_steps_X12_doing : GoodIn wsX12_steps wsX12_doing := goodIn_r _ [58, 59, 60, 13, 14, 15, 6, 16, 2, 61, 62, 63, 64, 1, 65, 66, 67, 68, 43, 44, 45, 46, 22, 23, 24, 25, 69, 70, 71, 72, 47, 48, 49, 50, 36, 37, 38, 73, 74, 75, 76, 77, 78, 79, 80, 81, 82, 83, 84, 85, 86, 8, 34, 35, 87, 88, 89, 90, 91, 92, 93, 94, 95, 9, 10, 11, 12, 96, 97, 98, 99, 100, 101, 102, 103, 104, 105, 106, 107, 108, 109, 110, 111, 112, 113, 118, 119, 120, 121, 122, 123, 124, 125, 126, 127, 128, 129, 130, 131, 132, 133, 134, 135, 136, 137, 138, 139, 140, 141, 142, 143, 144, 145, 146, 147, 148, 149, 150, 151, 152, 153, 154, 155, 156, 157, 158, 159] (by decide +kernel) (by decide +kernel)
set_option maxRecDepth 20000 in
theorem gX12_steps_X12_doing : GoodIn wsX12_steps (wsV RX12 408 RX12 yX12_doing wsX12_doing) := goodIn_app (goodIn_of _ (by decide +kernel)) ggX12_steps_X12_doing
set_option maxRecDepth 20000 in
theorem ggX12_steps_X12_takesStreet : GoodIn wsX12_steps wsX12_takesStreet := goodIn_r _ [117, 2, 51, 52, 53, 6, 54, 22, 23, 24, 25, 118, 119, 120, 121, 122, 123, 124, 125, 126, 127, 128, 129, 130, 131, 132, 133, 134, 135, 136, 137, 138, 139, 140, 141, 142, 143, 144, 145, 146, 147, 148, 149, 150, 151, 152, 153, 154, 155, 156, 157, 158, 159] (by decide +kernel) (by decide +kernel)
set_option maxRecDepth 20000 in
theorem gX12_steps_X12_takesStreet : GoodIn wsX12_steps (wsV RX12 411 RX12 yX12_takesStreet wsX12_takesStreet) := goodIn_app (goodIn_of _ (by decide +kernel)) ggX12_steps_X12_takesStreet
set_option maxRecDepth 20000 in
theorem ggX12_steps_X12_asideOf : GoodIn wsX12_steps wsX12_asideOf := goodIn_r _ [95, 2, 13, 14, 15, 6, 16, 65, 66, 67, 68, 43, 44, 45, 46, 22, 23, 24, 25, 69, 70, 71, 72, 47, 48, 49, 50, 36, 37, 38, 73, 74, 75, 76, 77, 78, 79, 80, 81, 118, 119, 120, 121, 122, 123, 124, 125, 126, 127, 128, 129, 130, 131, 132, 133, 134, 135, 136, 137, 138, 139, 140, 141, 142, 143, 144, 145, 146, 147, 148, 149, 150, 151, 152, 153, 154, 155, 156, 157, 158, 159] (by decide +kernel) (by decide +kernel)
set_option maxRecDepth 20000 in
theorem gX12_steps_X12_asideOf : GoodIn wsX12_steps (wsV RX12 390 RX12 yX12_asideOf wsX12_asideOf) := goodIn_app (goodIn_of _ (by decide +kernel)) ggX12_steps_X12_asideOf
theorem dX12_steps_0 : decode cX12_steps 0 = .ok (.aload_n 0, 1) := by decide +kernel
theorem dX12_steps_1 : decode cX12_steps 1 = .ok (.iload_n 1, 1) := by decide +kernel
theorem dX12_steps_2 : decode cX12_steps 2 = .ok (.invokevirtual 405, 3) := by decide +kernel
theorem dX12_steps_5 : decode cX12_steps 5 = .ok (.aload_n 0, 1) := by decide +kernel
theorem dX12_steps_6 : decode cX12_steps 6 = .ok (.iload_n 1, 1) := by decide +kernel
theorem dX12_steps_7 : decode cX12_steps 7 = .ok (.invokevirtual 408, 3) := by decide +kernel
theorem dX12_steps_10 : decode cX12_steps 10 = .ok (.istore_n 2, 1) := by decide +kernel
theorem dX12_steps_11 : decode cX12_steps 11 = .ok (.sipush 216, 3) := by decide +kernel
theorem dX12_steps_14 : decode cX12_steps 14 = .ok (.bipush 9, 2) := by decide +kernel
theorem dX12_steps_16 : decode cX12_steps 16 = .ok (.iload_n 1, 1) := by decide +kernel
theorem dX12_steps_17 : decode cX12_steps 17 = .ok (.imul, 1) := by decide +kernel
theorem dX12_steps_18 : decode cX12_steps 18 = .ok (.iadd, 1) := by decide +kernel
theorem dX12_steps_19 : decode cX12_steps 19 = .ok (.istore_n 3, 1) := by decide +kernel
theorem dX12_steps_20 : decode cX12_steps 20 = .ok (.iload_n 2, 1) := by decide +kernel
theorem dX12_steps_21 : decode cX12_steps 21 = .ok (.ifCond .ne 15, 3) := by decide +kernel
theorem dX12_steps_24 : decode cX12_steps 24 = .ok (.aload_n 0, 1) := by decide +kernel
theorem dX12_steps_25 : decode cX12_steps 25 = .ok (.iload_n 1, 1) := by decide +kernel
theorem dX12_steps_26 : decode cX12_steps 26 = .ok (.aload_n 0, 1) := by decide +kernel
theorem dX12_steps_27 : decode cX12_steps 27 = .ok (.getfield 384, 3) := by decide +kernel
theorem dX12_steps_30 : decode cX12_steps 30 = .ok (.invokevirtual 411, 3) := by decide +kernel
theorem dX12_steps_33 : decode cX12_steps 33 = .ok (.goto 71, 3) := by decide +kernel
theorem dX12_steps_36 : decode cX12_steps 36 = .ok (.iload_n 2, 1) := by decide +kernel
theorem dX12_steps_37 : decode cX12_steps 37 = .ok (.iconst 1, 1) := by decide +kernel
theorem dX12_steps_38 : decode cX12_steps 38 = .ok (.if_icmp .ne 16, 3) := by decide +kernel
theorem dX12_steps_41 : decode cX12_steps 41 = .ok (.aload_n 0, 1) := by decide +kernel
theorem dX12_steps_42 : decode cX12_steps 42 = .ok (.iload_n 1, 1) := by decide +kernel
theorem dX12_steps_43 : decode cX12_steps 43 = .ok (.aload_n 0, 1) := by decide +kernel
theorem dX12_steps_44 : decode cX12_steps 44 = .ok (.iload_n 1, 1) := by decide +kernel
theorem dX12_steps_45 : decode cX12_steps 45 = .ok (.invokevirtual 390, 3) := by decide +kernel
theorem dX12_steps_48 : decode cX12_steps 48 = .ok (.invokevirtual 411, 3) := by decide +kernel
theorem dX12_steps_51 : decode cX12_steps 51 = .ok (.goto 53, 3) := by decide +kernel
theorem dX12_steps_54 : decode cX12_steps 54 = .ok (.iload_n 2, 1) := by decide +kernel
theorem dX12_steps_55 : decode cX12_steps 55 = .ok (.iconst 2, 1) := by decide +kernel
theorem dX12_steps_56 : decode cX12_steps 56 = .ok (.if_icmp .ne 36, 3) := by decide +kernel
theorem dX12_steps_59 : decode cX12_steps 59 = .ok (.aload_n 0, 1) := by decide +kernel
theorem dX12_steps_60 : decode cX12_steps 60 = .ok (.getfield 45, 3) := by decide +kernel
theorem dX12_steps_63 : decode cX12_steps 63 = .ok (.iload_n 3, 1) := by decide +kernel
theorem dX12_steps_64 : decode cX12_steps 64 = .ok (.bipush 8, 2) := by decide +kernel
theorem dX12_steps_66 : decode cX12_steps 66 = .ok (.iadd, 1) := by decide +kernel
theorem dX12_steps_67 : decode cX12_steps 67 = .ok (.aload_n 0, 1) := by decide +kernel
theorem dX12_steps_68 : decode cX12_steps 68 = .ok (.getfield 45, 3) := by decide +kernel
theorem dX12_steps_71 : decode cX12_steps 71 = .ok (.iload_n 3, 1) := by decide +kernel
theorem dX12_steps_72 : decode cX12_steps 72 = .ok (.iconst 4, 1) := by decide +kernel
theorem dX12_steps_73 : decode cX12_steps 73 = .ok (.iadd, 1) := by decide +kernel
theorem dX12_steps_74 : decode cX12_steps 74 = .ok (.iaload, 1) := by decide +kernel
theorem dX12_steps_75 : decode cX12_steps 75 = .ok (.bipush 24, 2) := by decide +kernel
theorem dX12_steps_77 : decode cX12_steps 77 = .ok (.idiv, 1) := by decide +kernel
theorem dX12_steps_78 : decode cX12_steps 78 = .ok (.iastore, 1) := by decide +kernel
theorem dX12_steps_79 : decode cX12_steps 79 = .ok (.aload_n 0, 1) := by decide +kernel
theorem dX12_steps_80 : decode cX12_steps 80 = .ok (.getfield 45, 3) := by decide +kernel
theorem dX12_steps_83 : decode cX12_steps 83 = .ok (.iload_n 3, 1) := by decide +kernel
theorem dX12_steps_84 : decode cX12_steps 84 = .ok (.bipush 6, 2) := by decide +kernel
theorem dX12_steps_86 : decode cX12_steps 86 = .ok (.iadd, 1) := by decide +kernel
theorem dX12_steps_87 : decode cX12_steps 87 = .ok (.dup2, 1) := by decide +kernel
theorem dX12_steps_88 : decode cX12_steps 88 = .ok (.iaload, 1) := by decide +kernel
theorem dX12_steps_89 : decode cX12_steps 89 = .ok (.iconst 1, 1) := by decide +kernel
theorem dX12_steps_90 : decode cX12_steps 90 = .ok (.iadd, 1) := by decide +kernel
theorem dX12_steps_91 : decode cX12_steps 91 = .ok (.iastore, 1) := by decide +kernel
theorem dX12_steps_92 : decode cX12_steps 92 = .ok (.aload_n 0, 1) := by decide +kernel
theorem dX12_steps_93 : decode cX12_steps 93 = .ok (.getfield 45, 3) := by decide +kernel
theorem dX12_steps_96 : decode cX12_steps 96 = .ok (.iload_n 3, 1) := by decide +kernel
theorem dX12_steps_97 : decode cX12_steps 97 = .ok (.iconst 4, 1) := by decide +kernel
theorem dX12_steps_98 : decode cX12_steps 98 = .ok (.iadd, 1) := by decide +kernel
theorem dX12_steps_99 : decode cX12_steps 99 = .ok (.dup2, 1) := by decide +kernel
theorem dX12_steps_100 : decode cX12_steps 100 = .ok (.iaload, 1) := by decide +kernel
theorem dX12_steps_101 : decode cX12_steps 101 = .ok (.iconst 1, 1) := by decide +kernel
theorem dX12_steps_102 : decode cX12_steps 102 = .ok (.iadd, 1) := by decide +kernel
theorem dX12_steps_103 : decode cX12_steps 103 = .ok (.iastore, 1) := by decide +kernel
theorem dX12_steps_104 : decode cX12_steps 104 = .ok (.aload_n 0, 1) := by decide +kernel
theorem dX12_steps_105 : decode cX12_steps 105 = .ok (.getfield 45, 3) := by decide +kernel
theorem dX12_steps_108 : decode cX12_steps 108 = .ok (.iload_n 3, 1) := by decide +kernel
theorem dX12_steps_109 : decode cX12_steps 109 = .ok (.iconst 5, 1) := by decide +kernel
theorem dX12_steps_110 : decode cX12_steps 110 = .ok (.iadd, 1) := by decide +kernel
theorem dX12_steps_111 : decode cX12_steps 111 = .ok (.dup2, 1) := by decide +kernel
theorem dX12_steps_112 : decode cX12_steps 112 = .ok (.iaload, 1) := by decide +kernel
theorem dX12_steps_113 : decode cX12_steps 113 = .ok (.iconst 1, 1) := by decide +kernel
theorem dX12_steps_114 : decode cX12_steps 114 = .ok (.iadd, 1) := by decide +kernel
theorem dX12_steps_115 : decode cX12_steps 115 = .ok (.iastore, 1) := by decide +kernel
theorem dX12_steps_116 : decode cX12_steps 116 = .ok (.iload_n 2, 1) := by decide +kernel
theorem dX12_steps_117 : decode cX12_steps 117 = .ok (.ifCond .eq 8, 3) := by decide +kernel
theorem dX12_steps_120 : decode cX12_steps 120 = .ok (.iload_n 2, 1) := by decide +kernel
theorem dX12_steps_121 : decode cX12_steps 121 = .ok (.iconst 1, 1) := by decide +kernel
theorem dX12_steps_122 : decode cX12_steps 122 = .ok (.if_icmp .ne 7, 3) := by decide +kernel
theorem dX12_steps_125 : decode cX12_steps 125 = .ok (.iconst 1, 1) := by decide +kernel
theorem dX12_steps_126 : decode cX12_steps 126 = .ok (.goto 4, 3) := by decide +kernel
theorem dX12_steps_129 : decode cX12_steps 129 = .ok (.iconst 0, 1) := by decide +kernel
theorem dX12_steps_130 : decode cX12_steps 130 = .ok (.ireturn, 1) := by decide +kernel
set_option maxRecDepth 20000 in
theorem ggX12_step_X12_isWalker : GoodIn wsX12_step wsX12_isWalker := goodIn_r _ [6, 7, 134, 135, 136, 137, 138, 139, 140, 141, 142, 143, 144, 145, 146, 147, 148, 149, 150, 151, 152, 153, 154, 155, 156, 157, 158, 159, 160, 161, 162, 163, 164, 165, 166, 167, 168, 169, 170, 171, 172, 173, 174, 175] (by decide +kernel) (by decide +kernel)
set_option maxRecDepth 20000 in
theorem gX12_step_X12_isWalker : GoodIn wsX12_step (wsV RX12 367 RX12 yX12_isWalker wsX12_isWalker) := goodIn_app (goodIn_of _ (by decide +kernel)) ggX12_step_X12_isWalker
set_option maxRecDepth 20000 in
theorem ggX12_step_X12_in : GoodIn wsX12_step wsX12_in := goodIn_r _ [10] (by decide +kernel) (by decide +kernel)
set_option maxRecDepth 20000 in
theorem gX12_step_X12_in : GoodIn wsX12_step (va_wsS RX12 122 yX12_in wsX12_in) := goodIn_app (goodIn_of _ (by decide +kernel)) ggX12_step_X12_in
set_option maxRecDepth 20000 in
theorem ggX12_step_X12_isThere : GoodIn wsX12_step wsX12_isThere := goodIn_r _ [14, 15, 16, 17, 5, 18, 7, 134, 135, 136, 137, 138, 139, 140, 141, 142, 143, 144, 145, 146, 147, 148, 149, 150, 151, 152, 153, 154, 155, 156, 157, 158, 159, 160, 161, 162, 163, 164, 165, 166, 167, 168, 169, 170, 171, 172, 173, 174, 175] (by decide +kernel) (by decide +kernel)
set_option maxRecDepth 20000 in
theorem gX12_step_X12_isThere : GoodIn wsX12_step (wsV RX12 416 RX12 yX12_isThere wsX12_isThere) := goodIn_app (goodIn_of _ (by decide +kernel)) ggX12_step_X12_isThere
set_option maxRecDepth 20000 in
theorem ggX12_step_X12_steps : GoodIn wsX12_step wsX12_steps := goodIn_r _ [22, 23, 7, 24, 25, 26, 5, 27, 28, 29, 30, 31, 32, 15, 16, 17, 18, 33, 34, 35, 36, 37, 38, 39, 40, 41, 42, 43, 44, 45, 46, 47, 48, 49, 50, 51, 52, 53, 54, 55, 56, 57, 58, 59, 60, 61, 62, 63, 64, 65, 66, 67, 68, 69, 70, 71, 72, 73, 74, 75, 76, 77, 78, 79, 80, 81, 82, 83, 84, 85, 86, 87, 88, 89, 90, 91, 92, 93, 94, 95, 96, 97, 98, 99, 100, 101, 102, 103, 104, 105, 106, 107, 108, 109, 110, 111, 112, 113, 114, 115, 116, 117, 118, 119, 120, 121, 122, 123, 124, 125, 126, 127, 128, 129, 130, 131, 132, 133, 134, 135, 136, 137, 138, 139, 140, 141, 142, 143, 144, 145, 146, 147, 148, 149, 150, 151, 152, 153, 154, 155, 156, 157, 158, 159, 160, 161, 162, 163, 164, 165, 166, 167, 168, 169, 170, 171, 172, 173, 174, 175] (by decide +kernel) (by decide +kernel)
set_option maxRecDepth 20000 in
theorem gX12_step_X12_steps : GoodIn wsX12_step (wsV RX12 419 RX12 yX12_steps wsX12_steps) := goodIn_app (goodIn_of _ (by decide +kernel)) ggX12_step_X12_steps
set_option maxRecDepth 20000 in
theorem ggX12_step_X12_walkerOf : GoodIn wsX12_step wsX12_walkerOf := goodIn_r _ [18, 7, 134, 135, 136, 137, 138, 139, 140, 141, 142, 143, 144, 145, 146, 147, 148, 149, 150, 151, 152, 153, 154, 155, 156, 157, 158, 159, 160, 161, 162, 163, 164, 165, 166, 167, 168, 169, 170, 171, 172, 173, 174, 175] (by decide +kernel) (by decide +kernel)
set_option maxRecDepth 20000 in
theorem gX12_step_X12_walkerOf : GoodIn wsX12_step (wsV RX12 372 RX12 yX12_walkerOf wsX12_walkerOf) := goodIn_app (goodIn_of _ (by decide +kernel)) ggX12_step_X12_walkerOf
theorem dX12_step_0 : decode cX12_step 0 = .ok (.aload_n 0, 1) := by decide +kernel
theorem dX12_step_1 : decode cX12_step 1 = .ok (.iload_n 1, 1) := by decide +kernel
theorem dX12_step_2 : decode cX12_step 2 = .ok (.invokevirtual 367, 3) := by decide +kernel
theorem dX12_step_5 : decode cX12_step 5 = .ok (.ifCond .eq 15, 3) := by decide +kernel
theorem dX12_step_8 : decode cX12_step 8 = .ok (.iload_n 2, 1) := by decide +kernel
theorem dX12_step_9 : decode cX12_step 9 = .ok (.i2l, 1) := by decide +kernel
theorem dX12_step_10 : decode cX12_step 10 = .ok (.lconst 1, 1) := by decide +kernel
theorem dX12_step_11 : decode cX12_step 11 = .ok (.ldc2_w 414, 3) := by decide +kernel
theorem dX12_step_14 : decode cX12_step 14 = .ok (.invokestatic 122, 3) := by decide +kernel
theorem dX12_step_17 : decode cX12_step 17 = .ok (.ifCond .ne 5, 3) := by decide +kernel
theorem dX12_step_20 : decode cX12_step 20 = .ok (.iconst (-1), 1) := by decide +kernel
theorem dX12_step_21 : decode cX12_step 21 = .ok (.ireturn, 1) := by decide +kernel
theorem dX12_step_22 : decode cX12_step 22 = .ok (.iconst 0, 1) := by decide +kernel
theorem dX12_step_23 : decode cX12_step 23 = .ok (.istore_n 3, 1) := by decide +kernel
theorem dX12_step_24 : decode cX12_step 24 = .ok (.iload_n 3, 1) := by decide +kernel
theorem dX12_step_25 : decode cX12_step 25 = .ok (.iload_n 2, 1) := by decide +kernel
theorem dX12_step_26 : decode cX12_step 26 = .ok (.if_icmp .ge 23, 3) := by decide +kernel
theorem dX12_step_29 : decode cX12_step 29 = .ok (.aload_n 0, 1) := by decide +kernel
theorem dX12_step_30 : decode cX12_step 30 = .ok (.iload_n 1, 1) := by decide +kernel
theorem dX12_step_31 : decode cX12_step 31 = .ok (.invokevirtual 416, 3) := by decide +kernel
theorem dX12_step_34 : decode cX12_step 34 = .ok (.ifCond .ne 15, 3) := by decide +kernel
theorem dX12_step_37 : decode cX12_step 37 = .ok (.aload_n 0, 1) := by decide +kernel
theorem dX12_step_38 : decode cX12_step 38 = .ok (.iload_n 1, 1) := by decide +kernel
theorem dX12_step_39 : decode cX12_step 39 = .ok (.invokevirtual 419, 3) := by decide +kernel
theorem dX12_step_42 : decode cX12_step 42 = .ok (.pop, 1) := by decide +kernel
theorem dX12_step_43 : decode cX12_step 43 = .ok (.iinc 3 1, 3) := by decide +kernel
theorem dX12_step_46 : decode cX12_step 46 = .ok (.goto (-22), 3) := by decide +kernel
theorem dX12_step_49 : decode cX12_step 49 = .ok (.aload_n 0, 1) := by decide +kernel
theorem dX12_step_50 : decode cX12_step 50 = .ok (.iload_n 1, 1) := by decide +kernel
theorem dX12_step_51 : decode cX12_step 51 = .ok (.iconst 0, 1) := by decide +kernel
theorem dX12_step_52 : decode cX12_step 52 = .ok (.invokevirtual 372, 3) := by decide +kernel
theorem dX12_step_55 : decode cX12_step 55 = .ok (.ireturn, 1) := by decide +kernel
set_option maxRecDepth 20000 in
theorem ggX12_comes_X12_isWalker : GoodIn wsX12_comes wsX12_isWalker := goodIn_r _ [7, 8, 144, 145, 146, 147, 148, 149, 150, 151, 152, 153, 154, 155, 156, 157, 158, 159, 160, 161, 162, 163, 164, 165, 166, 167, 168, 169, 170, 171, 172, 173, 174, 175, 176, 177, 178, 179, 180, 181, 182, 183, 184, 185] (by decide +kernel) (by decide +kernel)
set_option maxRecDepth 20000 in
theorem gX12_comes_X12_isWalker : GoodIn wsX12_comes (wsV RX12 367 RX12 yX12_isWalker wsX12_isWalker) := goodIn_app (goodIn_of _ (by decide +kernel)) ggX12_comes_X12_isWalker
set_option maxRecDepth 20000 in
theorem ggX12_comes_X12_in : GoodIn wsX12_comes wsX12_in := goodIn_r _ [11] (by decide +kernel) (by decide +kernel)
set_option maxRecDepth 20000 in
theorem gX12_comes_X12_in : GoodIn wsX12_comes (va_wsS RX12 122 yX12_in wsX12_in) := goodIn_app (goodIn_of _ (by decide +kernel)) ggX12_comes_X12_in
set_option maxRecDepth 20000 in
theorem ggX12_comes_X12_keeps : GoodIn wsX12_comes wsX12_keeps := goodIn_r _ [15, 16, 8, 144, 145, 146, 147, 148, 149, 150, 151, 152, 153, 154, 155, 156, 157, 158, 159, 160, 161, 162, 163, 164, 165, 166, 167, 168, 169, 170, 171, 172, 173, 174, 175, 176, 177, 178, 179, 180, 181, 182, 183, 184, 185] (by decide +kernel) (by decide +kernel)
set_option maxRecDepth 20000 in
theorem gX12_comes_X12_keeps : GoodIn wsX12_comes (wsV RX12 426 RX12 yX12_keeps wsX12_keeps) := goodIn_app (goodIn_of _ (by decide +kernel)) ggX12_comes_X12_keeps
set_option maxRecDepth 20000 in
theorem ggX12_comes_X12_walkerOf : GoodIn wsX12_comes wsX12_walkerOf := goodIn_r _ [20, 8, 144, 145, 146, 147, 148, 149, 150, 151, 152, 153, 154, 155, 156, 157, 158, 159, 160, 161, 162, 163, 164, 165, 166, 167, 168, 169, 170, 171, 172, 173, 174, 175, 176, 177, 178, 179, 180, 181, 182, 183, 184, 185] (by decide +kernel) (by decide +kernel)
set_option maxRecDepth 20000 in
theorem gX12_comes_X12_walkerOf : GoodIn wsX12_comes (wsV RX12 372 RX12 yX12_walkerOf wsX12_walkerOf) := goodIn_app (goodIn_of _ (by decide +kernel)) ggX12_comes_X12_walkerOf
set_option maxRecDepth 20000 in
theorem ggX12_comes_X12_isThere : GoodIn wsX12_comes wsX12_isThere := goodIn_r _ [24, 17, 18, 19, 6, 20, 8, 144, 145, 146, 147, 148, 149, 150, 151, 152, 153, 154, 155, 156, 157, 158, 159, 160, 161, 162, 163, 164, 165, 166, 167, 168, 169, 170, 171, 172, 173, 174, 175, 176, 177, 178, 179, 180, 181, 182, 183, 184, 185] (by decide +kernel) (by decide +kernel)
set_option maxRecDepth 20000 in
theorem gX12_comes_X12_isThere : GoodIn wsX12_comes (wsV RX12 416 RX12 yX12_isThere wsX12_isThere) := goodIn_app (goodIn_of _ (by decide +kernel)) ggX12_comes_X12_isThere
set_option maxRecDepth 20000 in
theorem ggX12_comes_X12_steps : GoodIn wsX12_comes wsX12_steps := goodIn_r _ [28, 29, 8, 30, 31, 32, 6, 33, 34, 35, 36, 37, 38, 17, 18, 19, 20, 39, 40, 41, 42, 43, 44, 45, 46, 47, 48, 49, 50, 51, 52, 53, 54, 55, 56, 57, 58, 59, 60, 61, 62, 63, 64, 65, 66, 67, 68, 69, 70, 71, 72, 73, 74, 75, 76, 77, 78, 79, 80, 81, 82, 83, 84, 85, 86, 87, 88, 89, 90, 91, 92, 93, 94, 95, 96, 97, 98, 99, 100, 101, 102, 103, 104, 105, 106, 107, 108, 109, 110, 111, 112, 113, 114, 115, 116, 117, 118, 119, 120, 121, 122, 123, 124, 125, 126, 127, 128, 129, 130, 131, 132, 133, 134, 135, 136, 137, 138, 139, 144, 145, 146, 147, 148, 149, 150, 151, 152, 153, 154, 155, 156, 157, 158, 159, 160, 161, 162, 163, 164, 165, 166, 167, 168, 169, 170, 171, 172, 173, 174, 175, 176, 177, 178, 179, 180, 181, 182, 183, 184, 185] (by decide +kernel) (by decide +kernel)
set_option maxRecDepth 20000 in
theorem gX12_comes_X12_steps : GoodIn wsX12_comes (wsV RX12 419 RX12 yX12_steps wsX12_steps) := goodIn_app (goodIn_of _ (by decide +kernel)) ggX12_comes_X12_steps
set_option maxRecDepth 20000 in
theorem ggX12_comes_X12_putsBack : GoodIn wsX12_comes wsX12_putsBack := goodIn_r _ [143, 8, 16, 144, 145, 146, 147, 148, 149, 150, 151, 152, 153, 154, 155, 156, 157, 158, 159, 160, 161, 162, 163, 164, 165, 166, 167, 168, 169, 170, 171, 172, 173, 174, 175, 176, 177, 178, 179, 180, 181, 182, 183, 184, 185] (by decide +kernel) (by decide +kernel)
set_option maxRecDepth 20000 in
theorem gX12_comes_X12_putsBack : GoodIn wsX12_comes (wsV RX12 429 RX12 yX12_putsBack wsX12_putsBack) := goodIn_app (goodIn_of _ (by decide +kernel)) ggX12_comes_X12_putsBack
theorem dX12_comes_0 : decode cX12_comes 0 = .ok (.aload_n 0, 1) := by decide +kernel
theorem dX12_comes_1 : decode cX12_comes 1 = .ok (.iload_n 1, 1) := by decide +kernel
theorem dX12_comes_2 : decode cX12_comes 2 = .ok (.invokevirtual 367, 3) := by decide +kernel
theorem dX12_comes_5 : decode cX12_comes 5 = .ok (.ifCond .eq 27, 3) := by decide +kernel
theorem dX12_comes_8 : decode cX12_comes 8 = .ok (.iload_n 2, 1) := by decide +kernel
theorem dX12_comes_9 : decode cX12_comes 9 = .ok (.i2l, 1) := by decide +kernel
theorem dX12_comes_10 : decode cX12_comes 10 = .ok (.lconst 0, 1) := by decide +kernel
theorem dX12_comes_11 : decode cX12_comes 11 = .ok (.ldc2_w 422, 3) := by decide +kernel
theorem dX12_comes_14 : decode cX12_comes 14 = .ok (.invokestatic 122, 3) := by decide +kernel
theorem dX12_comes_17 : decode cX12_comes 17 = .ok (.ifCond .eq 15, 3) := by decide +kernel
theorem dX12_comes_20 : decode cX12_comes 20 = .ok (.iload_n 3, 1) := by decide +kernel
theorem dX12_comes_21 : decode cX12_comes 21 = .ok (.i2l, 1) := by decide +kernel
theorem dX12_comes_22 : decode cX12_comes 22 = .ok (.lconst 0, 1) := by decide +kernel
theorem dX12_comes_23 : decode cX12_comes 23 = .ok (.ldc2_w 424, 3) := by decide +kernel
theorem dX12_comes_26 : decode cX12_comes 26 = .ok (.invokestatic 122, 3) := by decide +kernel
theorem dX12_comes_29 : decode cX12_comes 29 = .ok (.ifCond .ne 5, 3) := by decide +kernel
theorem dX12_comes_32 : decode cX12_comes 32 = .ok (.iconst (-1), 1) := by decide +kernel
theorem dX12_comes_33 : decode cX12_comes 33 = .ok (.ireturn, 1) := by decide +kernel
theorem dX12_comes_34 : decode cX12_comes 34 = .ok (.aload_n 0, 1) := by decide +kernel
theorem dX12_comes_35 : decode cX12_comes 35 = .ok (.invokevirtual 426, 3) := by decide +kernel
theorem dX12_comes_38 : decode cX12_comes 38 = .ok (.iconst 0, 1) := by decide +kernel
theorem dX12_comes_39 : decode cX12_comes 39 = .ok (.istore 4, 2) := by decide +kernel
theorem dX12_comes_41 : decode cX12_comes 41 = .ok (.aload_n 0, 1) := by decide +kernel
theorem dX12_comes_42 : decode cX12_comes 42 = .ok (.iload_n 1, 1) := by decide +kernel
theorem dX12_comes_43 : decode cX12_comes 43 = .ok (.bipush 6, 2) := by decide +kernel
theorem dX12_comes_45 : decode cX12_comes 45 = .ok (.invokevirtual 372, 3) := by decide +kernel
theorem dX12_comes_48 : decode cX12_comes 48 = .ok (.istore 5, 2) := by decide +kernel
theorem dX12_comes_50 : decode cX12_comes 50 = .ok (.iload 4, 2) := by decide +kernel
theorem dX12_comes_52 : decode cX12_comes 52 = .ok (.iload_n 2, 1) := by decide +kernel
theorem dX12_comes_53 : decode cX12_comes 53 = .ok (.if_icmp .ge 23, 3) := by decide +kernel
theorem dX12_comes_56 : decode cX12_comes 56 = .ok (.aload_n 0, 1) := by decide +kernel
theorem dX12_comes_57 : decode cX12_comes 57 = .ok (.iload_n 1, 1) := by decide +kernel
theorem dX12_comes_58 : decode cX12_comes 58 = .ok (.invokevirtual 416, 3) := by decide +kernel
theorem dX12_comes_61 : decode cX12_comes 61 = .ok (.ifCond .ne 15, 3) := by decide +kernel
theorem dX12_comes_64 : decode cX12_comes 64 = .ok (.aload_n 0, 1) := by decide +kernel
theorem dX12_comes_65 : decode cX12_comes 65 = .ok (.iload_n 1, 1) := by decide +kernel
theorem dX12_comes_66 : decode cX12_comes 66 = .ok (.invokevirtual 419, 3) := by decide +kernel
theorem dX12_comes_69 : decode cX12_comes 69 = .ok (.pop, 1) := by decide +kernel
theorem dX12_comes_70 : decode cX12_comes 70 = .ok (.iinc 4 1, 3) := by decide +kernel
theorem dX12_comes_73 : decode cX12_comes 73 = .ok (.goto (-23), 3) := by decide +kernel
theorem dX12_comes_76 : decode cX12_comes 76 = .ok (.iload_n 3, 1) := by decide +kernel
theorem dX12_comes_77 : decode cX12_comes 77 = .ok (.ifCond .ne 25, 3) := by decide +kernel
theorem dX12_comes_80 : decode cX12_comes 80 = .ok (.aload_n 0, 1) := by decide +kernel
theorem dX12_comes_81 : decode cX12_comes 81 = .ok (.iload_n 1, 1) := by decide +kernel
theorem dX12_comes_82 : decode cX12_comes 82 = .ok (.invokevirtual 416, 3) := by decide +kernel
theorem dX12_comes_85 : decode cX12_comes 85 = .ok (.ifCond .eq 12, 3) := by decide +kernel
theorem dX12_comes_88 : decode cX12_comes 88 = .ok (.aload_n 0, 1) := by decide +kernel
theorem dX12_comes_89 : decode cX12_comes 89 = .ok (.iload_n 1, 1) := by decide +kernel
theorem dX12_comes_90 : decode cX12_comes 90 = .ok (.iconst 4, 1) := by decide +kernel
theorem dX12_comes_91 : decode cX12_comes 91 = .ok (.invokevirtual 372, 3) := by decide +kernel
theorem dX12_comes_94 : decode cX12_comes 94 = .ok (.goto 28, 3) := by decide +kernel
theorem dX12_comes_97 : decode cX12_comes 97 = .ok (.bipush (-2), 2) := by decide +kernel
theorem dX12_comes_99 : decode cX12_comes 99 = .ok (.goto 23, 3) := by decide +kernel
theorem dX12_comes_102 : decode cX12_comes 102 = .ok (.iload_n 3, 1) := by decide +kernel
theorem dX12_comes_103 : decode cX12_comes 103 = .ok (.iconst 1, 1) := by decide +kernel
theorem dX12_comes_104 : decode cX12_comes 104 = .ok (.if_icmp .ne 8, 3) := by decide +kernel
theorem dX12_comes_107 : decode cX12_comes 107 = .ok (.iload 4, 2) := by decide +kernel
theorem dX12_comes_109 : decode cX12_comes 109 = .ok (.goto 13, 3) := by decide +kernel
theorem dX12_comes_112 : decode cX12_comes 112 = .ok (.aload_n 0, 1) := by decide +kernel
theorem dX12_comes_113 : decode cX12_comes 113 = .ok (.iload_n 1, 1) := by decide +kernel
theorem dX12_comes_114 : decode cX12_comes 114 = .ok (.bipush 6, 2) := by decide +kernel
theorem dX12_comes_116 : decode cX12_comes 116 = .ok (.invokevirtual 372, 3) := by decide +kernel
theorem dX12_comes_119 : decode cX12_comes 119 = .ok (.iload 5, 2) := by decide +kernel
theorem dX12_comes_121 : decode cX12_comes 121 = .ok (.isub, 1) := by decide +kernel
theorem dX12_comes_122 : decode cX12_comes 122 = .ok (.istore 6, 2) := by decide +kernel
theorem dX12_comes_124 : decode cX12_comes 124 = .ok (.aload_n 0, 1) := by decide +kernel
theorem dX12_comes_125 : decode cX12_comes 125 = .ok (.invokevirtual 429, 3) := by decide +kernel
theorem dX12_comes_128 : decode cX12_comes 128 = .ok (.iload 6, 2) := by decide +kernel
theorem dX12_comes_130 : decode cX12_comes 130 = .ok (.ireturn, 1) := by decide +kernel
set_option maxRecDepth 20000 in
theorem ggX12_round_X12_isWalker : GoodIn wsX12_round wsX12_isWalker := goodIn_r _ [8, 9, 147, 148, 149, 150, 151, 152, 153, 154, 155, 156, 157, 158, 159, 160, 161, 162, 163, 164, 165, 166, 167, 168, 169, 170, 171, 172, 173, 174, 175, 176, 177, 178, 179, 180, 181, 182, 183, 184, 185, 186, 187, 188] (by decide +kernel) (by decide +kernel)
set_option maxRecDepth 20000 in
theorem gX12_round_X12_isWalker : GoodIn wsX12_round (wsV RX12 367 RX12 yX12_isWalker wsX12_isWalker) := goodIn_app (goodIn_of _ (by decide +kernel)) ggX12_round_X12_isWalker
set_option maxRecDepth 20000 in
theorem ggX12_round_X12_in : GoodIn wsX12_round wsX12_in := goodIn_r _ [12] (by decide +kernel) (by decide +kernel)
set_option maxRecDepth 20000 in
theorem gX12_round_X12_in : GoodIn wsX12_round (va_wsS RX12 122 yX12_in wsX12_in) := goodIn_app (goodIn_of _ (by decide +kernel)) ggX12_round_X12_in
set_option maxRecDepth 20000 in
theorem ggX12_round_X12_keeps : GoodIn wsX12_round wsX12_keeps := goodIn_r _ [16, 17, 9, 147, 148, 149, 150, 151, 152, 153, 154, 155, 156, 157, 158, 159, 160, 161, 162, 163, 164, 165, 166, 167, 168, 169, 170, 171, 172, 173, 174, 175, 176, 177, 178, 179, 180, 181, 182, 183, 184, 185, 186, 187, 188] (by decide +kernel) (by decide +kernel)
set_option maxRecDepth 20000 in
theorem gX12_round_X12_keeps : GoodIn wsX12_round (wsV RX12 426 RX12 yX12_keeps wsX12_keeps) := goodIn_app (goodIn_of _ (by decide +kernel)) ggX12_round_X12_keeps
set_option maxRecDepth 20000 in
theorem ggX12_round_X12_asHeIs : GoodIn wsX12_round wsX12_asHeIs := goodIn_r _ [21, 22, 23, 24, 7, 25, 9, 147, 148, 149, 150, 151, 152, 153, 154, 155, 156, 157, 158, 159, 160, 161, 162, 163, 164, 165, 166, 167, 168, 169, 170, 171, 172, 173, 174, 175, 176, 177, 178, 179, 180, 181, 182, 183, 184, 185, 186, 187, 188] (by decide +kernel) (by decide +kernel)
set_option maxRecDepth 20000 in
theorem gX12_round_X12_asHeIs : GoodIn wsX12_round (wsV RX12 432 RX12 yX12_asHeIs wsX12_asHeIs) := goodIn_app (goodIn_of _ (by decide +kernel)) ggX12_round_X12_asHeIs
set_option maxRecDepth 20000 in
theorem ggX12_round_X12_isThere : GoodIn wsX12_round wsX12_isThere := goodIn_r _ [29, 22, 23, 24, 7, 25, 9, 147, 148, 149, 150, 151, 152, 153, 154, 155, 156, 157, 158, 159, 160, 161, 162, 163, 164, 165, 166, 167, 168, 169, 170, 171, 172, 173, 174, 175, 176, 177, 178, 179, 180, 181, 182, 183, 184, 185, 186, 187, 188] (by decide +kernel) (by decide +kernel)
set_option maxRecDepth 20000 in
theorem gX12_round_X12_isThere : GoodIn wsX12_round (wsV RX12 416 RX12 yX12_isThere wsX12_isThere) := goodIn_app (goodIn_of _ (by decide +kernel)) ggX12_round_X12_isThere
set_option maxRecDepth 20000 in
theorem ggX12_round_X12_steps : GoodIn wsX12_round wsX12_steps := goodIn_r _ [33, 34, 9, 35, 36, 37, 7, 38, 1, 39, 40, 41, 42, 22, 23, 24, 25, 43, 44, 45, 46, 47, 48, 49, 50, 51, 52, 53, 54, 55, 56, 57, 58, 59, 60, 61, 62, 63, 64, 65, 66, 67, 68, 69, 70, 71, 72, 73, 74, 75, 76, 77, 78, 79, 80, 81, 82, 83, 84, 85, 86, 87, 88, 89, 90, 91, 92, 93, 94, 95, 96, 97, 98, 99, 100, 101, 102, 2, 103, 104, 105, 106, 107, 108, 109, 110, 111, 112, 113, 114, 115, 116, 117, 118, 119, 120, 121, 122, 123, 124, 125, 126, 127, 128, 129, 130, 131, 132, 133, 134, 135, 136, 137, 138, 139, 140, 141, 142, 147, 148, 149, 150, 151, 152, 153, 154, 155, 156, 157, 158, 159, 160, 161, 162, 163, 164, 165, 166, 167, 168, 169, 170, 171, 172, 173, 174, 175, 176, 177, 178, 179, 180, 181, 182, 183, 184, 185, 186, 187, 188] (by decide +kernel) (by decide +kernel)
set_option maxRecDepth 20000 in
theorem gX12_round_X12_steps : GoodIn wsX12_round (wsV RX12 419 RX12 yX12_steps wsX12_steps) := goodIn_app (goodIn_of _ (by decide +kernel)) ggX12_round_X12_steps
set_option maxRecDepth 20000 in
theorem ggX12_round_X12_putsBack : GoodIn wsX12_round wsX12_putsBack := goodIn_r _ [146, 9, 17, 147, 148, 149, 150, 151, 152, 153, 154, 155, 156, 157, 158, 159, 160, 161, 162, 163, 164, 165, 166, 167, 168, 169, 170, 171, 172, 173, 174, 175, 176, 177, 178, 179, 180, 181, 182, 183, 184, 185, 186, 187, 188] (by decide +kernel) (by decide +kernel)
set_option maxRecDepth 20000 in
theorem gX12_round_X12_putsBack : GoodIn wsX12_round (wsV RX12 429 RX12 yX12_putsBack wsX12_putsBack) := goodIn_app (goodIn_of _ (by decide +kernel)) ggX12_round_X12_putsBack
theorem dX12_round_0 : decode cX12_round 0 = .ok (.aload_n 0, 1) := by decide +kernel
theorem dX12_round_1 : decode cX12_round 1 = .ok (.iload_n 1, 1) := by decide +kernel
theorem dX12_round_2 : decode cX12_round 2 = .ok (.invokevirtual 367, 3) := by decide +kernel
theorem dX12_round_5 : decode cX12_round 5 = .ok (.ifCond .eq 13, 3) := by decide +kernel
theorem dX12_round_8 : decode cX12_round 8 = .ok (.iload_n 2, 1) := by decide +kernel
theorem dX12_round_9 : decode cX12_round 9 = .ok (.i2l, 1) := by decide +kernel
theorem dX12_round_10 : decode cX12_round 10 = .ok (.lconst 0, 1) := by decide +kernel
theorem dX12_round_11 : decode cX12_round 11 = .ok (.lconst 1, 1) := by decide +kernel
theorem dX12_round_12 : decode cX12_round 12 = .ok (.invokestatic 122, 3) := by decide +kernel
theorem dX12_round_15 : decode cX12_round 15 = .ok (.ifCond .ne 5, 3) := by decide +kernel
theorem dX12_round_18 : decode cX12_round 18 = .ok (.iconst (-1), 1) := by decide +kernel
theorem dX12_round_19 : decode cX12_round 19 = .ok (.ireturn, 1) := by decide +kernel
theorem dX12_round_20 : decode cX12_round 20 = .ok (.aload_n 0, 1) := by decide +kernel
theorem dX12_round_21 : decode cX12_round 21 = .ok (.invokevirtual 426, 3) := by decide +kernel
theorem dX12_round_24 : decode cX12_round 24 = .ok (.aload_n 0, 1) := by decide +kernel
theorem dX12_round_25 : decode cX12_round 25 = .ok (.iconst 1, 1) := by decide +kernel
theorem dX12_round_26 : decode cX12_round 26 = .ok (.putfield 378, 3) := by decide +kernel
theorem dX12_round_29 : decode cX12_round 29 = .ok (.aload_n 0, 1) := by decide +kernel
theorem dX12_round_30 : decode cX12_round 30 = .ok (.iconst 0, 1) := by decide +kernel
theorem dX12_round_31 : decode cX12_round 31 = .ok (.putfield 48, 3) := by decide +kernel
theorem dX12_round_34 : decode cX12_round 34 = .ok (.bipush (-2), 2) := by decide +kernel
theorem dX12_round_36 : decode cX12_round 36 = .ok (.istore_n 3, 1) := by decide +kernel
theorem dX12_round_37 : decode cX12_round 37 = .ok (.aload_n 0, 1) := by decide +kernel
theorem dX12_round_38 : decode cX12_round 38 = .ok (.getfield 61, 3) := by decide +kernel
theorem dX12_round_41 : decode cX12_round 41 = .ok (.iconst 0, 1) := by decide +kernel
theorem dX12_round_42 : decode cX12_round 42 = .ok (.aload_n 0, 1) := by decide +kernel
theorem dX12_round_43 : decode cX12_round 43 = .ok (.iload_n 1, 1) := by decide +kernel
theorem dX12_round_44 : decode cX12_round 44 = .ok (.invokevirtual 432, 3) := by decide +kernel
theorem dX12_round_47 : decode cX12_round 47 = .ok (.iastore, 1) := by decide +kernel
theorem dX12_round_48 : decode cX12_round 48 = .ok (.iconst 1, 1) := by decide +kernel
theorem dX12_round_49 : decode cX12_round 49 = .ok (.istore 4, 2) := by decide +kernel
theorem dX12_round_51 : decode cX12_round 51 = .ok (.iload 4, 2) := by decide +kernel
theorem dX12_round_53 : decode cX12_round 53 = .ok (.sipush 300, 3) := by decide +kernel
theorem dX12_round_56 : decode cX12_round 56 = .ok (.if_icmp .gt 103, 3) := by decide +kernel
theorem dX12_round_59 : decode cX12_round 59 = .ok (.iload_n 3, 1) := by decide +kernel
theorem dX12_round_60 : decode cX12_round 60 = .ok (.bipush (-2), 2) := by decide +kernel
theorem dX12_round_62 : decode cX12_round 62 = .ok (.if_icmp .ne 97, 3) := by decide +kernel
theorem dX12_round_65 : decode cX12_round 65 = .ok (.aload_n 0, 1) := by decide +kernel
theorem dX12_round_66 : decode cX12_round 66 = .ok (.iload_n 1, 1) := by decide +kernel
theorem dX12_round_67 : decode cX12_round 67 = .ok (.invokevirtual 416, 3) := by decide +kernel
theorem dX12_round_70 : decode cX12_round 70 = .ok (.ifCond .ne 89, 3) := by decide +kernel
theorem dX12_round_73 : decode cX12_round 73 = .ok (.aload_n 0, 1) := by decide +kernel
theorem dX12_round_74 : decode cX12_round 74 = .ok (.iload_n 1, 1) := by decide +kernel
theorem dX12_round_75 : decode cX12_round 75 = .ok (.invokevirtual 419, 3) := by decide +kernel
theorem dX12_round_78 : decode cX12_round 78 = .ok (.pop, 1) := by decide +kernel
theorem dX12_round_79 : decode cX12_round 79 = .ok (.aload_n 0, 1) := by decide +kernel
theorem dX12_round_80 : decode cX12_round 80 = .ok (.getfield 61, 3) := by decide +kernel
theorem dX12_round_83 : decode cX12_round 83 = .ok (.iload 4, 2) := by decide +kernel
theorem dX12_round_85 : decode cX12_round 85 = .ok (.aload_n 0, 1) := by decide +kernel
theorem dX12_round_86 : decode cX12_round 86 = .ok (.iload_n 1, 1) := by decide +kernel
theorem dX12_round_87 : decode cX12_round 87 = .ok (.invokevirtual 432, 3) := by decide +kernel
theorem dX12_round_90 : decode cX12_round 90 = .ok (.iastore, 1) := by decide +kernel
theorem dX12_round_91 : decode cX12_round 91 = .ok (.iconst 0, 1) := by decide +kernel
theorem dX12_round_92 : decode cX12_round 92 = .ok (.istore 5, 2) := by decide +kernel
theorem dX12_round_94 : decode cX12_round 94 = .ok (.iload 5, 2) := by decide +kernel
theorem dX12_round_96 : decode cX12_round 96 = .ok (.iload 4, 2) := by decide +kernel
theorem dX12_round_98 : decode cX12_round 98 = .ok (.if_icmp .ge 55, 3) := by decide +kernel
theorem dX12_round_101 : decode cX12_round 101 = .ok (.iload_n 3, 1) := by decide +kernel
theorem dX12_round_102 : decode cX12_round 102 = .ok (.bipush (-2), 2) := by decide +kernel
theorem dX12_round_104 : decode cX12_round 104 = .ok (.if_icmp .ne 49, 3) := by decide +kernel
theorem dX12_round_107 : decode cX12_round 107 = .ok (.aload_n 0, 1) := by decide +kernel
theorem dX12_round_108 : decode cX12_round 108 = .ok (.iload_n 1, 1) := by decide +kernel
theorem dX12_round_109 : decode cX12_round 109 = .ok (.invokevirtual 416, 3) := by decide +kernel
theorem dX12_round_112 : decode cX12_round 112 = .ok (.ifCond .ne 41, 3) := by decide +kernel
theorem dX12_round_115 : decode cX12_round 115 = .ok (.aload_n 0, 1) := by decide +kernel
theorem dX12_round_116 : decode cX12_round 116 = .ok (.getfield 61, 3) := by decide +kernel
theorem dX12_round_119 : decode cX12_round 119 = .ok (.iload 5, 2) := by decide +kernel
theorem dX12_round_121 : decode cX12_round 121 = .ok (.iaload, 1) := by decide +kernel
theorem dX12_round_122 : decode cX12_round 122 = .ok (.aload_n 0, 1) := by decide +kernel
theorem dX12_round_123 : decode cX12_round 123 = .ok (.getfield 61, 3) := by decide +kernel
theorem dX12_round_126 : decode cX12_round 126 = .ok (.iload 4, 2) := by decide +kernel
theorem dX12_round_128 : decode cX12_round 128 = .ok (.iaload, 1) := by decide +kernel
theorem dX12_round_129 : decode cX12_round 129 = .ok (.if_icmp .ne 18, 3) := by decide +kernel
theorem dX12_round_132 : decode cX12_round 132 = .ok (.iload_n 2, 1) := by decide +kernel
theorem dX12_round_133 : decode cX12_round 133 = .ok (.ifCond .ne 8, 3) := by decide +kernel
theorem dX12_round_136 : decode cX12_round 136 = .ok (.iload 5, 2) := by decide +kernel
theorem dX12_round_138 : decode cX12_round 138 = .ok (.goto 8, 3) := by decide +kernel
theorem dX12_round_141 : decode cX12_round 141 = .ok (.iload 4, 2) := by decide +kernel
theorem dX12_round_143 : decode cX12_round 143 = .ok (.iload 5, 2) := by decide +kernel
theorem dX12_round_145 : decode cX12_round 145 = .ok (.isub, 1) := by decide +kernel
theorem dX12_round_146 : decode cX12_round 146 = .ok (.istore_n 3, 1) := by decide +kernel
theorem dX12_round_147 : decode cX12_round 147 = .ok (.iinc 5 1, 3) := by decide +kernel
theorem dX12_round_150 : decode cX12_round 150 = .ok (.goto (-56), 3) := by decide +kernel
theorem dX12_round_153 : decode cX12_round 153 = .ok (.iinc 4 1, 3) := by decide +kernel
theorem dX12_round_156 : decode cX12_round 156 = .ok (.goto (-105), 3) := by decide +kernel
theorem dX12_round_159 : decode cX12_round 159 = .ok (.aload_n 0, 1) := by decide +kernel
theorem dX12_round_160 : decode cX12_round 160 = .ok (.iconst 0, 1) := by decide +kernel
theorem dX12_round_161 : decode cX12_round 161 = .ok (.putfield 378, 3) := by decide +kernel
theorem dX12_round_164 : decode cX12_round 164 = .ok (.aload_n 0, 1) := by decide +kernel
theorem dX12_round_165 : decode cX12_round 165 = .ok (.iconst 1, 1) := by decide +kernel
theorem dX12_round_166 : decode cX12_round 166 = .ok (.putfield 48, 3) := by decide +kernel
theorem dX12_round_169 : decode cX12_round 169 = .ok (.aload_n 0, 1) := by decide +kernel
theorem dX12_round_170 : decode cX12_round 170 = .ok (.invokevirtual 429, 3) := by decide +kernel
theorem dX12_round_173 : decode cX12_round 173 = .ok (.iload_n 3, 1) := by decide +kernel
theorem dX12_round_174 : decode cX12_round 174 = .ok (.ireturn, 1) := by decide +kernel
set_option maxRecDepth 20000 in
theorem ggX12_isHis_X12_isThere : GoodIn wsX12_isHis wsX12_isThere := goodIn_r _ [6, 7, 8, 9, 5, 10, 1, 126, 127, 128, 129, 130, 131, 132, 133, 134, 135, 136, 137, 138, 139, 140, 141, 142, 143, 144, 145, 146, 147, 148, 149, 150, 151, 152, 153, 154, 155, 156, 157, 158, 159, 160, 161, 162, 163, 164, 165, 166, 167] (by decide +kernel) (by decide +kernel)
set_option maxRecDepth 20000 in
theorem gX12_isHis_X12_isThere : GoodIn wsX12_isHis (wsV RX12 416 RX12 yX12_isThere wsX12_isThere) := goodIn_app (goodIn_of _ (by decide +kernel)) ggX12_isHis_X12_isThere
set_option maxRecDepth 20000 in
theorem ggX12_isHis_X12_steps : GoodIn wsX12_isHis wsX12_steps := goodIn_r _ [14, 15, 1, 16, 17, 18, 5, 19, 20, 21, 22, 23, 24, 7, 8, 9, 10, 25, 26, 27, 28, 29, 30, 31, 32, 33, 34, 35, 36, 37, 38, 39, 40, 41, 42, 43, 44, 45, 46, 47, 48, 49, 50, 51, 52, 53, 54, 55, 56, 57, 58, 59, 60, 61, 62, 63, 64, 65, 66, 67, 68, 69, 70, 71, 72, 73, 74, 75, 76, 77, 78, 79, 80, 81, 82, 83, 84, 85, 86, 87, 88, 89, 90, 91, 92, 93, 94, 95, 96, 97, 98, 99, 100, 101, 102, 103, 104, 105, 106, 107, 108, 109, 110, 111, 112, 113, 114, 115, 116, 117, 118, 119, 120, 121, 122, 123, 124, 125, 126, 127, 128, 129, 130, 131, 132, 133, 134, 135, 136, 137, 138, 139, 140, 141, 142, 143, 144, 145, 146, 147, 148, 149, 150, 151, 152, 153, 154, 155, 156, 157, 158, 159, 160, 161, 162, 163, 164, 165, 166, 167] (by decide +kernel) (by decide +kernel)
set_option maxRecDepth 20000 in
theorem gX12_isHis_X12_steps : GoodIn wsX12_isHis (wsV RX12 419 RX12 yX12_steps wsX12_steps) := goodIn_app (goodIn_of _ (by decide +kernel)) ggX12_isHis_X12_steps
set_option maxRecDepth 20000 in
theorem ggX12_isHis_X12_walkerOf : GoodIn wsX12_isHis wsX12_walkerOf := goodIn_r _ [10, 1, 126, 127, 128, 129, 130, 131, 132, 133, 134, 135, 136, 137, 138, 139, 140, 141, 142, 143, 144, 145, 146, 147, 148, 149, 150, 151, 152, 153, 154, 155, 156, 157, 158, 159, 160, 161, 162, 163, 164, 165, 166, 167] (by decide +kernel) (by decide +kernel)
set_option maxRecDepth 20000 in
theorem gX12_isHis_X12_walkerOf : GoodIn wsX12_isHis (wsV RX12 372 RX12 yX12_walkerOf wsX12_walkerOf) := goodIn_app (goodIn_of _ (by decide +kernel)) ggX12_isHis_X12_walkerOf
theorem dX12_isHis_0 : decode cX12_isHis 0 = .ok (.iconst 0, 1) := by decide +kernel
theorem dX12_isHis_1 : decode cX12_isHis 1 = .ok (.istore_n 2, 1) := by decide +kernel
theorem dX12_isHis_2 : decode cX12_isHis 2 = .ok (.iconst 0, 1) := by decide +kernel
theorem dX12_isHis_3 : decode cX12_isHis 3 = .ok (.istore_n 3, 1) := by decide +kernel
theorem dX12_isHis_4 : decode cX12_isHis 4 = .ok (.iload_n 3, 1) := by decide +kernel
theorem dX12_isHis_5 : decode cX12_isHis 5 = .ok (.bipush 100, 2) := by decide +kernel
theorem dX12_isHis_7 : decode cX12_isHis 7 = .ok (.if_icmp .ge 63, 3) := by decide +kernel
theorem dX12_isHis_10 : decode cX12_isHis 10 = .ok (.iload_n 2, 1) := by decide +kernel
theorem dX12_isHis_11 : decode cX12_isHis 11 = .ok (.aload_n 0, 1) := by decide +kernel
theorem dX12_isHis_12 : decode cX12_isHis 12 = .ok (.getfield 45, 3) := by decide +kernel
theorem dX12_isHis_15 : decode cX12_isHis 15 = .ok (.bipush 8, 2) := by decide +kernel
theorem dX12_isHis_17 : decode cX12_isHis 17 = .ok (.iaload, 1) := by decide +kernel
theorem dX12_isHis_18 : decode cX12_isHis 18 = .ok (.if_icmp .ge 52, 3) := by decide +kernel
theorem dX12_isHis_21 : decode cX12_isHis 21 = .ok (.aload_n 0, 1) := by decide +kernel
theorem dX12_isHis_22 : decode cX12_isHis 22 = .ok (.iload_n 1, 1) := by decide +kernel
theorem dX12_isHis_23 : decode cX12_isHis 23 = .ok (.invokevirtual 416, 3) := by decide +kernel
theorem dX12_isHis_26 : decode cX12_isHis 26 = .ok (.ifCond .ne 44, 3) := by decide +kernel
theorem dX12_isHis_29 : decode cX12_isHis 29 = .ok (.aload_n 0, 1) := by decide +kernel
theorem dX12_isHis_30 : decode cX12_isHis 30 = .ok (.iload_n 1, 1) := by decide +kernel
theorem dX12_isHis_31 : decode cX12_isHis 31 = .ok (.invokevirtual 419, 3) := by decide +kernel
theorem dX12_isHis_34 : decode cX12_isHis 34 = .ok (.ifCond .ne 6, 3) := by decide +kernel
theorem dX12_isHis_37 : decode cX12_isHis 37 = .ok (.goto 27, 3) := by decide +kernel
theorem dX12_isHis_40 : decode cX12_isHis 40 = .ok (.aload_n 0, 1) := by decide +kernel
theorem dX12_isHis_41 : decode cX12_isHis 41 = .ok (.iload_n 1, 1) := by decide +kernel
theorem dX12_isHis_42 : decode cX12_isHis 42 = .ok (.iconst 0, 1) := by decide +kernel
theorem dX12_isHis_43 : decode cX12_isHis 43 = .ok (.invokevirtual 372, 3) := by decide +kernel
theorem dX12_isHis_46 : decode cX12_isHis 46 = .ok (.aload_n 0, 1) := by decide +kernel
theorem dX12_isHis_47 : decode cX12_isHis 47 = .ok (.getfield 45, 3) := by decide +kernel
theorem dX12_isHis_50 : decode cX12_isHis 50 = .ok (.sipush 288, 3) := by decide +kernel
theorem dX12_isHis_53 : decode cX12_isHis 53 = .ok (.iload_n 2, 1) := by decide +kernel
theorem dX12_isHis_54 : decode cX12_isHis 54 = .ok (.iadd, 1) := by decide +kernel
theorem dX12_isHis_55 : decode cX12_isHis 55 = .ok (.iaload, 1) := by decide +kernel
theorem dX12_isHis_56 : decode cX12_isHis 56 = .ok (.if_icmp .eq 5, 3) := by decide +kernel
theorem dX12_isHis_59 : decode cX12_isHis 59 = .ok (.iconst 0, 1) := by decide +kernel
theorem dX12_isHis_60 : decode cX12_isHis 60 = .ok (.ireturn, 1) := by decide +kernel
theorem dX12_isHis_61 : decode cX12_isHis 61 = .ok (.iinc 2 1, 3) := by decide +kernel
theorem dX12_isHis_64 : decode cX12_isHis 64 = .ok (.iinc 3 1, 3) := by decide +kernel
theorem dX12_isHis_67 : decode cX12_isHis 67 = .ok (.goto (-63), 3) := by decide +kernel
theorem dX12_isHis_70 : decode cX12_isHis 70 = .ok (.iload_n 2, 1) := by decide +kernel
theorem dX12_isHis_71 : decode cX12_isHis 71 = .ok (.aload_n 0, 1) := by decide +kernel
theorem dX12_isHis_72 : decode cX12_isHis 72 = .ok (.getfield 45, 3) := by decide +kernel
theorem dX12_isHis_75 : decode cX12_isHis 75 = .ok (.bipush 8, 2) := by decide +kernel
theorem dX12_isHis_77 : decode cX12_isHis 77 = .ok (.iaload, 1) := by decide +kernel
theorem dX12_isHis_78 : decode cX12_isHis 78 = .ok (.if_icmp .ne 7, 3) := by decide +kernel
theorem dX12_isHis_81 : decode cX12_isHis 81 = .ok (.iconst 1, 1) := by decide +kernel
theorem dX12_isHis_82 : decode cX12_isHis 82 = .ok (.goto 4, 3) := by decide +kernel
theorem dX12_isHis_85 : decode cX12_isHis 85 = .ok (.iconst 0, 1) := by decide +kernel
theorem dX12_isHis_86 : decode cX12_isHis 86 = .ok (.ireturn, 1) := by decide +kernel
set_option maxRecDepth 20000 in
theorem ggX12_had_X12_isWalker : GoodIn wsX12_had wsX12_isWalker := goodIn_r _ [7, 2, 143, 144, 145, 146, 147, 148, 149, 150, 151, 152, 153, 154, 155, 156, 157, 158, 159, 160, 161, 162, 163, 164, 165, 166, 167, 168, 169, 170, 171, 172, 173, 174, 175, 176, 177, 178, 179, 180, 181, 182, 183, 184] (by decide +kernel) (by decide +kernel)
set_option maxRecDepth 20000 in
theorem gX12_had_X12_isWalker : GoodIn wsX12_had (wsV RX12 367 RX12 yX12_isWalker wsX12_isWalker) := goodIn_app (goodIn_of _ (by decide +kernel)) ggX12_had_X12_isWalker
set_option maxRecDepth 20000 in
theorem ggX12_had_X12_keeps : GoodIn wsX12_had wsX12_keeps := goodIn_r _ [11, 1, 2, 143, 144, 145, 146, 147, 148, 149, 150, 151, 152, 153, 154, 155, 156, 157, 158, 159, 160, 161, 162, 163, 164, 165, 166, 167, 168, 169, 170, 171, 172, 173, 174, 175, 176, 177, 178, 179, 180, 181, 182, 183, 184] (by decide +kernel) (by decide +kernel)
set_option maxRecDepth 20000 in
theorem gX12_had_X12_keeps : GoodIn wsX12_had (wsV RX12 426 RX12 yX12_keeps wsX12_keeps) := goodIn_app (goodIn_of _ (by decide +kernel)) ggX12_had_X12_keeps
set_option maxRecDepth 20000 in
theorem ggX12_had_X12_isHis : GoodIn wsX12_had wsX12_isHis := goodIn_r _ [15, 2, 16, 17, 18, 6, 19, 20, 21, 22, 23, 24, 25, 26, 27, 28, 29, 30, 31, 32, 33, 34, 35, 36, 37, 38, 39, 40, 41, 42, 43, 44, 45, 46, 47, 48, 49, 50, 51, 52, 53, 54, 55, 56, 57, 58, 59, 60, 61, 62, 63, 64, 65, 66, 67, 68, 69, 70, 71, 72, 73, 74, 75, 76, 77, 78, 79, 80, 81, 82, 83, 84, 85, 86, 87, 88, 89, 90, 91, 92, 93, 94, 95, 96, 97, 98, 99, 100, 101, 102, 103, 104, 105, 106, 107, 108, 109, 110, 111, 112, 113, 114, 115, 116, 117, 118, 119, 120, 121, 122, 123, 124, 125, 126, 127, 128, 129, 130, 131, 132, 133, 134, 135, 136, 137, 138, 143, 144, 145, 146, 147, 148, 149, 150, 151, 152, 153, 154, 155, 156, 157, 158, 159, 160, 161, 162, 163, 164, 165, 166, 167, 168, 169, 170, 171, 172, 173, 174, 175, 176, 177, 178, 179, 180, 181, 182, 183, 184] (by decide +kernel) (by decide +kernel)
set_option maxRecDepth 20000 in
theorem gX12_had_X12_isHis : GoodIn wsX12_had (wsV RX12 487 RX12 yX12_isHis wsX12_isHis) := goodIn_app (goodIn_of _ (by decide +kernel)) ggX12_had_X12_isHis
set_option maxRecDepth 20000 in
theorem ggX12_had_X12_putsBack : GoodIn wsX12_had wsX12_putsBack := goodIn_r _ [142, 2, 1, 143, 144, 145, 146, 147, 148, 149, 150, 151, 152, 153, 154, 155, 156, 157, 158, 159, 160, 161, 162, 163, 164, 165, 166, 167, 168, 169, 170, 171, 172, 173, 174, 175, 176, 177, 178, 179, 180, 181, 182, 183, 184] (by decide +kernel) (by decide +kernel)
set_option maxRecDepth 20000 in
theorem gX12_had_X12_putsBack : GoodIn wsX12_had (wsV RX12 429 RX12 yX12_putsBack wsX12_putsBack) := goodIn_app (goodIn_of _ (by decide +kernel)) ggX12_had_X12_putsBack
theorem dX12_had_0 : decode cX12_had 0 = .ok (.aload_n 0, 1) := by decide +kernel
theorem dX12_had_1 : decode cX12_had 1 = .ok (.iload_n 1, 1) := by decide +kernel
theorem dX12_had_2 : decode cX12_had 2 = .ok (.invokevirtual 367, 3) := by decide +kernel
theorem dX12_had_5 : decode cX12_had 5 = .ok (.ifCond .ne 5, 3) := by decide +kernel
theorem dX12_had_8 : decode cX12_had 8 = .ok (.iconst (-1), 1) := by decide +kernel
theorem dX12_had_9 : decode cX12_had 9 = .ok (.ireturn, 1) := by decide +kernel
theorem dX12_had_10 : decode cX12_had 10 = .ok (.iconst 0, 1) := by decide +kernel
theorem dX12_had_11 : decode cX12_had 11 = .ok (.istore_n 2, 1) := by decide +kernel
theorem dX12_had_12 : decode cX12_had 12 = .ok (.aload_n 0, 1) := by decide +kernel
theorem dX12_had_13 : decode cX12_had 13 = .ok (.invokevirtual 426, 3) := by decide +kernel
theorem dX12_had_16 : decode cX12_had 16 = .ok (.iconst 0, 1) := by decide +kernel
theorem dX12_had_17 : decode cX12_had 17 = .ok (.istore_n 3, 1) := by decide +kernel
theorem dX12_had_18 : decode cX12_had 18 = .ok (.iload_n 3, 1) := by decide +kernel
theorem dX12_had_19 : decode cX12_had 19 = .ok (.aload_n 0, 1) := by decide +kernel
theorem dX12_had_20 : decode cX12_had 20 = .ok (.getfield 58, 3) := by decide +kernel
theorem dX12_had_23 : decode cX12_had 23 = .ok (.iconst 4, 1) := by decide +kernel
theorem dX12_had_24 : decode cX12_had 24 = .ok (.iaload, 1) := by decide +kernel
theorem dX12_had_25 : decode cX12_had 25 = .ok (.if_icmp .ge 47, 3) := by decide +kernel
theorem dX12_had_28 : decode cX12_had 28 = .ok (.aload_n 0, 1) := by decide +kernel
theorem dX12_had_29 : decode cX12_had 29 = .ok (.getfield 45, 3) := by decide +kernel
theorem dX12_had_32 : decode cX12_had 32 = .ok (.sipush 216, 3) := by decide +kernel
theorem dX12_had_35 : decode cX12_had 35 = .ok (.bipush 9, 2) := by decide +kernel
theorem dX12_had_37 : decode cX12_had 37 = .ok (.iload_n 1, 1) := by decide +kernel
theorem dX12_had_38 : decode cX12_had 38 = .ok (.imul, 1) := by decide +kernel
theorem dX12_had_39 : decode cX12_had 39 = .ok (.iadd, 1) := by decide +kernel
theorem dX12_had_40 : decode cX12_had 40 = .ok (.iconst 2, 1) := by decide +kernel
theorem dX12_had_41 : decode cX12_had 41 = .ok (.iadd, 1) := by decide +kernel
theorem dX12_had_42 : decode cX12_had 42 = .ok (.iload_n 3, 1) := by decide +kernel
theorem dX12_had_43 : decode cX12_had 43 = .ok (.iastore, 1) := by decide +kernel
theorem dX12_had_44 : decode cX12_had 44 = .ok (.iload_n 2, 1) := by decide +kernel
theorem dX12_had_45 : decode cX12_had 45 = .ok (.aload_n 0, 1) := by decide +kernel
theorem dX12_had_46 : decode cX12_had 46 = .ok (.iload_n 1, 1) := by decide +kernel
theorem dX12_had_47 : decode cX12_had 47 = .ok (.invokevirtual 487, 3) := by decide +kernel
theorem dX12_had_50 : decode cX12_had 50 = .ok (.ifCond .eq 9, 3) := by decide +kernel
theorem dX12_had_53 : decode cX12_had 53 = .ok (.iconst 1, 1) := by decide +kernel
theorem dX12_had_54 : decode cX12_had 54 = .ok (.iload_n 3, 1) := by decide +kernel
theorem dX12_had_55 : decode cX12_had 55 = .ok (.ishl, 1) := by decide +kernel
theorem dX12_had_56 : decode cX12_had 56 = .ok (.goto 4, 3) := by decide +kernel
theorem dX12_had_59 : decode cX12_had 59 = .ok (.iconst 0, 1) := by decide +kernel
theorem dX12_had_60 : decode cX12_had 60 = .ok (.ior, 1) := by decide +kernel
theorem dX12_had_61 : decode cX12_had 61 = .ok (.istore_n 2, 1) := by decide +kernel
theorem dX12_had_62 : decode cX12_had 62 = .ok (.aload_n 0, 1) := by decide +kernel
theorem dX12_had_63 : decode cX12_had 63 = .ok (.invokevirtual 429, 3) := by decide +kernel
theorem dX12_had_66 : decode cX12_had 66 = .ok (.iinc 3 1, 3) := by decide +kernel
theorem dX12_had_69 : decode cX12_had 69 = .ok (.goto (-51), 3) := by decide +kernel
theorem dX12_had_72 : decode cX12_had 72 = .ok (.iload_n 2, 1) := by decide +kernel
theorem dX12_had_73 : decode cX12_had 73 = .ok (.ireturn, 1) := by decide +kernel
set_option maxRecDepth 20000 in
theorem ggX12_strangers_X12_isTown : GoodIn wsX12_strangers wsX12_isTown := goodIn_r _ [9, 1, 162, 163, 164, 165, 166, 167, 168, 169, 170, 171, 172, 173, 174, 175, 176, 177, 178, 179, 180, 181, 182, 183, 184, 185, 186, 187, 188, 189, 190, 191, 192, 193, 194, 195, 196, 197, 198, 199, 200, 201, 202, 203] (by decide +kernel) (by decide +kernel)
set_option maxRecDepth 20000 in
theorem gX12_strangers_X12_isTown : GoodIn wsX12_strangers (wsV RX12 337 RX12 yX12_isTown wsX12_isTown) := goodIn_app (goodIn_of _ (by decide +kernel)) ggX12_strangers_X12_isTown
set_option maxRecDepth 20000 in
theorem ggX12_strangers_X12_isRule : GoodIn wsX12_strangers wsX12_isRule := goodIn_r _ [13, 14, 162, 163, 164, 165, 166, 167, 168, 169, 170, 171, 172, 173, 174, 175, 176, 177, 178, 179, 180, 181, 182, 183, 184, 185, 186, 187, 188, 189, 190, 191, 192, 193, 194, 195, 196, 197, 198, 199, 200, 201, 202, 203] (by decide +kernel) (by decide +kernel)
set_option maxRecDepth 20000 in
theorem gX12_strangers_X12_isRule : GoodIn wsX12_strangers (wsV RX12 360 RX12 yX12_isRule wsX12_isRule) := goodIn_app (goodIn_of _ (by decide +kernel)) ggX12_strangers_X12_isRule
set_option maxRecDepth 20000 in
theorem ggX12_strangers_X12_in : GoodIn wsX12_strangers wsX12_in := goodIn_r _ [17] (by decide +kernel) (by decide +kernel)
set_option maxRecDepth 20000 in
theorem gX12_strangers_X12_in : GoodIn wsX12_strangers (va_wsS RX12 122 yX12_in wsX12_in) := goodIn_app (goodIn_of _ (by decide +kernel)) ggX12_strangers_X12_in
set_option maxRecDepth 20000 in
theorem ggX12_strangers_X12_keeps : GoodIn wsX12_strangers wsX12_keeps := goodIn_r _ [21, 22, 1, 162, 163, 164, 165, 166, 167, 168, 169, 170, 171, 172, 173, 174, 175, 176, 177, 178, 179, 180, 181, 182, 183, 184, 185, 186, 187, 188, 189, 190, 191, 192, 193, 194, 195, 196, 197, 198, 199, 200, 201, 202, 203] (by decide +kernel) (by decide +kernel)
set_option maxRecDepth 20000 in
theorem gX12_strangers_X12_keeps : GoodIn wsX12_strangers (wsV RX12 426 RX12 yX12_keeps wsX12_keeps) := goodIn_app (goodIn_of _ (by decide +kernel)) ggX12_strangers_X12_keeps
set_option maxRecDepth 20000 in
theorem ggX12_strangers_X12_draw : GoodIn wsX12_strangers wsX12_draw := goodIn_r _ [26, 4, 27, 28, 29, 30, 162, 163, 164, 165, 166, 167, 168, 169, 170, 171, 172, 173, 174, 175, 176, 177, 178, 179, 180, 181, 182, 183, 184, 185, 186, 187, 188, 189, 190, 191, 192, 193, 194, 195, 196, 197, 198, 199, 200, 201, 202, 203] (by decide +kernel) (by decide +kernel)
set_option maxRecDepth 20000 in
theorem gX12_strangers_X12_draw : GoodIn wsX12_strangers (wsV RX12 507 RX12 yX12_draw wsX12_draw) := goodIn_app (goodIn_of _ (by decide +kernel)) ggX12_strangers_X12_draw
set_option maxRecDepth 20000 in
theorem ggX12_strangers_X12_setsOut : GoodIn wsX12_strangers wsX12_setsOut := goodIn_r _ [34, 1, 162, 163, 164, 165, 166, 167, 168, 169, 170, 171, 172, 173, 174, 175, 176, 177, 178, 179, 180, 181, 182, 183, 184, 185, 186, 187, 188, 189, 190, 191, 192, 193, 194, 195, 196, 197, 198, 199, 200, 201, 202, 203] (by decide +kernel) (by decide +kernel)
set_option maxRecDepth 20000 in
theorem gX12_strangers_X12_setsOut : GoodIn wsX12_strangers (wsV RX12 363 RX12 yX12_setsOut wsX12_setsOut) := goodIn_app (goodIn_of _ (by decide +kernel)) ggX12_strangers_X12_setsOut
set_option maxRecDepth 20000 in
theorem ggX12_strangers_X12_isThere : GoodIn wsX12_strangers wsX12_isThere := goodIn_r _ [38, 39, 40, 41, 8, 42, 1, 162, 163, 164, 165, 166, 167, 168, 169, 170, 171, 172, 173, 174, 175, 176, 177, 178, 179, 180, 181, 182, 183, 184, 185, 186, 187, 188, 189, 190, 191, 192, 193, 194, 195, 196, 197, 198, 199, 200, 201, 202, 203] (by decide +kernel) (by decide +kernel)
set_option maxRecDepth 20000 in
theorem gX12_strangers_X12_isThere : GoodIn wsX12_strangers (wsV RX12 416 RX12 yX12_isThere wsX12_isThere) := goodIn_app (goodIn_of _ (by decide +kernel)) ggX12_strangers_X12_isThere
set_option maxRecDepth 20000 in
theorem ggX12_strangers_X12_steps : GoodIn wsX12_strangers wsX12_steps := goodIn_r _ [46, 47, 1, 48, 49, 50, 8, 51, 52, 53, 54, 55, 56, 39, 40, 41, 42, 57, 58, 59, 60, 61, 62, 63, 64, 65, 66, 67, 68, 69, 70, 71, 72, 73, 74, 75, 76, 77, 78, 79, 80, 81, 82, 83, 84, 85, 86, 87, 88, 89, 90, 91, 92, 93, 94, 95, 96, 97, 98, 99, 100, 101, 102, 103, 104, 105, 106, 107, 108, 109, 110, 111, 112, 113, 114, 115, 116, 117, 118, 119, 120, 121, 122, 123, 124, 125, 126, 127, 128, 129, 130, 131, 132, 133, 134, 135, 136, 137, 138, 139, 140, 141, 142, 143, 144, 145, 146, 147, 148, 149, 150, 151, 152, 153, 154, 155, 156, 157, 162, 163, 164, 165, 166, 167, 168, 169, 170, 171, 172, 173, 174, 175, 176, 177, 178, 179, 180, 181, 182, 183, 184, 185, 186, 187, 188, 189, 190, 191, 192, 193, 194, 195, 196, 197, 198, 199, 200, 201, 202, 203] (by decide +kernel) (by decide +kernel)
set_option maxRecDepth 20000 in
theorem gX12_strangers_X12_steps : GoodIn wsX12_strangers (wsV RX12 419 RX12 yX12_steps wsX12_steps) := goodIn_app (goodIn_of _ (by decide +kernel)) ggX12_strangers_X12_steps
set_option maxRecDepth 20000 in
theorem ggX12_strangers_X12_walkerOf : GoodIn wsX12_strangers wsX12_walkerOf := goodIn_r _ [42, 1, 162, 163, 164, 165, 166, 167, 168, 169, 170, 171, 172, 173, 174, 175, 176, 177, 178, 179, 180, 181, 182, 183, 184, 185, 186, 187, 188, 189, 190, 191, 192, 193, 194, 195, 196, 197, 198, 199, 200, 201, 202, 203] (by decide +kernel) (by decide +kernel)
set_option maxRecDepth 20000 in
theorem gX12_strangers_X12_walkerOf : GoodIn wsX12_strangers (wsV RX12 372 RX12 yX12_walkerOf wsX12_walkerOf) := goodIn_app (goodIn_of _ (by decide +kernel)) ggX12_strangers_X12_walkerOf
set_option maxRecDepth 20000 in
theorem ggX12_strangers_X12_putsBack : GoodIn wsX12_strangers wsX12_putsBack := goodIn_r _ [161, 1, 22, 162, 163, 164, 165, 166, 167, 168, 169, 170, 171, 172, 173, 174, 175, 176, 177, 178, 179, 180, 181, 182, 183, 184, 185, 186, 187, 188, 189, 190, 191, 192, 193, 194, 195, 196, 197, 198, 199, 200, 201, 202, 203] (by decide +kernel) (by decide +kernel)
set_option maxRecDepth 20000 in
theorem gX12_strangers_X12_putsBack : GoodIn wsX12_strangers (wsV RX12 429 RX12 yX12_putsBack wsX12_putsBack) := goodIn_app (goodIn_of _ (by decide +kernel)) ggX12_strangers_X12_putsBack
theorem dX12_strangers_0 : decode cX12_strangers 0 = .ok (.aload_n 0, 1) := by decide +kernel
theorem dX12_strangers_1 : decode cX12_strangers 1 = .ok (.invokevirtual 337, 3) := by decide +kernel
theorem dX12_strangers_4 : decode cX12_strangers 4 = .ok (.ifCond .eq 60, 3) := by decide +kernel
theorem dX12_strangers_7 : decode cX12_strangers 7 = .ok (.aload_n 0, 1) := by decide +kernel
theorem dX12_strangers_8 : decode cX12_strangers 8 = .ok (.getfield 45, 3) := by decide +kernel
theorem dX12_strangers_11 : decode cX12_strangers 11 = .ok (.iconst 4, 1) := by decide +kernel
theorem dX12_strangers_12 : decode cX12_strangers 12 = .ok (.iaload, 1) := by decide +kernel
theorem dX12_strangers_13 : decode cX12_strangers 13 = .ok (.ifCond .eq 51, 3) := by decide +kernel
theorem dX12_strangers_16 : decode cX12_strangers 16 = .ok (.iload_n 1, 1) := by decide +kernel
theorem dX12_strangers_17 : decode cX12_strangers 17 = .ok (.iconst (-1), 1) := by decide +kernel
theorem dX12_strangers_18 : decode cX12_strangers 18 = .ok (.if_icmp .eq 11, 3) := by decide +kernel
theorem dX12_strangers_21 : decode cX12_strangers 21 = .ok (.aload_n 0, 1) := by decide +kernel
theorem dX12_strangers_22 : decode cX12_strangers 22 = .ok (.iload_n 1, 1) := by decide +kernel
theorem dX12_strangers_23 : decode cX12_strangers 23 = .ok (.invokevirtual 360, 3) := by decide +kernel
theorem dX12_strangers_26 : decode cX12_strangers 26 = .ok (.ifCond .eq 38, 3) := by decide +kernel
theorem dX12_strangers_29 : decode cX12_strangers 29 = .ok (.iload_n 2, 1) := by decide +kernel
theorem dX12_strangers_30 : decode cX12_strangers 30 = .ok (.i2l, 1) := by decide +kernel
theorem dX12_strangers_31 : decode cX12_strangers 31 = .ok (.lconst 1, 1) := by decide +kernel
theorem dX12_strangers_32 : decode cX12_strangers 32 = .ok (.ldc2_w 505, 3) := by decide +kernel
theorem dX12_strangers_35 : decode cX12_strangers 35 = .ok (.invokestatic 122, 3) := by decide +kernel
theorem dX12_strangers_38 : decode cX12_strangers 38 = .ok (.ifCond .eq 26, 3) := by decide +kernel
theorem dX12_strangers_41 : decode cX12_strangers 41 = .ok (.iload_n 3, 1) := by decide +kernel
theorem dX12_strangers_42 : decode cX12_strangers 42 = .ok (.i2l, 1) := by decide +kernel
theorem dX12_strangers_43 : decode cX12_strangers 43 = .ok (.lconst 1, 1) := by decide +kernel
theorem dX12_strangers_44 : decode cX12_strangers 44 = .ok (.ldc2_w 414, 3) := by decide +kernel
theorem dX12_strangers_47 : decode cX12_strangers 47 = .ok (.invokestatic 122, 3) := by decide +kernel
theorem dX12_strangers_50 : decode cX12_strangers 50 = .ok (.ifCond .eq 14, 3) := by decide +kernel
theorem dX12_strangers_53 : decode cX12_strangers 53 = .ok (.iload 4, 2) := by decide +kernel
theorem dX12_strangers_55 : decode cX12_strangers 55 = .ok (.i2l, 1) := by decide +kernel
theorem dX12_strangers_56 : decode cX12_strangers 56 = .ok (.lconst 0, 1) := by decide +kernel
theorem dX12_strangers_57 : decode cX12_strangers 57 = .ok (.lconst 1, 1) := by decide +kernel
theorem dX12_strangers_58 : decode cX12_strangers 58 = .ok (.invokestatic 122, 3) := by decide +kernel
theorem dX12_strangers_61 : decode cX12_strangers 61 = .ok (.ifCond .ne 5, 3) := by decide +kernel
theorem dX12_strangers_64 : decode cX12_strangers 64 = .ok (.iconst (-1), 1) := by decide +kernel
theorem dX12_strangers_65 : decode cX12_strangers 65 = .ok (.ireturn, 1) := by decide +kernel
theorem dX12_strangers_66 : decode cX12_strangers 66 = .ok (.aload_n 0, 1) := by decide +kernel
theorem dX12_strangers_67 : decode cX12_strangers 67 = .ok (.aload_n 0, 1) := by decide +kernel
theorem dX12_strangers_68 : decode cX12_strangers 68 = .ok (.getfield 45, 3) := by decide +kernel
theorem dX12_strangers_71 : decode cX12_strangers 71 = .ok (.bipush 9, 2) := by decide +kernel
theorem dX12_strangers_73 : decode cX12_strangers 73 = .ok (.iaload, 1) := by decide +kernel
theorem dX12_strangers_74 : decode cX12_strangers 74 = .ok (.i2l, 1) := by decide +kernel
theorem dX12_strangers_75 : decode cX12_strangers 75 = .ok (.putfield 493, 3) := by decide +kernel
theorem dX12_strangers_78 : decode cX12_strangers 78 = .ok (.iconst 0, 1) := by decide +kernel
theorem dX12_strangers_79 : decode cX12_strangers 79 = .ok (.istore 5, 2) := by decide +kernel
theorem dX12_strangers_81 : decode cX12_strangers 81 = .ok (.aload_n 0, 1) := by decide +kernel
theorem dX12_strangers_82 : decode cX12_strangers 82 = .ok (.invokevirtual 426, 3) := by decide +kernel
theorem dX12_strangers_85 : decode cX12_strangers 85 = .ok (.iconst 0, 1) := by decide +kernel
theorem dX12_strangers_86 : decode cX12_strangers 86 = .ok (.istore 6, 2) := by decide +kernel
theorem dX12_strangers_88 : decode cX12_strangers 88 = .ok (.iload 6, 2) := by decide +kernel
theorem dX12_strangers_90 : decode cX12_strangers 90 = .ok (.iload_n 2, 1) := by decide +kernel
theorem dX12_strangers_91 : decode cX12_strangers 91 = .ok (.if_icmp .ge 132, 3) := by decide +kernel
theorem dX12_strangers_94 : decode cX12_strangers 94 = .ok (.aload_n 0, 1) := by decide +kernel
theorem dX12_strangers_95 : decode cX12_strangers 95 = .ok (.aload_n 0, 1) := by decide +kernel
theorem dX12_strangers_96 : decode cX12_strangers 96 = .ok (.getfield 45, 3) := by decide +kernel
theorem dX12_strangers_99 : decode cX12_strangers 99 = .ok (.iconst 0, 1) := by decide +kernel
theorem dX12_strangers_100 : decode cX12_strangers 100 = .ok (.iaload, 1) := by decide +kernel
theorem dX12_strangers_101 : decode cX12_strangers 101 = .ok (.invokevirtual 507, 3) := by decide +kernel
theorem dX12_strangers_104 : decode cX12_strangers 104 = .ok (.istore 7, 2) := by decide +kernel
theorem dX12_strangers_106 : decode cX12_strangers 106 = .ok (.aload_n 0, 1) := by decide +kernel
theorem dX12_strangers_107 : decode cX12_strangers 107 = .ok (.aload_n 0, 1) := by decide +kernel
theorem dX12_strangers_108 : decode cX12_strangers 108 = .ok (.getfield 45, 3) := by decide +kernel
theorem dX12_strangers_111 : decode cX12_strangers 111 = .ok (.iconst 0, 1) := by decide +kernel
theorem dX12_strangers_112 : decode cX12_strangers 112 = .ok (.iaload, 1) := by decide +kernel
theorem dX12_strangers_113 : decode cX12_strangers 113 = .ok (.invokevirtual 507, 3) := by decide +kernel
theorem dX12_strangers_116 : decode cX12_strangers 116 = .ok (.istore 8, 2) := by decide +kernel
theorem dX12_strangers_118 : decode cX12_strangers 118 = .ok (.aload_n 0, 1) := by decide +kernel
theorem dX12_strangers_119 : decode cX12_strangers 119 = .ok (.aload_n 0, 1) := by decide +kernel
theorem dX12_strangers_120 : decode cX12_strangers 120 = .ok (.getfield 45, 3) := by decide +kernel
theorem dX12_strangers_123 : decode cX12_strangers 123 = .ok (.iconst 4, 1) := by decide +kernel
theorem dX12_strangers_124 : decode cX12_strangers 124 = .ok (.iaload, 1) := by decide +kernel
theorem dX12_strangers_125 : decode cX12_strangers 125 = .ok (.invokevirtual 507, 3) := by decide +kernel
theorem dX12_strangers_128 : decode cX12_strangers 128 = .ok (.istore 9, 2) := by decide +kernel
theorem dX12_strangers_130 : decode cX12_strangers 130 = .ok (.aload_n 0, 1) := by decide +kernel
theorem dX12_strangers_131 : decode cX12_strangers 131 = .ok (.sipush 168, 3) := by decide +kernel
theorem dX12_strangers_134 : decode cX12_strangers 134 = .ok (.invokevirtual 507, 3) := by decide +kernel
theorem dX12_strangers_137 : decode cX12_strangers 137 = .ok (.istore 10, 2) := by decide +kernel
theorem dX12_strangers_139 : decode cX12_strangers 139 = .ok (.aload_n 0, 1) := by decide +kernel
theorem dX12_strangers_140 : decode cX12_strangers 140 = .ok (.iconst 0, 1) := by decide +kernel
theorem dX12_strangers_141 : decode cX12_strangers 141 = .ok (.iload 7, 2) := by decide +kernel
theorem dX12_strangers_143 : decode cX12_strangers 143 = .ok (.iload 8, 2) := by decide +kernel
theorem dX12_strangers_145 : decode cX12_strangers 145 = .ok (.iload 9, 2) := by decide +kernel
theorem dX12_strangers_147 : decode cX12_strangers 147 = .ok (.iload_n 1, 1) := by decide +kernel
theorem dX12_strangers_148 : decode cX12_strangers 148 = .ok (.iload 10, 2) := by decide +kernel
theorem dX12_strangers_150 : decode cX12_strangers 150 = .ok (.invokevirtual 363, 3) := by decide +kernel
theorem dX12_strangers_153 : decode cX12_strangers 153 = .ok (.iconst 0, 1) := by decide +kernel
theorem dX12_strangers_154 : decode cX12_strangers 154 = .ok (.istore 11, 2) := by decide +kernel
theorem dX12_strangers_156 : decode cX12_strangers 156 = .ok (.iload 11, 2) := by decide +kernel
theorem dX12_strangers_158 : decode cX12_strangers 158 = .ok (.iload_n 3, 1) := by decide +kernel
theorem dX12_strangers_159 : decode cX12_strangers 159 = .ok (.if_icmp .ge 23, 3) := by decide +kernel
theorem dX12_strangers_162 : decode cX12_strangers 162 = .ok (.aload_n 0, 1) := by decide +kernel
theorem dX12_strangers_163 : decode cX12_strangers 163 = .ok (.iconst 0, 1) := by decide +kernel
theorem dX12_strangers_164 : decode cX12_strangers 164 = .ok (.invokevirtual 416, 3) := by decide +kernel
theorem dX12_strangers_167 : decode cX12_strangers 167 = .ok (.ifCond .ne 15, 3) := by decide +kernel
theorem dX12_strangers_170 : decode cX12_strangers 170 = .ok (.aload_n 0, 1) := by decide +kernel
theorem dX12_strangers_171 : decode cX12_strangers 171 = .ok (.iconst 0, 1) := by decide +kernel
theorem dX12_strangers_172 : decode cX12_strangers 172 = .ok (.invokevirtual 419, 3) := by decide +kernel
theorem dX12_strangers_175 : decode cX12_strangers 175 = .ok (.pop, 1) := by decide +kernel
theorem dX12_strangers_176 : decode cX12_strangers 176 = .ok (.iinc 11 1, 3) := by decide +kernel
theorem dX12_strangers_179 : decode cX12_strangers 179 = .ok (.goto (-23), 3) := by decide +kernel
theorem dX12_strangers_182 : decode cX12_strangers 182 = .ok (.aload_n 0, 1) := by decide +kernel
theorem dX12_strangers_183 : decode cX12_strangers 183 = .ok (.iconst 0, 1) := by decide +kernel
theorem dX12_strangers_184 : decode cX12_strangers 184 = .ok (.invokevirtual 416, 3) := by decide +kernel
theorem dX12_strangers_187 : decode cX12_strangers 187 = .ok (.ifCond .eq 26, 3) := by decide +kernel
theorem dX12_strangers_190 : decode cX12_strangers 190 = .ok (.iload 5, 2) := by decide +kernel
theorem dX12_strangers_192 : decode cX12_strangers 192 = .ok (.iload 4, 2) := by decide +kernel
theorem dX12_strangers_194 : decode cX12_strangers 194 = .ok (.ifCond .ne 7, 3) := by decide +kernel
theorem dX12_strangers_197 : decode cX12_strangers 197 = .ok (.iconst 1, 1) := by decide +kernel
theorem dX12_strangers_198 : decode cX12_strangers 198 = .ok (.goto 12, 3) := by decide +kernel
theorem dX12_strangers_201 : decode cX12_strangers 201 = .ok (.aload_n 0, 1) := by decide +kernel
theorem dX12_strangers_202 : decode cX12_strangers 202 = .ok (.iconst 0, 1) := by decide +kernel
theorem dX12_strangers_203 : decode cX12_strangers 203 = .ok (.iconst 4, 1) := by decide +kernel
theorem dX12_strangers_204 : decode cX12_strangers 204 = .ok (.invokevirtual 372, 3) := by decide +kernel
theorem dX12_strangers_207 : decode cX12_strangers 207 = .ok (.iload 10, 2) := by decide +kernel
theorem dX12_strangers_209 : decode cX12_strangers 209 = .ok (.isub, 1) := by decide +kernel
theorem dX12_strangers_210 : decode cX12_strangers 210 = .ok (.iadd, 1) := by decide +kernel
theorem dX12_strangers_211 : decode cX12_strangers 211 = .ok (.istore 5, 2) := by decide +kernel
theorem dX12_strangers_213 : decode cX12_strangers 213 = .ok (.aload_n 0, 1) := by decide +kernel
theorem dX12_strangers_214 : decode cX12_strangers 214 = .ok (.invokevirtual 429, 3) := by decide +kernel
theorem dX12_strangers_217 : decode cX12_strangers 217 = .ok (.iinc 6 1, 3) := by decide +kernel
theorem dX12_strangers_220 : decode cX12_strangers 220 = .ok (.goto (-132), 3) := by decide +kernel
theorem dX12_strangers_223 : decode cX12_strangers 223 = .ok (.iload 5, 2) := by decide +kernel
theorem dX12_strangers_225 : decode cX12_strangers 225 = .ok (.ireturn, 1) := by decide +kernel
