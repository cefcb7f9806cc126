theorem dX12_open_18 : decode cX12_open 18 = .ok (.iload_n 2, 1) := by decide +kernel
theorem dX12_open_19 : decode cX12_open 19 = .ok (.invokevirtual 314, 3) := by decide +kernel
theorem dX12_open_22 : decode cX12_open 22 = .ok (.ifCond .eq 10, 3) := by decide +kernel
theorem dX12_open_25 : decode cX12_open 25 = .ok (.iload_n 3, 1) := by decide +kernel
theorem dX12_open_26 : decode cX12_open 26 = .ok (.invokestatic 331, 3) := by decide +kernel
theorem dX12_open_29 : decode cX12_open 29 = .ok (.ifCond .ne 5, 3) := by decide +kernel
theorem dX12_open_32 : decode cX12_open 32 = .ok (.iconst (-1), 1) := by decide +kernel
theorem dX12_open_33 : decode cX12_open 33 = .ok (.ireturn, 1) := by decide +kernel
theorem dX12_open_34 : decode cX12_open 34 = .ok (.aload_n 0, 1) := by decide +kernel
theorem dX12_open_35 : decode cX12_open 35 = .ok (.iload_n 1, 1) := by decide +kernel
theorem dX12_open_36 : decode cX12_open 36 = .ok (.iload_n 2, 1) := by decide +kernel
theorem dX12_open_37 : decode cX12_open 37 = .ok (.iload_n 3, 1) := by decide +kernel
theorem dX12_open_38 : decode cX12_open 38 = .ok (.invokevirtual 334, 3) := by decide +kernel
theorem dX12_open_41 : decode cX12_open 41 = .ok (.ifCond .eq 7, 3) := by decide +kernel
theorem dX12_open_44 : decode cX12_open 44 = .ok (.iconst 1, 1) := by decide +kernel
theorem dX12_open_45 : decode cX12_open 45 = .ok (.goto 4, 3) := by decide +kernel
theorem dX12_open_48 : decode cX12_open 48 = .ok (.iconst 0, 1) := by decide +kernel
theorem dX12_open_49 : decode cX12_open 49 = .ok (.ireturn, 1) := by decide +kernel
set_option maxRecDepth 20000 in
theorem ggX12_print_X12_isTown : GoodIn wsX12_print wsX12_isTown := goodIn_r _ [7, 2, 15, 16, 17, 18, 19, 20, 21, 22, 23, 24, 25, 26, 27, 28, 29, 30, 31, 32, 33, 34, 35, 36, 37, 38, 39, 40, 41, 42, 43, 44, 45, 46, 47, 48, 49, 50, 51, 52, 53, 54, 55, 56] (by decide +kernel) (by decide +kernel)
set_option maxRecDepth 20000 in
theorem gX12_print_X12_isTown : GoodIn wsX12_print (wsV RX12 337 RX12 yX12_isTown wsX12_isTown) := goodIn_app (goodIn_of _ (by decide +kernel)) ggX12_print_X12_isTown
set_option maxRecDepth 20000 in
theorem ggX12_print_X12_in : GoodIn wsX12_print wsX12_in := goodIn_r _ [10] (by decide +kernel) (by decide +kernel)
set_option maxRecDepth 20000 in
theorem gX12_print_X12_in : GoodIn wsX12_print (va_wsS RX12 122 yX12_in wsX12_in) := goodIn_app (goodIn_of _ (by decide +kernel)) ggX12_print_X12_in
set_option maxRecDepth 20000 in
theorem ggX12_print_X12_streetOf : GoodIn wsX12_print wsX12_streetOf := goodIn_r _ [14, 2, 15, 16, 17, 18, 19, 20, 21, 22, 23, 24, 25, 26, 27, 28, 29, 30, 31, 32, 33, 34, 35, 36, 37, 38, 39, 40, 41, 42, 43, 44, 45, 46, 47, 48, 49, 50, 51, 52, 53, 54, 55, 56] (by decide +kernel) (by decide +kernel)
set_option maxRecDepth 20000 in
theorem gX12_print_X12_streetOf : GoodIn wsX12_print (wsV RX12 300 RX12 yX12_streetOf wsX12_streetOf) := goodIn_app (goodIn_of _ (by decide +kernel)) ggX12_print_X12_streetOf
theorem dX12_print_0 : decode cX12_print 0 = .ok (.aload_n 0, 1) := by decide +kernel
theorem dX12_print_1 : decode cX12_print 1 = .ok (.invokevirtual 337, 3) := by decide +kernel
theorem dX12_print_4 : decode cX12_print 4 = .ok (.ifCond .eq 25, 3) := by decide +kernel
theorem dX12_print_7 : decode cX12_print 7 = .ok (.iload_n 1, 1) := by decide +kernel
theorem dX12_print_8 : decode cX12_print 8 = .ok (.i2l, 1) := by decide +kernel
theorem dX12_print_9 : decode cX12_print 9 = .ok (.lconst 0, 1) := by decide +kernel
theorem dX12_print_10 : decode cX12_print 10 = .ok (.ldc2_w 340, 3) := by decide +kernel
theorem dX12_print_13 : decode cX12_print 13 = .ok (.invokestatic 122, 3) := by decide +kernel
theorem dX12_print_16 : decode cX12_print 16 = .ok (.ifCond .eq 13, 3) := by decide +kernel
theorem dX12_print_19 : decode cX12_print 19 = .ok (.aload_n 0, 1) := by decide +kernel
theorem dX12_print_20 : decode cX12_print 20 = .ok (.getfield 45, 3) := by decide +kernel
theorem dX12_print_23 : decode cX12_print 23 = .ok (.iconst 4, 1) := by decide +kernel
theorem dX12_print_24 : decode cX12_print 24 = .ok (.iaload, 1) := by decide +kernel
theorem dX12_print_25 : decode cX12_print 25 = .ok (.iconst 4, 1) := by decide +kernel
theorem dX12_print_26 : decode cX12_print 26 = .ok (.if_icmp .ne 6, 3) := by decide +kernel
theorem dX12_print_29 : decode cX12_print 29 = .ok (.bipush (-2), 2) := by decide +kernel
theorem dX12_print_31 : decode cX12_print 31 = .ok (.ireturn, 1) := by decide +kernel
theorem dX12_print_32 : decode cX12_print 32 = .ok (.iconst 0, 1) := by decide +kernel
theorem dX12_print_33 : decode cX12_print 33 = .ok (.istore_n 2, 1) := by decide +kernel
theorem dX12_print_34 : decode cX12_print 34 = .ok (.iload_n 2, 1) := by decide +kernel
theorem dX12_print_35 : decode cX12_print 35 = .ok (.aload_n 0, 1) := by decide +kernel
theorem dX12_print_36 : decode cX12_print 36 = .ok (.getfield 45, 3) := by decide +kernel
theorem dX12_print_39 : decode cX12_print 39 = .ok (.iconst 1, 1) := by decide +kernel
theorem dX12_print_40 : decode cX12_print 40 = .ok (.iaload, 1) := by decide +kernel
theorem dX12_print_41 : decode cX12_print 41 = .ok (.if_icmp .ge 37, 3) := by decide +kernel
theorem dX12_print_44 : decode cX12_print 44 = .ok (.aload_n 0, 1) := by decide +kernel
theorem dX12_print_45 : decode cX12_print 45 = .ok (.getfield 45, 3) := by decide +kernel
theorem dX12_print_48 : decode cX12_print 48 = .ok (.sipush 168, 3) := by decide +kernel
theorem dX12_print_51 : decode cX12_print 51 = .ok (.bipush 12, 2) := by decide +kernel
theorem dX12_print_53 : decode cX12_print 53 = .ok (.aload_n 0, 1) := by decide +kernel
theorem dX12_print_54 : decode cX12_print 54 = .ok (.getfield 45, 3) := by decide +kernel
theorem dX12_print_57 : decode cX12_print 57 = .ok (.iconst 4, 1) := by decide +kernel
theorem dX12_print_58 : decode cX12_print 58 = .ok (.iaload, 1) := by decide +kernel
theorem dX12_print_59 : decode cX12_print 59 = .ok (.imul, 1) := by decide +kernel
theorem dX12_print_60 : decode cX12_print 60 = .ok (.iadd, 1) := by decide +kernel
theorem dX12_print_61 : decode cX12_print 61 = .ok (.iload_n 2, 1) := by decide +kernel
theorem dX12_print_62 : decode cX12_print 62 = .ok (.iadd, 1) := by decide +kernel
theorem dX12_print_63 : decode cX12_print 63 = .ok (.aload_n 0, 1) := by decide +kernel
theorem dX12_print_64 : decode cX12_print 64 = .ok (.iload_n 2, 1) := by decide +kernel
theorem dX12_print_65 : decode cX12_print 65 = .ok (.iconst 3, 1) := by decide +kernel
theorem dX12_print_66 : decode cX12_print 66 = .ok (.iload_n 1, 1) := by decide +kernel
theorem dX12_print_67 : decode cX12_print 67 = .ok (.iadd, 1) := by decide +kernel
theorem dX12_print_68 : decode cX12_print 68 = .ok (.invokevirtual 300, 3) := by decide +kernel
theorem dX12_print_71 : decode cX12_print 71 = .ok (.iastore, 1) := by decide +kernel
theorem dX12_print_72 : decode cX12_print 72 = .ok (.iinc 2 1, 3) := by decide +kernel
theorem dX12_print_75 : decode cX12_print 75 = .ok (.goto (-41), 3) := by decide +kernel
theorem dX12_print_78 : decode cX12_print 78 = .ok (.aload_n 0, 1) := by decide +kernel
theorem dX12_print_79 : decode cX12_print 79 = .ok (.getfield 45, 3) := by decide +kernel
theorem dX12_print_82 : decode cX12_print 82 = .ok (.iconst 4, 1) := by decide +kernel
theorem dX12_print_83 : decode cX12_print 83 = .ok (.dup2, 1) := by decide +kernel
theorem dX12_print_84 : decode cX12_print 84 = .ok (.iaload, 1) := by decide +kernel
theorem dX12_print_85 : decode cX12_print 85 = .ok (.iconst 1, 1) := by decide +kernel
theorem dX12_print_86 : decode cX12_print 86 = .ok (.iadd, 1) := by decide +kernel
theorem dX12_print_87 : decode cX12_print 87 = .ok (.iastore, 1) := by decide +kernel
theorem dX12_print_88 : decode cX12_print 88 = .ok (.aload_n 0, 1) := by decide +kernel
theorem dX12_print_89 : decode cX12_print 89 = .ok (.getfield 45, 3) := by decide +kernel
theorem dX12_print_92 : decode cX12_print 92 = .ok (.iconst 4, 1) := by decide +kernel
theorem dX12_print_93 : decode cX12_print 93 = .ok (.iaload, 1) := by decide +kernel
theorem dX12_print_94 : decode cX12_print 94 = .ok (.iconst 1, 1) := by decide +kernel
theorem dX12_print_95 : decode cX12_print 95 = .ok (.isub, 1) := by decide +kernel
theorem dX12_print_96 : decode cX12_print 96 = .ok (.ireturn, 1) := by decide +kernel
set_option maxRecDepth 20000 in
theorem ggX12_misprint_X12_isMap : GoodIn wsX12_misprint wsX12_isMap := goodIn_r _ [7, 2, 15, 16, 17, 18, 19, 20, 21, 22, 23, 24, 25, 26, 27, 28, 29, 30, 31, 32, 33, 34, 35, 36, 37, 38, 39, 40, 41, 42, 43, 44, 45, 46, 47, 48, 49, 50, 51, 52, 53, 54, 55, 56] (by decide +kernel) (by decide +kernel)
set_option maxRecDepth 20000 in
theorem gX12_misprint_X12_isMap : GoodIn wsX12_misprint (wsV RX12 342 RX12 yX12_isMap wsX12_isMap) := goodIn_app (goodIn_of _ (by decide +kernel)) ggX12_misprint_X12_isMap
set_option maxRecDepth 20000 in
theorem ggX12_misprint_X12_isStreet : GoodIn wsX12_misprint wsX12_isStreet := goodIn_r _ [11, 2, 15, 16, 17, 18, 19, 20, 21, 22, 23, 24, 25, 26, 27, 28, 29, 30, 31, 32, 33, 34, 35, 36, 37, 38, 39, 40, 41, 42, 43, 44, 45, 46, 47, 48, 49, 50, 51, 52, 53, 54, 55, 56] (by decide +kernel) (by decide +kernel)
set_option maxRecDepth 20000 in
theorem gX12_misprint_X12_isStreet : GoodIn wsX12_misprint (wsV RX12 323 RX12 yX12_isStreet wsX12_isStreet) := goodIn_app (goodIn_of _ (by decide +kernel)) ggX12_misprint_X12_isStreet
set_option maxRecDepth 20000 in
theorem ggX12_misprint_X12_in : GoodIn wsX12_misprint wsX12_in := goodIn_r _ [14] (by decide +kernel) (by decide +kernel)
set_option maxRecDepth 20000 in
theorem gX12_misprint_X12_in : GoodIn wsX12_misprint (va_wsS RX12 122 yX12_in wsX12_in) := goodIn_app (goodIn_of _ (by decide +kernel)) ggX12_misprint_X12_in
theorem dX12_misprint_0 : decode cX12_misprint 0 = .ok (.aload_n 0, 1) := by decide +kernel
theorem dX12_misprint_1 : decode cX12_misprint 1 = .ok (.iload_n 1, 1) := by decide +kernel
theorem dX12_misprint_2 : decode cX12_misprint 2 = .ok (.invokevirtual 342, 3) := by decide +kernel
theorem dX12_misprint_5 : decode cX12_misprint 5 = .ok (.ifCond .eq 23, 3) := by decide +kernel
theorem dX12_misprint_8 : decode cX12_misprint 8 = .ok (.aload_n 0, 1) := by decide +kernel
theorem dX12_misprint_9 : decode cX12_misprint 9 = .ok (.iload_n 2, 1) := by decide +kernel
theorem dX12_misprint_10 : decode cX12_misprint 10 = .ok (.invokevirtual 323, 3) := by decide +kernel
theorem dX12_misprint_13 : decode cX12_misprint 13 = .ok (.ifCond .eq 15, 3) := by decide +kernel
theorem dX12_misprint_16 : decode cX12_misprint 16 = .ok (.iload_n 3, 1) := by decide +kernel
theorem dX12_misprint_17 : decode cX12_misprint 17 = .ok (.i2l, 1) := by decide +kernel
theorem dX12_misprint_18 : decode cX12_misprint 18 = .ok (.lconst 0, 1) := by decide +kernel
theorem dX12_misprint_19 : decode cX12_misprint 19 = .ok (.ldc2_w 345, 3) := by decide +kernel
theorem dX12_misprint_22 : decode cX12_misprint 22 = .ok (.invokestatic 122, 3) := by decide +kernel
theorem dX12_misprint_25 : decode cX12_misprint 25 = .ok (.ifCond .ne 5, 3) := by decide +kernel
theorem dX12_misprint_28 : decode cX12_misprint 28 = .ok (.iconst (-1), 1) := by decide +kernel
theorem dX12_misprint_29 : decode cX12_misprint 29 = .ok (.ireturn, 1) := by decide +kernel
theorem dX12_misprint_30 : decode cX12_misprint 30 = .ok (.aload_n 0, 1) := by decide +kernel
theorem dX12_misprint_31 : decode cX12_misprint 31 = .ok (.getfield 45, 3) := by decide +kernel
theorem dX12_misprint_34 : decode cX12_misprint 34 = .ok (.sipush 168, 3) := by decide +kernel
theorem dX12_misprint_37 : decode cX12_misprint 37 = .ok (.bipush 12, 2) := by decide +kernel
theorem dX12_misprint_39 : decode cX12_misprint 39 = .ok (.iload_n 1, 1) := by decide +kernel
theorem dX12_misprint_40 : decode cX12_misprint 40 = .ok (.imul, 1) := by decide +kernel
theorem dX12_misprint_41 : decode cX12_misprint 41 = .ok (.iadd, 1) := by decide +kernel
theorem dX12_misprint_42 : decode cX12_misprint 42 = .ok (.iload_n 2, 1) := by decide +kernel
theorem dX12_misprint_43 : decode cX12_misprint 43 = .ok (.iadd, 1) := by decide +kernel
theorem dX12_misprint_44 : decode cX12_misprint 44 = .ok (.iaload, 1) := by decide +kernel
theorem dX12_misprint_45 : decode cX12_misprint 45 = .ok (.istore 4, 2) := by decide +kernel
theorem dX12_misprint_47 : decode cX12_misprint 47 = .ok (.aload_n 0, 1) := by decide +kernel
theorem dX12_misprint_48 : decode cX12_misprint 48 = .ok (.getfield 45, 3) := by decide +kernel
theorem dX12_misprint_51 : decode cX12_misprint 51 = .ok (.sipush 168, 3) := by decide +kernel
theorem dX12_misprint_54 : decode cX12_misprint 54 = .ok (.bipush 12, 2) := by decide +kernel
theorem dX12_misprint_56 : decode cX12_misprint 56 = .ok (.iload_n 1, 1) := by decide +kernel
theorem dX12_misprint_57 : decode cX12_misprint 57 = .ok (.imul, 1) := by decide +kernel
theorem dX12_misprint_58 : decode cX12_misprint 58 = .ok (.iadd, 1) := by decide +kernel
theorem dX12_misprint_59 : decode cX12_misprint 59 = .ok (.iload_n 2, 1) := by decide +kernel
theorem dX12_misprint_60 : decode cX12_misprint 60 = .ok (.iadd, 1) := by decide +kernel
theorem dX12_misprint_61 : decode cX12_misprint 61 = .ok (.iload_n 3, 1) := by decide +kernel
theorem dX12_misprint_62 : decode cX12_misprint 62 = .ok (.iastore, 1) := by decide +kernel
theorem dX12_misprint_63 : decode cX12_misprint 63 = .ok (.iload 4, 2) := by decide +kernel
theorem dX12_misprint_65 : decode cX12_misprint 65 = .ok (.ireturn, 1) := by decide +kernel
set_option maxRecDepth 20000 in
theorem ggX12_shown_X12_isMap : GoodIn wsX12_shown wsX12_isMap := goodIn_r _ [6, 1, 11, 12, 13, 14, 15, 16, 17, 18, 19, 20, 21, 22, 23, 24, 25, 26, 27, 28, 29, 30, 31, 32, 33, 34, 35, 36, 37, 38, 39, 40, 41, 42, 43, 44, 45, 46, 47, 48, 49, 50, 51, 52] (by decide +kernel) (by decide +kernel)
set_option maxRecDepth 20000 in
theorem gX12_shown_X12_isMap : GoodIn wsX12_shown (wsV RX12 342 RX12 yX12_isMap wsX12_isMap) := goodIn_app (goodIn_of _ (by decide +kernel)) ggX12_shown_X12_isMap
set_option maxRecDepth 20000 in
theorem ggX12_shown_X12_isStreet : GoodIn wsX12_shown wsX12_isStreet := goodIn_r _ [10, 1, 11, 12, 13, 14, 15, 16, 17, 18, 19, 20, 21, 22, 23, 24, 25, 26, 27, 28, 29, 30, 31, 32, 33, 34, 35, 36, 37, 38, 39, 40, 41, 42, 43, 44, 45, 46, 47, 48, 49, 50, 51, 52] (by decide +kernel) (by decide +kernel)
set_option maxRecDepth 20000 in
theorem gX12_shown_X12_isStreet : GoodIn wsX12_shown (wsV RX12 323 RX12 yX12_isStreet wsX12_isStreet) := goodIn_app (goodIn_of _ (by decide +kernel)) ggX12_shown_X12_isStreet
theorem dX12_shown_0 : decode cX12_shown 0 = .ok (.aload_n 0, 1) := by decide +kernel
theorem dX12_shown_1 : decode cX12_shown 1 = .ok (.iload_n 1, 1) := by decide +kernel
theorem dX12_shown_2 : decode cX12_shown 2 = .ok (.invokevirtual 342, 3) := by decide +kernel
theorem dX12_shown_5 : decode cX12_shown 5 = .ok (.ifCond .eq 29, 3) := by decide +kernel
theorem dX12_shown_8 : decode cX12_shown 8 = .ok (.aload_n 0, 1) := by decide +kernel
theorem dX12_shown_9 : decode cX12_shown 9 = .ok (.iload_n 2, 1) := by decide +kernel
theorem dX12_shown_10 : decode cX12_shown 10 = .ok (.invokevirtual 323, 3) := by decide +kernel
theorem dX12_shown_13 : decode cX12_shown 13 = .ok (.ifCond .eq 21, 3) := by decide +kernel
theorem dX12_shown_16 : decode cX12_shown 16 = .ok (.aload_n 0, 1) := by decide +kernel
theorem dX12_shown_17 : decode cX12_shown 17 = .ok (.getfield 45, 3) := by decide +kernel
theorem dX12_shown_20 : decode cX12_shown 20 = .ok (.sipush 168, 3) := by decide +kernel
theorem dX12_shown_23 : decode cX12_shown 23 = .ok (.bipush 12, 2) := by decide +kernel
theorem dX12_shown_25 : decode cX12_shown 25 = .ok (.iload_n 1, 1) := by decide +kernel
theorem dX12_shown_26 : decode cX12_shown 26 = .ok (.imul, 1) := by decide +kernel
theorem dX12_shown_27 : decode cX12_shown 27 = .ok (.iadd, 1) := by decide +kernel
theorem dX12_shown_28 : decode cX12_shown 28 = .ok (.iload_n 2, 1) := by decide +kernel
theorem dX12_shown_29 : decode cX12_shown 29 = .ok (.iadd, 1) := by decide +kernel
theorem dX12_shown_30 : decode cX12_shown 30 = .ok (.iaload, 1) := by decide +kernel
theorem dX12_shown_31 : decode cX12_shown 31 = .ok (.goto 4, 3) := by decide +kernel
theorem dX12_shown_34 : decode cX12_shown 34 = .ok (.iconst (-1), 1) := by decide +kernel
theorem dX12_shown_35 : decode cX12_shown 35 = .ok (.ireturn, 1) := by decide +kernel
set_option maxRecDepth 20000 in
theorem ggX12_walker_X12_isCorner : GoodIn wsX12_walker wsX12_isCorner := goodIn_r _ [6, 1, 24, 25, 26, 27, 28, 29, 30, 31, 32, 33, 34, 35, 36, 37, 38, 39, 40, 41, 42, 43, 44, 45, 46, 47, 48, 49, 50, 51, 52, 53, 54, 55, 56, 57, 58, 59, 60, 61, 62, 63, 64, 65] (by decide +kernel) (by decide +kernel)
set_option maxRecDepth 20000 in
theorem gX12_walker_X12_isCorner : GoodIn wsX12_walker (wsV RX12 328 RX12 yX12_isCorner wsX12_isCorner) := goodIn_app (goodIn_of _ (by decide +kernel)) ggX12_walker_X12_isCorner
set_option maxRecDepth 20000 in
theorem ggX12_walker_X12_isMap : GoodIn wsX12_walker wsX12_isMap := goodIn_r _ [10, 1, 24, 25, 26, 27, 28, 29, 30, 31, 32, 33, 34, 35, 36, 37, 38, 39, 40, 41, 42, 43, 44, 45, 46, 47, 48, 49, 50, 51, 52, 53, 54, 55, 56, 57, 58, 59, 60, 61, 62, 63, 64, 65] (by decide +kernel) (by decide +kernel)
set_option maxRecDepth 20000 in
theorem gX12_walker_X12_isMap : GoodIn wsX12_walker (wsV RX12 342 RX12 yX12_isMap wsX12_isMap) := goodIn_app (goodIn_of _ (by decide +kernel)) ggX12_walker_X12_isMap
set_option maxRecDepth 20000 in
theorem ggX12_walker_X12_isRule : GoodIn wsX12_walker wsX12_isRule := goodIn_r _ [14, 15, 24, 25, 26, 27, 28, 29, 30, 31, 32, 33, 34, 35, 36, 37, 38, 39, 40, 41, 42, 43, 44, 45, 46, 47, 48, 49, 50, 51, 52, 53, 54, 55, 56, 57, 58, 59, 60, 61, 62, 63, 64, 65] (by decide +kernel) (by decide +kernel)
set_option maxRecDepth 20000 in
theorem gX12_walker_X12_isRule : GoodIn wsX12_walker (wsV RX12 360 RX12 yX12_isRule wsX12_isRule) := goodIn_app (goodIn_of _ (by decide +kernel)) ggX12_walker_X12_isRule
set_option maxRecDepth 20000 in
theorem ggX12_walker_X12_isHour : GoodIn wsX12_walker wsX12_isHour := goodIn_r _ [18, 19] (by decide +kernel) (by decide +kernel)
set_option maxRecDepth 20000 in
theorem gX12_walker_X12_isHour : GoodIn wsX12_walker (va_wsS RX12 331 yX12_isHour wsX12_isHour) := goodIn_app (goodIn_of _ (by decide +kernel)) ggX12_walker_X12_isHour
set_option maxRecDepth 20000 in
theorem ggX12_walker_X12_setsOut : GoodIn wsX12_walker wsX12_setsOut := goodIn_r _ [23, 1, 24, 25, 26, 27, 28, 29, 30, 31, 32, 33, 34, 35, 36, 37, 38, 39, 40, 41, 42, 43, 44, 45, 46, 47, 48, 49, 50, 51, 52, 53, 54, 55, 56, 57, 58, 59, 60, 61, 62, 63, 64, 65] (by decide +kernel) (by decide +kernel)
set_option maxRecDepth 20000 in
theorem gX12_walker_X12_setsOut : GoodIn wsX12_walker (wsV RX12 363 RX12 yX12_setsOut wsX12_setsOut) := goodIn_app (goodIn_of _ (by decide +kernel)) ggX12_walker_X12_setsOut
theorem dX12_walker_0 : decode cX12_walker 0 = .ok (.aload_n 0, 1) := by decide +kernel
theorem dX12_walker_1 : decode cX12_walker 1 = .ok (.iload_n 1, 1) := by decide +kernel
theorem dX12_walker_2 : decode cX12_walker 2 = .ok (.invokevirtual 328, 3) := by decide +kernel
theorem dX12_walker_5 : decode cX12_walker 5 = .ok (.ifCond .eq 52, 3) := by decide +kernel
theorem dX12_walker_8 : decode cX12_walker 8 = .ok (.aload_n 0, 1) := by decide +kernel
theorem dX12_walker_9 : decode cX12_walker 9 = .ok (.iload_n 2, 1) := by decide +kernel
theorem dX12_walker_10 : decode cX12_walker 10 = .ok (.invokevirtual 328, 3) := by decide +kernel
theorem dX12_walker_13 : decode cX12_walker 13 = .ok (.ifCond .eq 44, 3) := by decide +kernel
theorem dX12_walker_16 : decode cX12_walker 16 = .ok (.aload_n 0, 1) := by decide +kernel
theorem dX12_walker_17 : decode cX12_walker 17 = .ok (.iload_n 3, 1) := by decide +kernel
theorem dX12_walker_18 : decode cX12_walker 18 = .ok (.invokevirtual 342, 3) := by decide +kernel
theorem dX12_walker_21 : decode cX12_walker 21 = .ok (.ifCond .eq 36, 3) := by decide +kernel
theorem dX12_walker_24 : decode cX12_walker 24 = .ok (.iload 4, 2) := by decide +kernel
theorem dX12_walker_26 : decode cX12_walker 26 = .ok (.iconst (-1), 1) := by decide +kernel
theorem dX12_walker_27 : decode cX12_walker 27 = .ok (.if_icmp .eq 12, 3) := by decide +kernel
theorem dX12_walker_30 : decode cX12_walker 30 = .ok (.aload_n 0, 1) := by decide +kernel
theorem dX12_walker_31 : decode cX12_walker 31 = .ok (.iload 4, 2) := by decide +kernel
theorem dX12_walker_33 : decode cX12_walker 33 = .ok (.invokevirtual 360, 3) := by decide +kernel
theorem dX12_walker_36 : decode cX12_walker 36 = .ok (.ifCond .eq 21, 3) := by decide +kernel
theorem dX12_walker_39 : decode cX12_walker 39 = .ok (.iload 5, 2) := by decide +kernel
theorem dX12_walker_41 : decode cX12_walker 41 = .ok (.invokestatic 331, 3) := by decide +kernel
theorem dX12_walker_44 : decode cX12_walker 44 = .ok (.ifCond .eq 13, 3) := by decide +kernel
theorem dX12_walker_47 : decode cX12_walker 47 = .ok (.aload_n 0, 1) := by decide +kernel
theorem dX12_walker_48 : decode cX12_walker 48 = .ok (.getfield 45, 3) := by decide +kernel
theorem dX12_walker_51 : decode cX12_walker 51 = .ok (.iconst 5, 1) := by decide +kernel
theorem dX12_walker_52 : decode cX12_walker 52 = .ok (.iaload, 1) := by decide +kernel
theorem dX12_walker_53 : decode cX12_walker 53 = .ok (.iconst 4, 1) := by decide +kernel
theorem dX12_walker_54 : decode cX12_walker 54 = .ok (.if_icmp .ne 6, 3) := by decide +kernel
theorem dX12_walker_57 : decode cX12_walker 57 = .ok (.bipush (-2), 2) := by decide +kernel
theorem dX12_walker_59 : decode cX12_walker 59 = .ok (.ireturn, 1) := by decide +kernel
theorem dX12_walker_60 : decode cX12_walker 60 = .ok (.aload_n 0, 1) := by decide +kernel
theorem dX12_walker_61 : decode cX12_walker 61 = .ok (.aload_n 0, 1) := by decide +kernel
theorem dX12_walker_62 : decode cX12_walker 62 = .ok (.getfield 45, 3) := by decide +kernel
theorem dX12_walker_65 : decode cX12_walker 65 = .ok (.iconst 5, 1) := by decide +kernel
theorem dX12_walker_66 : decode cX12_walker 66 = .ok (.iaload, 1) := by decide +kernel
theorem dX12_walker_67 : decode cX12_walker 67 = .ok (.iload_n 1, 1) := by decide +kernel
theorem dX12_walker_68 : decode cX12_walker 68 = .ok (.iload_n 2, 1) := by decide +kernel
theorem dX12_walker_69 : decode cX12_walker 69 = .ok (.iload_n 3, 1) := by decide +kernel
theorem dX12_walker_70 : decode cX12_walker 70 = .ok (.iload 4, 2) := by decide +kernel
theorem dX12_walker_72 : decode cX12_walker 72 = .ok (.iload 5, 2) := by decide +kernel
theorem dX12_walker_74 : decode cX12_walker 74 = .ok (.invokevirtual 363, 3) := by decide +kernel
theorem dX12_walker_77 : decode cX12_walker 77 = .ok (.aload_n 0, 1) := by decide +kernel
theorem dX12_walker_78 : decode cX12_walker 78 = .ok (.getfield 45, 3) := by decide +kernel
theorem dX12_walker_81 : decode cX12_walker 81 = .ok (.iconst 5, 1) := by decide +kernel
theorem dX12_walker_82 : decode cX12_walker 82 = .ok (.dup2, 1) := by decide +kernel
theorem dX12_walker_83 : decode cX12_walker 83 = .ok (.iaload, 1) := by decide +kernel
theorem dX12_walker_84 : decode cX12_walker 84 = .ok (.iconst 1, 1) := by decide +kernel
theorem dX12_walker_85 : decode cX12_walker 85 = .ok (.iadd, 1) := by decide +kernel
theorem dX12_walker_86 : decode cX12_walker 86 = .ok (.iastore, 1) := by decide +kernel
theorem dX12_walker_87 : decode cX12_walker 87 = .ok (.aload_n 0, 1) := by decide +kernel
theorem dX12_walker_88 : decode cX12_walker 88 = .ok (.getfield 45, 3) := by decide +kernel
theorem dX12_walker_91 : decode cX12_walker 91 = .ok (.iconst 5, 1) := by decide +kernel
theorem dX12_walker_92 : decode cX12_walker 92 = .ok (.iaload, 1) := by decide +kernel
theorem dX12_walker_93 : decode cX12_walker 93 = .ok (.iconst 1, 1) := by decide +kernel
theorem dX12_walker_94 : decode cX12_walker 94 = .ok (.isub, 1) := by decide +kernel
theorem dX12_walker_95 : decode cX12_walker 95 = .ok (.ireturn, 1) := by decide +kernel
theorem dX12_setsOut_0 : decode cX12_setsOut 0 = .ok (.sipush 216, 3) := by decide +kernel
theorem dX12_setsOut_3 : decode cX12_setsOut 3 = .ok (.bipush 9, 2) := by decide +kernel
theorem dX12_setsOut_5 : decode cX12_setsOut 5 = .ok (.iload_n 1, 1) := by decide +kernel
theorem dX12_setsOut_6 : decode cX12_setsOut 6 = .ok (.imul, 1) := by decide +kernel
theorem dX12_setsOut_7 : decode cX12_setsOut 7 = .ok (.iadd, 1) := by decide +kernel
theorem dX12_setsOut_8 : decode cX12_setsOut 8 = .ok (.istore 7, 2) := by decide +kernel
theorem dX12_setsOut_10 : decode cX12_setsOut 10 = .ok (.aload_n 0, 1) := by decide +kernel
theorem dX12_setsOut_11 : decode cX12_setsOut 11 = .ok (.getfield 45, 3) := by decide +kernel
theorem dX12_setsOut_14 : decode cX12_setsOut 14 = .ok (.iload 7, 2) := by decide +kernel
theorem dX12_setsOut_16 : decode cX12_setsOut 16 = .ok (.iload_n 2, 1) := by decide +kernel
theorem dX12_setsOut_17 : decode cX12_setsOut 17 = .ok (.iastore, 1) := by decide +kernel
theorem dX12_setsOut_18 : decode cX12_setsOut 18 = .ok (.aload_n 0, 1) := by decide +kernel
theorem dX12_setsOut_19 : decode cX12_setsOut 19 = .ok (.getfield 45, 3) := by decide +kernel
theorem dX12_setsOut_22 : decode cX12_setsOut 22 = .ok (.iload 7, 2) := by decide +kernel
theorem dX12_setsOut_24 : decode cX12_setsOut 24 = .ok (.iconst 1, 1) := by decide +kernel
theorem dX12_setsOut_25 : decode cX12_setsOut 25 = .ok (.iadd, 1) := by decide +kernel
theorem dX12_setsOut_26 : decode cX12_setsOut 26 = .ok (.iload_n 3, 1) := by decide +kernel
theorem dX12_setsOut_27 : decode cX12_setsOut 27 = .ok (.iastore, 1) := by decide +kernel
theorem dX12_setsOut_28 : decode cX12_setsOut 28 = .ok (.aload_n 0, 1) := by decide +kernel
theorem dX12_setsOut_29 : decode cX12_setsOut 29 = .ok (.getfield 45, 3) := by decide +kernel
theorem dX12_setsOut_32 : decode cX12_setsOut 32 = .ok (.iload 7, 2) := by decide +kernel
theorem dX12_setsOut_34 : decode cX12_setsOut 34 = .ok (.iconst 2, 1) := by decide +kernel
theorem dX12_setsOut_35 : decode cX12_setsOut 35 = .ok (.iadd, 1) := by decide +kernel
theorem dX12_setsOut_36 : decode cX12_setsOut 36 = .ok (.iload 4, 2) := by decide +kernel
theorem dX12_setsOut_38 : decode cX12_setsOut 38 = .ok (.iastore, 1) := by decide +kernel
theorem dX12_setsOut_39 : decode cX12_setsOut 39 = .ok (.aload_n 0, 1) := by decide +kernel
theorem dX12_setsOut_40 : decode cX12_setsOut 40 = .ok (.getfield 45, 3) := by decide +kernel
theorem dX12_setsOut_43 : decode cX12_setsOut 43 = .ok (.iload 7, 2) := by decide +kernel
theorem dX12_setsOut_45 : decode cX12_setsOut 45 = .ok (.iconst 3, 1) := by decide +kernel
theorem dX12_setsOut_46 : decode cX12_setsOut 46 = .ok (.iadd, 1) := by decide +kernel
theorem dX12_setsOut_47 : decode cX12_setsOut 47 = .ok (.iload 5, 2) := by decide +kernel
theorem dX12_setsOut_49 : decode cX12_setsOut 49 = .ok (.iastore, 1) := by decide +kernel
theorem dX12_setsOut_50 : decode cX12_setsOut 50 = .ok (.aload_n 0, 1) := by decide +kernel
theorem dX12_setsOut_51 : decode cX12_setsOut 51 = .ok (.getfield 45, 3) := by decide +kernel
theorem dX12_setsOut_54 : decode cX12_setsOut 54 = .ok (.iload 7, 2) := by decide +kernel
theorem dX12_setsOut_56 : decode cX12_setsOut 56 = .ok (.iconst 4, 1) := by decide +kernel
theorem dX12_setsOut_57 : decode cX12_setsOut 57 = .ok (.iadd, 1) := by decide +kernel
theorem dX12_setsOut_58 : decode cX12_setsOut 58 = .ok (.iload 6, 2) := by decide +kernel
theorem dX12_setsOut_60 : decode cX12_setsOut 60 = .ok (.iastore, 1) := by decide +kernel
theorem dX12_setsOut_61 : decode cX12_setsOut 61 = .ok (.aload_n 0, 1) := by decide +kernel
theorem dX12_setsOut_62 : decode cX12_setsOut 62 = .ok (.getfield 45, 3) := by decide +kernel
theorem dX12_setsOut_65 : decode cX12_setsOut 65 = .ok (.iload 7, 2) := by decide +kernel
theorem dX12_setsOut_67 : decode cX12_setsOut 67 = .ok (.iconst 5, 1) := by decide +kernel
theorem dX12_setsOut_68 : decode cX12_setsOut 68 = .ok (.iadd, 1) := by decide +kernel
theorem dX12_setsOut_69 : decode cX12_setsOut 69 = .ok (.iconst 0, 1) := by decide +kernel
theorem dX12_setsOut_70 : decode cX12_setsOut 70 = .ok (.iastore, 1) := by decide +kernel
theorem dX12_setsOut_71 : decode cX12_setsOut 71 = .ok (.aload_n 0, 1) := by decide +kernel
theorem dX12_setsOut_72 : decode cX12_setsOut 72 = .ok (.getfield 45, 3) := by decide +kernel
theorem dX12_setsOut_75 : decode cX12_setsOut 75 = .ok (.iload 7, 2) := by decide +kernel
theorem dX12_setsOut_77 : decode cX12_setsOut 77 = .ok (.bipush 6, 2) := by decide +kernel
theorem dX12_setsOut_79 : decode cX12_setsOut 79 = .ok (.iadd, 1) := by decide +kernel
theorem dX12_setsOut_80 : decode cX12_setsOut 80 = .ok (.iconst 0, 1) := by decide +kernel
theorem dX12_setsOut_81 : decode cX12_setsOut 81 = .ok (.iastore, 1) := by decide +kernel
theorem dX12_setsOut_82 : decode cX12_setsOut 82 = .ok (.aload_n 0, 1) := by decide +kernel
theorem dX12_setsOut_83 : decode cX12_setsOut 83 = .ok (.getfield 45, 3) := by decide +kernel
theorem dX12_setsOut_86 : decode cX12_setsOut 86 = .ok (.iload 7, 2) := by decide +kernel
theorem dX12_setsOut_88 : decode cX12_setsOut 88 = .ok (.bipush 7, 2) := by decide +kernel
theorem dX12_setsOut_90 : decode cX12_setsOut 90 = .ok (.iadd, 1) := by decide +kernel
theorem dX12_setsOut_91 : decode cX12_setsOut 91 = .ok (.iconst (-1), 1) := by decide +kernel
theorem dX12_setsOut_92 : decode cX12_setsOut 92 = .ok (.iastore, 1) := by decide +kernel
theorem dX12_setsOut_93 : decode cX12_setsOut 93 = .ok (.aload_n 0, 1) := by decide +kernel
theorem dX12_setsOut_94 : decode cX12_setsOut 94 = .ok (.getfield 45, 3) := by decide +kernel
theorem dX12_setsOut_97 : decode cX12_setsOut 97 = .ok (.iload 7, 2) := by decide +kernel
theorem dX12_setsOut_99 : decode cX12_setsOut 99 = .ok (.bipush 8, 2) := by decide +kernel
theorem dX12_setsOut_101 : decode cX12_setsOut 101 = .ok (.iadd, 1) := by decide +kernel
theorem dX12_setsOut_102 : decode cX12_setsOut 102 = .ok (.iconst (-1), 1) := by decide +kernel
theorem dX12_setsOut_103 : decode cX12_setsOut 103 = .ok (.iastore, 1) := by decide +kernel
theorem dX12_setsOut_104 : decode cX12_setsOut 104 = .ok (.return_, 1) := by decide +kernel
set_option maxRecDepth 20000 in
theorem ggX12_about_X12_isWalker : GoodIn wsX12_about wsX12_isWalker := goodIn_r _ [6, 7, 15, 16, 17, 18, 19, 20, 21, 22, 23, 24, 25, 26, 27, 28, 29, 30, 31, 32, 33, 34, 35, 36, 37, 38, 39, 40, 41, 42, 43, 44, 45, 46, 47, 48, 49, 50, 51, 52, 53, 54, 55, 56] (by decide +kernel) (by decide +kernel)
set_option maxRecDepth 20000 in
theorem gX12_about_X12_isWalker : GoodIn wsX12_about (wsV RX12 367 RX12 yX12_isWalker wsX12_isWalker) := goodIn_app (goodIn_of _ (by decide +kernel)) ggX12_about_X12_isWalker
set_option maxRecDepth 20000 in
theorem ggX12_about_X12_in : GoodIn wsX12_about wsX12_in := goodIn_r _ [10] (by decide +kernel) (by decide +kernel)
set_option maxRecDepth 20000 in
theorem gX12_about_X12_in : GoodIn wsX12_about (va_wsS RX12 122 yX12_in wsX12_in) := goodIn_app (goodIn_of _ (by decide +kernel)) ggX12_about_X12_in
set_option maxRecDepth 20000 in
theorem ggX12_about_X12_walkerOf : GoodIn wsX12_about wsX12_walkerOf := goodIn_r _ [14, 7, 15, 16, 17, 18, 19, 20, 21, 22, 23, 24, 25, 26, 27, 28, 29, 30, 31, 32, 33, 34, 35, 36, 37, 38, 39, 40, 41, 42, 43, 44, 45, 46, 47, 48, 49, 50, 51, 52, 53, 54, 55, 56] (by decide +kernel) (by decide +kernel)
set_option maxRecDepth 20000 in
theorem gX12_about_X12_walkerOf : GoodIn wsX12_about (wsV RX12 372 RX12 yX12_walkerOf wsX12_walkerOf) := goodIn_app (goodIn_of _ (by decide +kernel)) ggX12_about_X12_walkerOf
theorem dX12_about_0 : decode cX12_about 0 = .ok (.aload_n 0, 1) := by decide +kernel
theorem dX12_about_1 : decode cX12_about 1 = .ok (.iload_n 1, 1) := by decide +kernel
theorem dX12_about_2 : decode cX12_about 2 = .ok (.invokevirtual 367, 3) := by decide +kernel
theorem dX12_about_5 : decode cX12_about 5 = .ok (.ifCond .eq 24, 3) := by decide +kernel
theorem dX12_about_8 : decode cX12_about 8 = .ok (.iload_n 2, 1) := by decide +kernel
theorem dX12_about_9 : decode cX12_about 9 = .ok (.i2l, 1) := by decide +kernel
theorem dX12_about_10 : decode cX12_about 10 = .ok (.lconst 0, 1) := by decide +kernel
theorem dX12_about_11 : decode cX12_about 11 = .ok (.ldc2_w 370, 3) := by decide +kernel
theorem dX12_about_14 : decode cX12_about 14 = .ok (.invokestatic 122, 3) := by decide +kernel
theorem dX12_about_17 : decode cX12_about 17 = .ok (.ifCond .eq 12, 3) := by decide +kernel
theorem dX12_about_20 : decode cX12_about 20 = .ok (.aload_n 0, 1) := by decide +kernel
theorem dX12_about_21 : decode cX12_about 21 = .ok (.iload_n 1, 1) := by decide +kernel
theorem dX12_about_22 : decode cX12_about 22 = .ok (.iload_n 2, 1) := by decide +kernel
theorem dX12_about_23 : decode cX12_about 23 = .ok (.invokevirtual 372, 3) := by decide +kernel
theorem dX12_about_26 : decode cX12_about 26 = .ok (.goto 4, 3) := by decide +kernel
theorem dX12_about_29 : decode cX12_about 29 = .ok (.iconst (-1), 1) := by decide +kernel
theorem dX12_about_30 : decode cX12_about 30 = .ok (.ireturn, 1) := by decide +kernel
set_option maxRecDepth 20000 in
theorem ggX12_cheapOf_X12_streetOf : GoodIn wsX12_cheapOf wsX12_streetOf := goodIn_r _ [5, 6, 7, 8, 9, 10, 11, 12, 13, 14, 15, 16, 17, 18, 19, 20, 21, 22, 23, 24, 25, 26, 27, 28, 29, 30, 31, 32, 33, 34, 35, 36, 37, 38, 39, 40, 41, 42, 43, 44, 45, 46, 47, 48] (by decide +kernel) (by decide +kernel)
set_option maxRecDepth 20000 in
theorem gX12_cheapOf_X12_streetOf : GoodIn wsX12_cheapOf (wsV RX12 300 RX12 yX12_streetOf wsX12_streetOf) := goodIn_app (goodIn_of _ (by decide +kernel)) ggX12_cheapOf_X12_streetOf
theorem dX12_cheapOf_0 : decode cX12_cheapOf 0 = .ok (.iconst 0, 1) := by decide +kernel
theorem dX12_cheapOf_1 : decode cX12_cheapOf 1 = .ok (.istore_n 2, 1) := by decide +kernel
theorem dX12_cheapOf_2 : decode cX12_cheapOf 2 = .ok (.iconst (-1), 1) := by decide +kernel
theorem dX12_cheapOf_3 : decode cX12_cheapOf 3 = .ok (.istore_n 3, 1) := by decide +kernel
theorem dX12_cheapOf_4 : decode cX12_cheapOf 4 = .ok (.iconst 0, 1) := by decide +kernel
theorem dX12_cheapOf_5 : decode cX12_cheapOf 5 = .ok (.istore 4, 2) := by decide +kernel
theorem dX12_cheapOf_7 : decode cX12_cheapOf 7 = .ok (.iload 4, 2) := by decide +kernel
theorem dX12_cheapOf_9 : decode cX12_cheapOf 9 = .ok (.iconst 4, 1) := by decide +kernel
theorem dX12_cheapOf_10 : decode cX12_cheapOf 10 = .ok (.if_icmp .ge 78, 3) := by decide +kernel
theorem dX12_cheapOf_13 : decode cX12_cheapOf 13 = .ok (.iconst 0, 1) := by decide +kernel
theorem dX12_cheapOf_14 : decode cX12_cheapOf 14 = .ok (.istore 5, 2) := by decide +kernel
theorem dX12_cheapOf_16 : decode cX12_cheapOf 16 = .ok (.iconst 0, 1) := by decide +kernel
theorem dX12_cheapOf_17 : decode cX12_cheapOf 17 = .ok (.istore 6, 2) := by decide +kernel
theorem dX12_cheapOf_19 : decode cX12_cheapOf 19 = .ok (.iload 6, 2) := by decide +kernel
theorem dX12_cheapOf_21 : decode cX12_cheapOf 21 = .ok (.bipush 7, 2) := by decide +kernel
theorem dX12_cheapOf_23 : decode cX12_cheapOf 23 = .ok (.if_icmp .ge 33, 3) := by decide +kernel
theorem dX12_cheapOf_26 : decode cX12_cheapOf 26 = .ok (.iload 5, 2) := by decide +kernel
theorem dX12_cheapOf_28 : decode cX12_cheapOf 28 = .ok (.aload_n 0, 1) := by decide +kernel
theorem dX12_cheapOf_29 : decode cX12_cheapOf 29 = .ok (.iload_n 1, 1) := by decide +kernel
theorem dX12_cheapOf_30 : decode cX12_cheapOf 30 = .ok (.iconst 3, 1) := by decide +kernel
theorem dX12_cheapOf_31 : decode cX12_cheapOf 31 = .ok (.iload 6, 2) := by decide +kernel
theorem dX12_cheapOf_33 : decode cX12_cheapOf 33 = .ok (.iadd, 1) := by decide +kernel
theorem dX12_cheapOf_34 : decode cX12_cheapOf 34 = .ok (.invokevirtual 300, 3) := by decide +kernel
theorem dX12_cheapOf_37 : decode cX12_cheapOf 37 = .ok (.iload 4, 2) := by decide +kernel
theorem dX12_cheapOf_39 : decode cX12_cheapOf 39 = .ok (.if_icmp .ne 7, 3) := by decide +kernel
theorem dX12_cheapOf_42 : decode cX12_cheapOf 42 = .ok (.iconst 1, 1) := by decide +kernel
theorem dX12_cheapOf_43 : decode cX12_cheapOf 43 = .ok (.goto 4, 3) := by decide +kernel
theorem dX12_cheapOf_46 : decode cX12_cheapOf 46 = .ok (.iconst 0, 1) := by decide +kernel
theorem dX12_cheapOf_47 : decode cX12_cheapOf 47 = .ok (.iadd, 1) := by decide +kernel
theorem dX12_cheapOf_48 : decode cX12_cheapOf 48 = .ok (.istore 5, 2) := by decide +kernel
theorem dX12_cheapOf_50 : decode cX12_cheapOf 50 = .ok (.iinc 6 1, 3) := by decide +kernel
theorem dX12_cheapOf_53 : decode cX12_cheapOf 53 = .ok (.goto (-34), 3) := by decide +kernel
theorem dX12_cheapOf_56 : decode cX12_cheapOf 56 = .ok (.iload 5, 2) := by decide +kernel
theorem dX12_cheapOf_58 : decode cX12_cheapOf 58 = .ok (.iload_n 3, 1) := by decide +kernel
theorem dX12_cheapOf_59 : decode cX12_cheapOf 59 = .ok (.if_icmp .le 8, 3) := by decide +kernel
theorem dX12_cheapOf_62 : decode cX12_cheapOf 62 = .ok (.iload 4, 2) := by decide +kernel
theorem dX12_cheapOf_64 : decode cX12_cheapOf 64 = .ok (.goto 4, 3) := by decide +kernel
theorem dX12_cheapOf_67 : decode cX12_cheapOf 67 = .ok (.iload_n 2, 1) := by decide +kernel
theorem dX12_cheapOf_68 : decode cX12_cheapOf 68 = .ok (.istore_n 2, 1) := by decide +kernel
theorem dX12_cheapOf_69 : decode cX12_cheapOf 69 = .ok (.iload 5, 2) := by decide +kernel
theorem dX12_cheapOf_71 : decode cX12_cheapOf 71 = .ok (.iload_n 3, 1) := by decide +kernel
theorem dX12_cheapOf_72 : decode cX12_cheapOf 72 = .ok (.if_icmp .le 8, 3) := by decide +kernel
theorem dX12_cheapOf_75 : decode cX12_cheapOf 75 = .ok (.iload 5, 2) := by decide +kernel
theorem dX12_cheapOf_77 : decode cX12_cheapOf 77 = .ok (.goto 4, 3) := by decide +kernel
theorem dX12_cheapOf_80 : decode cX12_cheapOf 80 = .ok (.iload_n 3, 1) := by decide +kernel
theorem dX12_cheapOf_81 : decode cX12_cheapOf 81 = .ok (.istore_n 3, 1) := by decide +kernel
theorem dX12_cheapOf_82 : decode cX12_cheapOf 82 = .ok (.iinc 4 1, 3) := by decide +kernel
theorem dX12_cheapOf_85 : decode cX12_cheapOf 85 = .ok (.goto (-78), 3) := by decide +kernel
theorem dX12_cheapOf_88 : decode cX12_cheapOf 88 = .ok (.iload_n 2, 1) := by decide +kernel
theorem dX12_cheapOf_89 : decode cX12_cheapOf 89 = .ok (.ireturn, 1) := by decide +kernel
set_option maxRecDepth 20000 in
theorem ggX12_cheap_X12_isStreet : GoodIn wsX12_cheap wsX12_isStreet := goodIn_r _ [5, 6, 15, 16, 17, 18, 19, 20, 21, 22, 23, 24, 25, 26, 27, 28, 29, 30, 31, 32, 33, 34, 35, 36, 37, 38, 39, 40, 41, 42, 43, 44, 45, 46, 47, 48, 49, 50, 51, 52, 53, 54, 55, 56] (by decide +kernel) (by decide +kernel)
set_option maxRecDepth 20000 in
theorem gX12_cheap_X12_isStreet : GoodIn wsX12_cheap (wsV RX12 323 RX12 yX12_isStreet wsX12_isStreet) := goodIn_app (goodIn_of _ (by decide +kernel)) ggX12_cheap_X12_isStreet
set_option maxRecDepth 20000 in
theorem ggX12_cheap_X12_cheapOf : GoodIn wsX12_cheap wsX12_cheapOf := goodIn_r _ [10, 11, 12, 13, 4, 14, 6, 15, 16, 17, 18, 19, 20, 21, 22, 23, 24, 25, 26, 27, 28, 29, 30, 31, 32, 33, 34, 35, 36, 37, 38, 39, 40, 41, 42, 43, 44, 45, 46, 47, 48, 49, 50, 51, 52, 53, 54, 55, 56] (by decide +kernel) (by decide +kernel)
set_option maxRecDepth 20000 in
theorem gX12_cheap_X12_cheapOf : GoodIn wsX12_cheap (wsV RX12 465 RX12 yX12_cheapOf wsX12_cheapOf) := goodIn_app (goodIn_of _ (by decide +kernel)) ggX12_cheap_X12_cheapOf
theorem dX12_cheap_0 : decode cX12_cheap 0 = .ok (.aload_n 0, 1) := by decide +kernel
theorem dX12_cheap_1 : decode cX12_cheap 1 = .ok (.iload_n 1, 1) := by decide +kernel
theorem dX12_cheap_2 : decode cX12_cheap 2 = .ok (.invokevirtual 323, 3) := by decide +kernel
theorem dX12_cheap_5 : decode cX12_cheap 5 = .ok (.ifCond .eq 11, 3) := by decide +kernel
theorem dX12_cheap_8 : decode cX12_cheap 8 = .ok (.aload_n 0, 1) := by decide +kernel
theorem dX12_cheap_9 : decode cX12_cheap 9 = .ok (.iload_n 1, 1) := by decide +kernel
theorem dX12_cheap_10 : decode cX12_cheap 10 = .ok (.invokevirtual 465, 3) := by decide +kernel
theorem dX12_cheap_13 : decode cX12_cheap 13 = .ok (.goto 4, 3) := by decide +kernel
theorem dX12_cheap_16 : decode cX12_cheap 16 = .ok (.iconst (-1), 1) := by decide +kernel
theorem dX12_cheap_17 : decode cX12_cheap 17 = .ok (.ireturn, 1) := by decide +kernel
set_option maxRecDepth 20000 in
theorem ggX12_wrong_X12_isTown : GoodIn wsX12_wrong wsX12_isTown := goodIn_r _ [7, 2, 19, 20, 21, 22, 23, 24, 25, 26, 27, 28, 29, 30, 31, 32, 33, 34, 35, 36, 37, 38, 39, 40, 41, 42, 43, 44, 45, 46, 47, 48, 49, 50, 51, 52, 53, 54, 55, 56, 57, 58, 59, 60] (by decide +kernel) (by decide +kernel)
set_option maxRecDepth 20000 in
theorem gX12_wrong_X12_isTown : GoodIn wsX12_wrong (wsV RX12 337 RX12 yX12_isTown wsX12_isTown) := goodIn_app (goodIn_of _ (by decide +kernel)) ggX12_wrong_X12_isTown
set_option maxRecDepth 20000 in
theorem ggX12_wrong_X12_in : GoodIn wsX12_wrong wsX12_in := goodIn_r _ [10] (by decide +kernel) (by decide +kernel)
set_option maxRecDepth 20000 in
theorem gX12_wrong_X12_in : GoodIn wsX12_wrong (va_wsS RX12 122 yX12_in wsX12_in) := goodIn_app (goodIn_of _ (by decide +kernel)) ggX12_wrong_X12_in
set_option maxRecDepth 20000 in
theorem ggX12_wrong_X12_streetOf : GoodIn wsX12_wrong wsX12_streetOf := goodIn_r _ [14, 2, 19, 20, 21, 22, 23, 24, 25, 26, 27, 28, 29, 30, 31, 32, 33, 34, 35, 36, 37, 38, 39, 40, 41, 42, 43, 44, 45, 46, 47, 48, 49, 50, 51, 52, 53, 54, 55, 56, 57, 58, 59, 60] (by decide +kernel) (by decide +kernel)
set_option maxRecDepth 20000 in
theorem gX12_wrong_X12_streetOf : GoodIn wsX12_wrong (wsV RX12 300 RX12 yX12_streetOf wsX12_streetOf) := goodIn_app (goodIn_of _ (by decide +kernel)) ggX12_wrong_X12_streetOf
set_option maxRecDepth 20000 in
theorem ggX12_wrong_X12_cheapOf : GoodIn wsX12_wrong wsX12_cheapOf := goodIn_r _ [18, 11, 12, 13, 6, 14, 2, 19, 20, 21, 22, 23, 24, 25, 26, 27, 28, 29, 30, 31, 32, 33, 34, 35, 36, 37, 38, 39, 40, 41, 42, 43, 44, 45, 46, 47, 48, 49, 50, 51, 52, 53, 54, 55, 56, 57, 58, 59, 60] (by decide +kernel) (by decide +kernel)
set_option maxRecDepth 20000 in
theorem gX12_wrong_X12_cheapOf : GoodIn wsX12_wrong (wsV RX12 465 RX12 yX12_cheapOf wsX12_cheapOf) := goodIn_app (goodIn_of _ (by decide +kernel)) ggX12_wrong_X12_cheapOf
theorem dX12_wrong_0 : decode cX12_wrong 0 = .ok (.aload_n 0, 1) := by decide +kernel
theorem dX12_wrong_1 : decode cX12_wrong 1 = .ok (.invokevirtual 337, 3) := by decide +kernel
theorem dX12_wrong_4 : decode cX12_wrong 4 = .ok (.ifCond .eq 15, 3) := by decide +kernel
theorem dX12_wrong_7 : decode cX12_wrong 7 = .ok (.iload_n 1, 1) := by decide +kernel
theorem dX12_wrong_8 : decode cX12_wrong 8 = .ok (.i2l, 1) := by decide +kernel
theorem dX12_wrong_9 : decode cX12_wrong 9 = .ok (.lconst 0, 1) := by decide +kernel
theorem dX12_wrong_10 : decode cX12_wrong 10 = .ok (.ldc2_w 370, 3) := by decide +kernel
theorem dX12_wrong_13 : decode cX12_wrong 13 = .ok (.invokestatic 122, 3) := by decide +kernel
theorem dX12_wrong_16 : decode cX12_wrong 16 = .ok (.ifCond .ne 5, 3) := by decide +kernel
theorem dX12_wrong_19 : decode cX12_wrong 19 = .ok (.iconst (-1), 1) := by decide +kernel
theorem dX12_wrong_20 : decode cX12_wrong 20 = .ok (.ireturn, 1) := by decide +kernel
theorem dX12_wrong_21 : decode cX12_wrong 21 = .ok (.iconst 0, 1) := by decide +kernel
theorem dX12_wrong_22 : decode cX12_wrong 22 = .ok (.istore_n 2, 1) := by decide +kernel
theorem dX12_wrong_23 : decode cX12_wrong 23 = .ok (.iconst 0, 1) := by decide +kernel
theorem dX12_wrong_24 : decode cX12_wrong 24 = .ok (.istore_n 3, 1) := by decide +kernel
theorem dX12_wrong_25 : decode cX12_wrong 25 = .ok (.iload_n 3, 1) := by decide +kernel
theorem dX12_wrong_26 : decode cX12_wrong 26 = .ok (.aload_n 0, 1) := by decide +kernel
theorem dX12_wrong_27 : decode cX12_wrong 27 = .ok (.getfield 45, 3) := by decide +kernel
theorem dX12_wrong_30 : decode cX12_wrong 30 = .ok (.iconst 1, 1) := by decide +kernel
theorem dX12_wrong_31 : decode cX12_wrong 31 = .ok (.iaload, 1) := by decide +kernel
theorem dX12_wrong_32 : decode cX12_wrong 32 = .ok (.if_icmp .ge 62, 3) := by decide +kernel
theorem dX12_wrong_35 : decode cX12_wrong 35 = .ok (.iconst 0, 1) := by decide +kernel
theorem dX12_wrong_36 : decode cX12_wrong 36 = .ok (.istore 4, 2) := by decide +kernel
theorem dX12_wrong_38 : decode cX12_wrong 38 = .ok (.iload 4, 2) := by decide +kernel
theorem dX12_wrong_40 : decode cX12_wrong 40 = .ok (.bipush 7, 2) := by decide +kernel
theorem dX12_wrong_42 : decode cX12_wrong 42 = .ok (.if_icmp .ge 46, 3) := by decide +kernel
theorem dX12_wrong_45 : decode cX12_wrong 45 = .ok (.iload_n 2, 1) := by decide +kernel
theorem dX12_wrong_46 : decode cX12_wrong 46 = .ok (.iload_n 1, 1) := by decide +kernel
theorem dX12_wrong_47 : decode cX12_wrong 47 = .ok (.bipush 7, 2) := by decide +kernel
theorem dX12_wrong_49 : decode cX12_wrong 49 = .ok (.if_icmp .eq 9, 3) := by decide +kernel
theorem dX12_wrong_52 : decode cX12_wrong 52 = .ok (.iload_n 1, 1) := by decide +kernel
theorem dX12_wrong_53 : decode cX12_wrong 53 = .ok (.iload 4, 2) := by decide +kernel
theorem dX12_wrong_55 : decode cX12_wrong 55 = .ok (.if_icmp .ne 24, 3) := by decide +kernel
theorem dX12_wrong_58 : decode cX12_wrong 58 = .ok (.aload_n 0, 1) := by decide +kernel
theorem dX12_wrong_59 : decode cX12_wrong 59 = .ok (.iload_n 3, 1) := by decide +kernel
theorem dX12_wrong_60 : decode cX12_wrong 60 = .ok (.iconst 3, 1) := by decide +kernel
theorem dX12_wrong_61 : decode cX12_wrong 61 = .ok (.iload 4, 2) := by decide +kernel
theorem dX12_wrong_63 : decode cX12_wrong 63 = .ok (.iadd, 1) := by decide +kernel
theorem dX12_wrong_64 : decode cX12_wrong 64 = .ok (.invokevirtual 300, 3) := by decide +kernel
theorem dX12_wrong_67 : decode cX12_wrong 67 = .ok (.aload_n 0, 1) := by decide +kernel
theorem dX12_wrong_68 : decode cX12_wrong 68 = .ok (.iload_n 3, 1) := by decide +kernel
theorem dX12_wrong_69 : decode cX12_wrong 69 = .ok (.invokevirtual 465, 3) := by decide +kernel
theorem dX12_wrong_72 : decode cX12_wrong 72 = .ok (.if_icmp .eq 7, 3) := by decide +kernel
theorem dX12_wrong_75 : decode cX12_wrong 75 = .ok (.iconst 1, 1) := by decide +kernel
theorem dX12_wrong_76 : decode cX12_wrong 76 = .ok (.goto 4, 3) := by decide +kernel
theorem dX12_wrong_79 : decode cX12_wrong 79 = .ok (.iconst 0, 1) := by decide +kernel
theorem dX12_wrong_80 : decode cX12_wrong 80 = .ok (.iadd, 1) := by decide +kernel
theorem dX12_wrong_81 : decode cX12_wrong 81 = .ok (.istore_n 2, 1) := by decide +kernel
theorem dX12_wrong_82 : decode cX12_wrong 82 = .ok (.iinc 4 1, 3) := by decide +kernel
theorem dX12_wrong_85 : decode cX12_wrong 85 = .ok (.goto (-47), 3) := by decide +kernel
theorem dX12_wrong_88 : decode cX12_wrong 88 = .ok (.iinc 3 1, 3) := by decide +kernel
theorem dX12_wrong_91 : decode cX12_wrong 91 = .ok (.goto (-66), 3) := by decide +kernel
theorem dX12_wrong_94 : decode cX12_wrong 94 = .ok (.iload_n 2, 1) := by decide +kernel
theorem dX12_wrong_95 : decode cX12_wrong 95 = .ok (.ireturn, 1) := by decide +kernel
set_option maxRecDepth 20000 in
theorem ggX12_errand_X12_isCorner : GoodIn wsX12_errand wsX12_isCorner := goodIn_r _ [6, 1, 7, 8, 9, 10, 11, 12, 13, 14, 15, 16, 17, 18, 19, 20, 21, 22, 23, 24, 25, 26, 27, 28, 29, 30, 31, 32, 33, 34, 35, 36, 37, 38, 39, 40, 41, 42, 43, 44, 45, 46, 47, 48] (by decide +kernel) (by decide +kernel)
set_option maxRecDepth 20000 in
theorem gX12_errand_X12_isCorner : GoodIn wsX12_errand (wsV RX12 328 RX12 yX12_isCorner wsX12_isCorner) := goodIn_app (goodIn_of _ (by decide +kernel)) ggX12_errand_X12_isCorner
theorem dX12_errand_0 : decode cX12_errand 0 = .ok (.iload_n 1, 1) := by decide +kernel
theorem dX12_errand_1 : decode cX12_errand 1 = .ok (.iconst (-1), 1) := by decide +kernel
theorem dX12_errand_2 : decode cX12_errand 2 = .ok (.if_icmp .ne 13, 3) := by decide +kernel
theorem dX12_errand_5 : decode cX12_errand 5 = .ok (.aload_n 0, 1) := by decide +kernel
theorem dX12_errand_6 : decode cX12_errand 6 = .ok (.getfield 45, 3) := by decide +kernel
theorem dX12_errand_9 : decode cX12_errand 9 = .ok (.bipush 6, 2) := by decide +kernel
theorem dX12_errand_11 : decode cX12_errand 11 = .ok (.iconst 0, 1) := by decide +kernel
theorem dX12_errand_12 : decode cX12_errand 12 = .ok (.iastore, 1) := by decide +kernel
theorem dX12_errand_13 : decode cX12_errand 13 = .ok (.iconst 0, 1) := by decide +kernel
theorem dX12_errand_14 : decode cX12_errand 14 = .ok (.ireturn, 1) := by decide +kernel
theorem dX12_errand_15 : decode cX12_errand 15 = .ok (.aload_n 0, 1) := by decide +kernel
theorem dX12_errand_16 : decode cX12_errand 16 = .ok (.iload_n 1, 1) := by decide +kernel
theorem dX12_errand_17 : decode cX12_errand 17 = .ok (.invokevirtual 328, 3) := by decide +kernel
theorem dX12_errand_20 : decode cX12_errand 20 = .ok (.ifCond .eq 28, 3) := by decide +kernel
theorem dX12_errand_23 : decode cX12_errand 23 = .ok (.aload_n 0, 1) := by decide +kernel
theorem dX12_errand_24 : decode cX12_errand 24 = .ok (.iload_n 2, 1) := by decide +kernel
theorem dX12_errand_25 : decode cX12_errand 25 = .ok (.invokevirtual 328, 3) := by decide +kernel
theorem dX12_errand_28 : decode cX12_errand 28 = .ok (.ifCond .eq 20, 3) := by decide +kernel
theorem dX12_errand_31 : decode cX12_errand 31 = .ok (.iload_n 1, 1) := by decide +kernel
theorem dX12_errand_32 : decode cX12_errand 32 = .ok (.iload_n 2, 1) := by decide +kernel
theorem dX12_errand_33 : decode cX12_errand 33 = .ok (.if_icmp .eq 15, 3) := by decide +kernel
theorem dX12_errand_36 : decode cX12_errand 36 = .ok (.aload_n 0, 1) := by decide +kernel
theorem dX12_errand_37 : decode cX12_errand 37 = .ok (.getfield 45, 3) := by decide +kernel
theorem dX12_errand_40 : decode cX12_errand 40 = .ok (.bipush 6, 2) := by decide +kernel
theorem dX12_errand_42 : decode cX12_errand 42 = .ok (.iaload, 1) := by decide +kernel
theorem dX12_errand_43 : decode cX12_errand 43 = .ok (.bipush 6, 2) := by decide +kernel
theorem dX12_errand_45 : decode cX12_errand 45 = .ok (.if_icmp .ne 6, 3) := by decide +kernel
theorem dX12_errand_48 : decode cX12_errand 48 = .ok (.bipush (-2), 2) := by decide +kernel
theorem dX12_errand_50 : decode cX12_errand 50 = .ok (.ireturn, 1) := by decide +kernel
theorem dX12_errand_51 : decode cX12_errand 51 = .ok (.aload_n 0, 1) := by decide +kernel
theorem dX12_errand_52 : decode cX12_errand 52 = .ok (.getfield 45, 3) := by decide +kernel
theorem dX12_errand_55 : decode cX12_errand 55 = .ok (.sipush 252, 3) := by decide +kernel
theorem dX12_errand_58 : decode cX12_errand 58 = .ok (.iconst 2, 1) := by decide +kernel
theorem dX12_errand_59 : decode cX12_errand 59 = .ok (.aload_n 0, 1) := by decide +kernel
theorem dX12_errand_60 : decode cX12_errand 60 = .ok (.getfield 45, 3) := by decide +kernel
theorem dX12_errand_63 : decode cX12_errand 63 = .ok (.bipush 6, 2) := by decide +kernel
theorem dX12_errand_65 : decode cX12_errand 65 = .ok (.iaload, 1) := by decide +kernel
theorem dX12_errand_66 : decode cX12_errand 66 = .ok (.imul, 1) := by decide +kernel
theorem dX12_errand_67 : decode cX12_errand 67 = .ok (.iadd, 1) := by decide +kernel
theorem dX12_errand_68 : decode cX12_errand 68 = .ok (.iload_n 1, 1) := by decide +kernel
theorem dX12_errand_69 : decode cX12_errand 69 = .ok (.iastore, 1) := by decide +kernel
theorem dX12_errand_70 : decode cX12_errand 70 = .ok (.aload_n 0, 1) := by decide +kernel
theorem dX12_errand_71 : decode cX12_errand 71 = .ok (.getfield 45, 3) := by decide +kernel
theorem dX12_errand_74 : decode cX12_errand 74 = .ok (.sipush 252, 3) := by decide +kernel
theorem dX12_errand_77 : decode cX12_errand 77 = .ok (.iconst 2, 1) := by decide +kernel
theorem dX12_errand_78 : decode cX12_errand 78 = .ok (.aload_n 0, 1) := by decide +kernel
theorem dX12_errand_79 : decode cX12_errand 79 = .ok (.getfield 45, 3) := by decide +kernel
theorem dX12_errand_82 : decode cX12_errand 82 = .ok (.bipush 6, 2) := by decide +kernel
theorem dX12_errand_84 : decode cX12_errand 84 = .ok (.iaload, 1) := by decide +kernel
theorem dX12_errand_85 : decode cX12_errand 85 = .ok (.imul, 1) := by decide +kernel
theorem dX12_errand_86 : decode cX12_errand 86 = .ok (.iadd, 1) := by decide +kernel
theorem dX12_errand_87 : decode cX12_errand 87 = .ok (.iconst 1, 1) := by decide +kernel
theorem dX12_errand_88 : decode cX12_errand 88 = .ok (.iadd, 1) := by decide +kernel
theorem dX12_errand_89 : decode cX12_errand 89 = .ok (.iload_n 2, 1) := by decide +kernel
theorem dX12_errand_90 : decode cX12_errand 90 = .ok (.iastore, 1) := by decide +kernel
theorem dX12_errand_91 : decode cX12_errand 91 = .ok (.aload_n 0, 1) := by decide +kernel
theorem dX12_errand_92 : decode cX12_errand 92 = .ok (.getfield 45, 3) := by decide +kernel
theorem dX12_errand_95 : decode cX12_errand 95 = .ok (.bipush 6, 2) := by decide +kernel
theorem dX12_errand_97 : decode cX12_errand 97 = .ok (.dup2, 1) := by decide +kernel
theorem dX12_errand_98 : decode cX12_errand 98 = .ok (.iaload, 1) := by decide +kernel
theorem dX12_errand_99 : decode cX12_errand 99 = .ok (.iconst 1, 1) := by decide +kernel
theorem dX12_errand_100 : decode cX12_errand 100 = .ok (.iadd, 1) := by decide +kernel
theorem dX12_errand_101 : decode cX12_errand 101 = .ok (.iastore, 1) := by decide +kernel
theorem dX12_errand_102 : decode cX12_errand 102 = .ok (.aload_n 0, 1) := by decide +kernel
theorem dX12_errand_103 : decode cX12_errand 103 = .ok (.getfield 45, 3) := by decide +kernel
theorem dX12_errand_106 : decode cX12_errand 106 = .ok (.bipush 6, 2) := by decide +kernel
theorem dX12_errand_108 : decode cX12_errand 108 = .ok (.iaload, 1) := by decide +kernel
theorem dX12_errand_109 : decode cX12_errand 109 = .ok (.ireturn, 1) := by decide +kernel
set_option maxRecDepth 20000 in
theorem ggX12_comesTo_X12_streetOf : GoodIn wsX12_comesTo wsX12_streetOf := goodIn_r _ [6, 1, 10, 11, 12, 13, 14, 15, 16, 17, 18, 19, 20, 21, 22, 23, 24, 25, 26, 27, 28, 29, 30, 31, 32, 33, 34, 35, 36, 37, 38, 39, 40, 41, 42, 43, 44, 45, 46, 47, 48, 49, 50, 51] (by decide +kernel) (by decide +kernel)
set_option maxRecDepth 20000 in
theorem gX12_comesTo_X12_streetOf : GoodIn wsX12_comesTo (wsV RX12 300 RX12 yX12_streetOf wsX12_streetOf) := goodIn_app (goodIn_of _ (by decide +kernel)) ggX12_comesTo_X12_streetOf
set_option maxRecDepth 20000 in
theorem ggX12_comesTo_X12_isOf : GoodIn wsX12_comesTo wsX12_isOf := goodIn_r _ [9] (by decide +kernel) (by decide +kernel)
set_option maxRecDepth 20000 in
theorem gX12_comesTo_X12_isOf : GoodIn wsX12_comesTo (va_wsS RX12 304 yX12_isOf wsX12_isOf) := goodIn_app (goodIn_of _ (by decide +kernel)) ggX12_comesTo_X12_isOf
theorem dX12_comesTo_0 : decode cX12_comesTo 0 = .ok (.iconst 1, 1) := by decide +kernel
theorem dX12_comesTo_1 : decode cX12_comesTo 1 = .ok (.iload_n 3, 1) := by decide +kernel
theorem dX12_comesTo_2 : decode cX12_comesTo 2 = .ok (.ishl, 1) := by decide +kernel
theorem dX12_comesTo_3 : decode cX12_comesTo 3 = .ok (.istore 4, 2) := by decide +kernel
theorem dX12_comesTo_5 : decode cX12_comesTo 5 = .ok (.iconst 0, 1) := by decide +kernel
theorem dX12_comesTo_6 : decode cX12_comesTo 6 = .ok (.istore 5, 2) := by decide +kernel
theorem dX12_comesTo_8 : decode cX12_comesTo 8 = .ok (.iload 4, 2) := by decide +kernel
theorem dX12_comesTo_10 : decode cX12_comesTo 10 = .ok (.iload 5, 2) := by decide +kernel
theorem dX12_comesTo_12 : decode cX12_comesTo 12 = .ok (.if_icmp .eq 104, 3) := by decide +kernel
theorem dX12_comesTo_15 : decode cX12_comesTo 15 = .ok (.iload 4, 2) := by decide +kernel
theorem dX12_comesTo_17 : decode cX12_comesTo 17 = .ok (.istore 5, 2) := by decide +kernel
theorem dX12_comesTo_19 : decode cX12_comesTo 19 = .ok (.iconst 0, 1) := by decide +kernel
theorem dX12_comesTo_20 : decode cX12_comesTo 20 = .ok (.istore 6, 2) := by decide +kernel
theorem dX12_comesTo_22 : decode cX12_comesTo 22 = .ok (.iconst 0, 1) := by decide +kernel
theorem dX12_comesTo_23 : decode cX12_comesTo 23 = .ok (.istore 7, 2) := by decide +kernel
theorem dX12_comesTo_25 : decode cX12_comesTo 25 = .ok (.iload 7, 2) := by decide +kernel
theorem dX12_comesTo_27 : decode cX12_comesTo 27 = .ok (.aload_n 0, 1) := by decide +kernel
theorem dX12_comesTo_28 : decode cX12_comesTo 28 = .ok (.getfield 45, 3) := by decide +kernel
theorem dX12_comesTo_31 : decode cX12_comesTo 31 = .ok (.iconst 1, 1) := by decide +kernel
theorem dX12_comesTo_32 : decode cX12_comesTo 32 = .ok (.iaload, 1) := by decide +kernel
theorem dX12_comesTo_33 : decode cX12_comesTo 33 = .ok (.if_icmp .ge 80, 3) := by decide +kernel
theorem dX12_comesTo_36 : decode cX12_comesTo 36 = .ok (.aload_n 0, 1) := by decide +kernel
theorem dX12_comesTo_37 : decode cX12_comesTo 37 = .ok (.iload 7, 2) := by decide +kernel
theorem dX12_comesTo_39 : decode cX12_comesTo 39 = .ok (.iconst 3, 1) := by decide +kernel
theorem dX12_comesTo_40 : decode cX12_comesTo 40 = .ok (.iload_n 1, 1) := by decide +kernel
theorem dX12_comesTo_41 : decode cX12_comesTo 41 = .ok (.iadd, 1) := by decide +kernel
theorem dX12_comesTo_42 : decode cX12_comesTo 42 = .ok (.invokevirtual 300, 3) := by decide +kernel
theorem dX12_comesTo_45 : decode cX12_comesTo 45 = .ok (.ifCond .ne 6, 3) := by decide +kernel
theorem dX12_comesTo_48 : decode cX12_comesTo 48 = .ok (.goto 59, 3) := by decide +kernel
theorem dX12_comesTo_51 : decode cX12_comesTo 51 = .ok (.iload_n 2, 1) := by decide +kernel
theorem dX12_comesTo_52 : decode cX12_comesTo 52 = .ok (.iload 6, 2) := by decide +kernel
theorem dX12_comesTo_54 : decode cX12_comesTo 54 = .ok (.invokestatic 304, 3) := by decide +kernel
theorem dX12_comesTo_57 : decode cX12_comesTo 57 = .ok (.ifCond .eq 7, 3) := by decide +kernel
theorem dX12_comesTo_60 : decode cX12_comesTo 60 = .ok (.iconst 1, 1) := by decide +kernel
theorem dX12_comesTo_61 : decode cX12_comesTo 61 = .ok (.goto 4, 3) := by decide +kernel
theorem dX12_comesTo_64 : decode cX12_comesTo 64 = .ok (.iconst 0, 1) := by decide +kernel
theorem dX12_comesTo_65 : decode cX12_comesTo 65 = .ok (.istore 8, 2) := by decide +kernel
theorem dX12_comesTo_67 : decode cX12_comesTo 67 = .ok (.iload 4, 2) := by decide +kernel
theorem dX12_comesTo_69 : decode cX12_comesTo 69 = .ok (.iload 4, 2) := by decide +kernel
theorem dX12_comesTo_71 : decode cX12_comesTo 71 = .ok (.aload_n 0, 1) := by decide +kernel
theorem dX12_comesTo_72 : decode cX12_comesTo 72 = .ok (.iload 7, 2) := by decide +kernel
theorem dX12_comesTo_74 : decode cX12_comesTo 74 = .ok (.iload 8, 2) := by decide +kernel
theorem dX12_comesTo_76 : decode cX12_comesTo 76 = .ok (.invokevirtual 300, 3) := by decide +kernel
theorem dX12_comesTo_79 : decode cX12_comesTo 79 = .ok (.invokestatic 304, 3) := by decide +kernel
theorem dX12_comesTo_82 : decode cX12_comesTo 82 = .ok (.ifCond .eq 18, 3) := by decide +kernel
theorem dX12_comesTo_85 : decode cX12_comesTo 85 = .ok (.iconst 1, 1) := by decide +kernel
theorem dX12_comesTo_86 : decode cX12_comesTo 86 = .ok (.aload_n 0, 1) := by decide +kernel
theorem dX12_comesTo_87 : decode cX12_comesTo 87 = .ok (.iload 7, 2) := by decide +kernel
theorem dX12_comesTo_89 : decode cX12_comesTo 89 = .ok (.iconst 1, 1) := by decide +kernel
theorem dX12_comesTo_90 : decode cX12_comesTo 90 = .ok (.iload 8, 2) := by decide +kernel
theorem dX12_comesTo_92 : decode cX12_comesTo 92 = .ok (.isub, 1) := by decide +kernel
theorem dX12_comesTo_93 : decode cX12_comesTo 93 = .ok (.invokevirtual 300, 3) := by decide +kernel
theorem dX12_comesTo_96 : decode cX12_comesTo 96 = .ok (.ishl, 1) := by decide +kernel
theorem dX12_comesTo_97 : decode cX12_comesTo 97 = .ok (.goto 4, 3) := by decide +kernel
theorem dX12_comesTo_100 : decode cX12_comesTo 100 = .ok (.iconst 0, 1) := by decide +kernel
theorem dX12_comesTo_101 : decode cX12_comesTo 101 = .ok (.ior, 1) := by decide +kernel
theorem dX12_comesTo_102 : decode cX12_comesTo 102 = .ok (.istore 4, 2) := by decide +kernel
theorem dX12_comesTo_104 : decode cX12_comesTo 104 = .ok (.iinc 6 1, 3) := by decide +kernel
theorem dX12_comesTo_107 : decode cX12_comesTo 107 = .ok (.iinc 7 1, 3) := by decide +kernel
theorem dX12_comesTo_110 : decode cX12_comesTo 110 = .ok (.goto (-85), 3) := by decide +kernel
theorem dX12_comesTo_113 : decode cX12_comesTo 113 = .ok (.goto (-105), 3) := by decide +kernel
theorem dX12_comesTo_116 : decode cX12_comesTo 116 = .ok (.iload 4, 2) := by decide +kernel
theorem dX12_comesTo_118 : decode cX12_comesTo 118 = .ok (.ireturn, 1) := by decide +kernel
set_option maxRecDepth 20000 in
theorem ggX12_doneBy_X12_comesTo : GoodIn wsX12_doneBy wsX12_comesTo := goodIn_r _ [6, 1, 7, 8, 9, 5, 10, 11, 12, 13, 14, 15, 16, 17, 18, 19, 20, 21, 22, 23, 24, 25, 26, 27, 28, 29, 30, 31, 32, 33, 34, 35, 36, 37, 38, 39, 40, 41, 42, 43, 44, 45, 46, 47, 48, 49, 50, 51, 52, 53, 54, 55] (by decide +kernel) (by decide +kernel)
set_option maxRecDepth 20000 in
theorem gX12_doneBy_X12_comesTo : GoodIn wsX12_doneBy (wsV RX12 468 RX12 yX12_comesTo wsX12_comesTo) := goodIn_app (goodIn_of _ (by decide +kernel)) ggX12_doneBy_X12_comesTo
set_option maxRecDepth 20000 in
theorem ggX12_doneBy_X12_isOf : GoodIn wsX12_doneBy wsX12_isOf := goodIn_r _ [13] (by decide +kernel) (by decide +kernel)
set_option maxRecDepth 20000 in
theorem gX12_doneBy_X12_isOf : GoodIn wsX12_doneBy (va_wsS RX12 304 yX12_isOf wsX12_isOf) := goodIn_app (goodIn_of _ (by decide +kernel)) ggX12_doneBy_X12_isOf
theorem dX12_doneBy_0 : decode cX12_doneBy 0 = .ok (.iconst 0, 1) := by decide +kernel
theorem dX12_doneBy_1 : decode cX12_doneBy 1 = .ok (.istore_n 3, 1) := by decide +kernel
theorem dX12_doneBy_2 : decode cX12_doneBy 2 = .ok (.iconst 0, 1) := by decide +kernel
theorem dX12_doneBy_3 : decode cX12_doneBy 3 = .ok (.istore 4, 2) := by decide +kernel
theorem dX12_doneBy_5 : decode cX12_doneBy 5 = .ok (.iload 4, 2) := by decide +kernel
theorem dX12_doneBy_7 : decode cX12_doneBy 7 = .ok (.aload_n 0, 1) := by decide +kernel
theorem dX12_doneBy_8 : decode cX12_doneBy 8 = .ok (.getfield 45, 3) := by decide +kernel
theorem dX12_doneBy_11 : decode cX12_doneBy 11 = .ok (.bipush 6, 2) := by decide +kernel
theorem dX12_doneBy_13 : decode cX12_doneBy 13 = .ok (.iaload, 1) := by decide +kernel
theorem dX12_doneBy_14 : decode cX12_doneBy 14 = .ok (.if_icmp .ge 60, 3) := by decide +kernel
theorem dX12_doneBy_17 : decode cX12_doneBy 17 = .ok (.iload_n 3, 1) := by decide +kernel
theorem dX12_doneBy_18 : decode cX12_doneBy 18 = .ok (.aload_n 0, 1) := by decide +kernel
theorem dX12_doneBy_19 : decode cX12_doneBy 19 = .ok (.iload_n 1, 1) := by decide +kernel
theorem dX12_doneBy_20 : decode cX12_doneBy 20 = .ok (.iload_n 2, 1) := by decide +kernel
theorem dX12_doneBy_21 : decode cX12_doneBy 21 = .ok (.aload_n 0, 1) := by decide +kernel
theorem dX12_doneBy_22 : decode cX12_doneBy 22 = .ok (.getfield 45, 3) := by decide +kernel
theorem dX12_doneBy_25 : decode cX12_doneBy 25 = .ok (.sipush 252, 3) := by decide +kernel
theorem dX12_doneBy_28 : decode cX12_doneBy 28 = .ok (.iconst 2, 1) := by decide +kernel
theorem dX12_doneBy_29 : decode cX12_doneBy 29 = .ok (.iload 4, 2) := by decide +kernel
theorem dX12_doneBy_31 : decode cX12_doneBy 31 = .ok (.imul, 1) := by decide +kernel
theorem dX12_doneBy_32 : decode cX12_doneBy 32 = .ok (.iadd, 1) := by decide +kernel
theorem dX12_doneBy_33 : decode cX12_doneBy 33 = .ok (.iaload, 1) := by decide +kernel
theorem dX12_doneBy_34 : decode cX12_doneBy 34 = .ok (.invokevirtual 468, 3) := by decide +kernel
theorem dX12_doneBy_37 : decode cX12_doneBy 37 = .ok (.aload_n 0, 1) := by decide +kernel
theorem dX12_doneBy_38 : decode cX12_doneBy 38 = .ok (.getfield 45, 3) := by decide +kernel
theorem dX12_doneBy_41 : decode cX12_doneBy 41 = .ok (.sipush 252, 3) := by decide +kernel
theorem dX12_doneBy_44 : decode cX12_doneBy 44 = .ok (.iconst 2, 1) := by decide +kernel
theorem dX12_doneBy_45 : decode cX12_doneBy 45 = .ok (.iload 4, 2) := by decide +kernel
theorem dX12_doneBy_47 : decode cX12_doneBy 47 = .ok (.imul, 1) := by decide +kernel
theorem dX12_doneBy_48 : decode cX12_doneBy 48 = .ok (.iadd, 1) := by decide +kernel
theorem dX12_doneBy_49 : decode cX12_doneBy 49 = .ok (.iconst 1, 1) := by decide +kernel
theorem dX12_doneBy_50 : decode cX12_doneBy 50 = .ok (.iadd, 1) := by decide +kernel
theorem dX12_doneBy_51 : decode cX12_doneBy 51 = .ok (.iaload, 1) := by decide +kernel
theorem dX12_doneBy_52 : decode cX12_doneBy 52 = .ok (.invokestatic 304, 3) := by decide +kernel
theorem dX12_doneBy_55 : decode cX12_doneBy 55 = .ok (.ifCond .eq 10, 3) := by decide +kernel
theorem dX12_doneBy_58 : decode cX12_doneBy 58 = .ok (.iconst 1, 1) := by decide +kernel
theorem dX12_doneBy_59 : decode cX12_doneBy 59 = .ok (.iload 4, 2) := by decide +kernel
theorem dX12_doneBy_61 : decode cX12_doneBy 61 = .ok (.ishl, 1) := by decide +kernel
theorem dX12_doneBy_62 : decode cX12_doneBy 62 = .ok (.goto 4, 3) := by decide +kernel
theorem dX12_doneBy_65 : decode cX12_doneBy 65 = .ok (.iconst 0, 1) := by decide +kernel
theorem dX12_doneBy_66 : decode cX12_doneBy 66 = .ok (.ior, 1) := by decide +kernel
theorem dX12_doneBy_67 : decode cX12_doneBy 67 = .ok (.istore_n 3, 1) := by decide +kernel
theorem dX12_doneBy_68 : decode cX12_doneBy 68 = .ok (.iinc 4 1, 3) := by decide +kernel
theorem dX12_doneBy_71 : decode cX12_doneBy 71 = .ok (.goto (-66), 3) := by decide +kernel
theorem dX12_doneBy_74 : decode cX12_doneBy 74 = .ok (.iload_n 3, 1) := by decide +kernel
theorem dX12_doneBy_75 : decode cX12_doneBy 75 = .ok (.ireturn, 1) := by decide +kernel
set_option maxRecDepth 20000 in
theorem ggX12_ways_X12_isTown : GoodIn wsX12_ways wsX12_isTown := goodIn_r _ [8, 2, 34, 35, 36, 37, 38, 39, 40, 41, 42, 43, 44, 45, 46, 47, 48, 49, 50, 51, 52, 53, 54, 55, 56, 57, 58, 59, 60, 61, 62, 63, 64, 65, 66, 67, 68, 69, 70, 71, 72, 73, 74, 75] (by decide +kernel) (by decide +kernel)
set_option maxRecDepth 20000 in
theorem gX12_ways_X12_isTown : GoodIn wsX12_ways (wsV RX12 337 RX12 yX12_isTown wsX12_isTown) := goodIn_app (goodIn_of _ (by decide +kernel)) ggX12_ways_X12_isTown
set_option maxRecDepth 20000 in
theorem ggX12_ways_X12_in : GoodIn wsX12_ways wsX12_in := goodIn_r _ [11] (by decide +kernel) (by decide +kernel)
set_option maxRecDepth 20000 in
theorem gX12_ways_X12_in : GoodIn wsX12_ways (va_wsS RX12 122 yX12_in wsX12_in) := goodIn_app (goodIn_of _ (by decide +kernel)) ggX12_ways_X12_in
set_option maxRecDepth 20000 in
theorem ggX12_ways_X12_streetOf : GoodIn wsX12_ways wsX12_streetOf := goodIn_r _ [15, 2, 34, 35, 36, 37, 38, 39, 40, 41, 42, 43, 44, 45, 46, 47, 48, 49, 50, 51, 52, 53, 54, 55, 56, 57, 58, 59, 60, 61, 62, 63, 64, 65, 66, 67, 68, 69, 70, 71, 72, 73, 74, 75] (by decide +kernel) (by decide +kernel)
set_option maxRecDepth 20000 in
theorem gX12_ways_X12_streetOf : GoodIn wsX12_ways (wsV RX12 300 RX12 yX12_streetOf wsX12_streetOf) := goodIn_app (goodIn_of _ (by decide +kernel)) ggX12_ways_X12_streetOf
set_option maxRecDepth 20000 in
theorem ggX12_ways_X12_doneBy : GoodIn wsX12_ways wsX12_doneBy := goodIn_r _ [19, 2, 20, 21, 22, 7, 23, 12, 13, 14, 15, 24, 25, 26, 34, 35, 36, 37, 38, 39, 40, 41, 42, 43, 44, 45, 46, 47, 48, 49, 50, 51, 52, 53, 54, 55, 56, 57, 58, 59, 60, 61, 62, 63, 64, 65, 66, 67, 68, 69, 70, 71, 72, 73, 74, 75] (by decide +kernel) (by decide +kernel)
set_option maxRecDepth 20000 in
theorem gX12_ways_X12_doneBy : GoodIn wsX12_ways (wsV RX12 472 RX12 yX12_doneBy wsX12_doneBy) := goodIn_app (goodIn_of _ (by decide +kernel)) ggX12_ways_X12_doneBy
set_option maxRecDepth 20000 in
theorem ggX12_ways_X12_isClash : GoodIn wsX12_ways wsX12_isClash := goodIn_r _ [30, 3, 34, 35, 36, 37, 38, 39, 40, 41, 42, 43, 44, 45, 46, 47, 48, 49, 50, 51, 52, 53, 54, 55, 56, 57, 58, 59, 60, 61, 62, 63, 64, 65, 66, 67, 68, 69, 70, 71, 72, 73, 74, 75] (by decide +kernel) (by decide +kernel)
set_option maxRecDepth 20000 in
theorem gX12_ways_X12_isClash : GoodIn wsX12_ways (wsV RX12 475 RX12 yX12_isClash wsX12_isClash) := goodIn_app (goodIn_of _ (by decide +kernel)) ggX12_ways_X12_isClash
set_option maxRecDepth 20000 in
theorem ggX12_ways_X12_bits : GoodIn wsX12_ways wsX12_bits := goodIn_r _ [33] (by decide +kernel) (by decide +kernel)
set_option maxRecDepth 20000 in
theorem gX12_ways_X12_bits : GoodIn wsX12_ways (va_wsS RX12 478 yX12_bits wsX12_bits) := goodIn_app (goodIn_of _ (by decide +kernel)) ggX12_ways_X12_bits
theorem dX12_ways_0 : decode cX12_ways 0 = .ok (.aload_n 0, 1) := by decide +kernel
theorem dX12_ways_1 : decode cX12_ways 1 = .ok (.invokevirtual 337, 3) := by decide +kernel
theorem dX12_ways_4 : decode cX12_ways 4 = .ok (.ifCond .eq 25, 3) := by decide +kernel
theorem dX12_ways_7 : decode cX12_ways 7 = .ok (.iload_n 1, 1) := by decide +kernel
theorem dX12_ways_8 : decode cX12_ways 8 = .ok (.i2l, 1) := by decide +kernel
theorem dX12_ways_9 : decode cX12_ways 9 = .ok (.lconst 0, 1) := by decide +kernel
theorem dX12_ways_10 : decode cX12_ways 10 = .ok (.ldc2_w 340, 3) := by decide +kernel
theorem dX12_ways_13 : decode cX12_ways 13 = .ok (.invokestatic 122, 3) := by decide +kernel
theorem dX12_ways_16 : decode cX12_ways 16 = .ok (.ifCond .eq 13, 3) := by decide +kernel
theorem dX12_ways_19 : decode cX12_ways 19 = .ok (.iload_n 2, 1) := by decide +kernel
theorem dX12_ways_20 : decode cX12_ways 20 = .ok (.i2l, 1) := by decide +kernel
theorem dX12_ways_21 : decode cX12_ways 21 = .ok (.lconst 0, 1) := by decide +kernel
theorem dX12_ways_22 : decode cX12_ways 22 = .ok (.lconst 1, 1) := by decide +kernel
theorem dX12_ways_23 : decode cX12_ways 23 = .ok (.invokestatic 122, 3) := by decide +kernel
theorem dX12_ways_26 : decode cX12_ways 26 = .ok (.ifCond .ne 5, 3) := by decide +kernel
theorem dX12_ways_29 : decode cX12_ways 29 = .ok (.iconst (-1), 1) := by decide +kernel
theorem dX12_ways_30 : decode cX12_ways 30 = .ok (.ireturn, 1) := by decide +kernel
theorem dX12_ways_31 : decode cX12_ways 31 = .ok (.iconst 0, 1) := by decide +kernel
theorem dX12_ways_32 : decode cX12_ways 32 = .ok (.istore_n 3, 1) := by decide +kernel
theorem dX12_ways_33 : decode cX12_ways 33 = .ok (.iconst 0, 1) := by decide +kernel
theorem dX12_ways_34 : decode cX12_ways 34 = .ok (.istore 4, 2) := by decide +kernel
theorem dX12_ways_36 : decode cX12_ways 36 = .ok (.iload 4, 2) := by decide +kernel
theorem dX12_ways_38 : decode cX12_ways 38 = .ok (.aload_n 0, 1) := by decide +kernel
theorem dX12_ways_39 : decode cX12_ways 39 = .ok (.getfield 45, 3) := by decide +kernel
theorem dX12_ways_42 : decode cX12_ways 42 = .ok (.iconst 1, 1) := by decide +kernel
theorem dX12_ways_43 : decode cX12_ways 43 = .ok (.iaload, 1) := by decide +kernel
theorem dX12_ways_44 : decode cX12_ways 44 = .ok (.if_icmp .ge 29, 3) := by decide +kernel
theorem dX12_ways_47 : decode cX12_ways 47 = .ok (.iload_n 3, 1) := by decide +kernel
theorem dX12_ways_48 : decode cX12_ways 48 = .ok (.aload_n 0, 1) := by decide +kernel
theorem dX12_ways_49 : decode cX12_ways 49 = .ok (.iload 4, 2) := by decide +kernel
theorem dX12_ways_51 : decode cX12_ways 51 = .ok (.iconst 3, 1) := by decide +kernel
theorem dX12_ways_52 : decode cX12_ways 52 = .ok (.iload_n 1, 1) := by decide +kernel
theorem dX12_ways_53 : decode cX12_ways 53 = .ok (.iadd, 1) := by decide +kernel
theorem dX12_ways_54 : decode cX12_ways 54 = .ok (.invokevirtual 300, 3) := by decide +kernel
theorem dX12_ways_57 : decode cX12_ways 57 = .ok (.ifCond .ne 7, 3) := by decide +kernel
theorem dX12_ways_60 : decode cX12_ways 60 = .ok (.iconst 0, 1) := by decide +kernel
theorem dX12_ways_61 : decode cX12_ways 61 = .ok (.goto 4, 3) := by decide +kernel
theorem dX12_ways_64 : decode cX12_ways 64 = .ok (.iconst 1, 1) := by decide +kernel
theorem dX12_ways_65 : decode cX12_ways 65 = .ok (.iadd, 1) := by decide +kernel
theorem dX12_ways_66 : decode cX12_ways 66 = .ok (.istore_n 3, 1) := by decide +kernel
theorem dX12_ways_67 : decode cX12_ways 67 = .ok (.iinc 4 1, 3) := by decide +kernel
theorem dX12_ways_70 : decode cX12_ways 70 = .ok (.goto (-34), 3) := by decide +kernel
theorem dX12_ways_73 : decode cX12_ways 73 = .ok (.iconst 1, 1) := by decide +kernel
theorem dX12_ways_74 : decode cX12_ways 74 = .ok (.aload_n 0, 1) := by decide +kernel
theorem dX12_ways_75 : decode cX12_ways 75 = .ok (.getfield 45, 3) := by decide +kernel
theorem dX12_ways_78 : decode cX12_ways 78 = .ok (.bipush 6, 2) := by decide +kernel
theorem dX12_ways_80 : decode cX12_ways 80 = .ok (.iaload, 1) := by decide +kernel
theorem dX12_ways_81 : decode cX12_ways 81 = .ok (.ishl, 1) := by decide +kernel
theorem dX12_ways_82 : decode cX12_ways 82 = .ok (.iconst 1, 1) := by decide +kernel
theorem dX12_ways_83 : decode cX12_ways 83 = .ok (.isub, 1) := by decide +kernel
theorem dX12_ways_84 : decode cX12_ways 84 = .ok (.istore 4, 2) := by decide +kernel
theorem dX12_ways_86 : decode cX12_ways 86 = .ok (.iconst 0, 1) := by decide +kernel
theorem dX12_ways_87 : decode cX12_ways 87 = .ok (.istore 5, 2) := by decide +kernel
theorem dX12_ways_89 : decode cX12_ways 89 = .ok (.iload 5, 2) := by decide +kernel
theorem dX12_ways_91 : decode cX12_ways 91 = .ok (.bipush 64, 2) := by decide +kernel
theorem dX12_ways_93 : decode cX12_ways 93 = .ok (.if_icmp .ge 17, 3) := by decide +kernel
theorem dX12_ways_96 : decode cX12_ways 96 = .ok (.aload_n 0, 1) := by decide +kernel
theorem dX12_ways_97 : decode cX12_ways 97 = .ok (.getfield 74, 3) := by decide +kernel
theorem dX12_ways_100 : decode cX12_ways 100 = .ok (.iload 5, 2) := by decide +kernel
theorem dX12_ways_102 : decode cX12_ways 102 = .ok (.iconst 0, 1) := by decide +kernel
theorem dX12_ways_103 : decode cX12_ways 103 = .ok (.bastore, 1) := by decide +kernel
theorem dX12_ways_104 : decode cX12_ways 104 = .ok (.iinc 5 1, 3) := by decide +kernel
theorem dX12_ways_107 : decode cX12_ways 107 = .ok (.goto (-18), 3) := by decide +kernel
theorem dX12_ways_110 : decode cX12_ways 110 = .ok (.iconst 0, 1) := by decide +kernel
theorem dX12_ways_111 : decode cX12_ways 111 = .ok (.istore 5, 2) := by decide +kernel
theorem dX12_ways_113 : decode cX12_ways 113 = .ok (.iload 5, 2) := by decide +kernel
theorem dX12_ways_115 : decode cX12_ways 115 = .ok (.iconst 1, 1) := by decide +kernel
theorem dX12_ways_116 : decode cX12_ways 116 = .ok (.iload_n 3, 1) := by decide +kernel
theorem dX12_ways_117 : decode cX12_ways 117 = .ok (.ishl, 1) := by decide +kernel
theorem dX12_ways_118 : decode cX12_ways 118 = .ok (.if_icmp .ge 44, 3) := by decide +kernel
theorem dX12_ways_121 : decode cX12_ways 121 = .ok (.aload_n 0, 1) := by decide +kernel
theorem dX12_ways_122 : decode cX12_ways 122 = .ok (.iload_n 1, 1) := by decide +kernel
theorem dX12_ways_123 : decode cX12_ways 123 = .ok (.iload 5, 2) := by decide +kernel
theorem dX12_ways_125 : decode cX12_ways 125 = .ok (.invokevirtual 472, 3) := by decide +kernel
theorem dX12_ways_128 : decode cX12_ways 128 = .ok (.istore 6, 2) := by decide +kernel
theorem dX12_ways_130 : decode cX12_ways 130 = .ok (.iload 6, 2) := by decide +kernel
theorem dX12_ways_132 : decode cX12_ways 132 = .ok (.iload 4, 2) := by decide +kernel
theorem dX12_ways_134 : decode cX12_ways 134 = .ok (.if_icmp .ne 14, 3) := by decide +kernel
theorem dX12_ways_137 : decode cX12_ways 137 = .ok (.iload_n 2, 1) := by decide +kernel
theorem dX12_ways_138 : decode cX12_ways 138 = .ok (.ifCond .ne 8, 3) := by decide +kernel
theorem dX12_ways_141 : decode cX12_ways 141 = .ok (.iload 5, 2) := by decide +kernel
theorem dX12_ways_143 : decode cX12_ways 143 = .ok (.goto 4, 3) := by decide +kernel
theorem dX12_ways_146 : decode cX12_ways 146 = .ok (.iconst 0, 1) := by decide +kernel
theorem dX12_ways_147 : decode cX12_ways 147 = .ok (.ireturn, 1) := by decide +kernel
theorem dX12_ways_148 : decode cX12_ways 148 = .ok (.aload_n 0, 1) := by decide +kernel
theorem dX12_ways_149 : decode cX12_ways 149 = .ok (.getfield 74, 3) := by decide +kernel
theorem dX12_ways_152 : decode cX12_ways 152 = .ok (.iload 6, 2) := by decide +kernel
theorem dX12_ways_154 : decode cX12_ways 154 = .ok (.iconst 1, 1) := by decide +kernel
theorem dX12_ways_155 : decode cX12_ways 155 = .ok (.bastore, 1) := by decide +kernel
theorem dX12_ways_156 : decode cX12_ways 156 = .ok (.iinc 5 1, 3) := by decide +kernel
theorem dX12_ways_159 : decode cX12_ways 159 = .ok (.goto (-46), 3) := by decide +kernel
theorem dX12_ways_162 : decode cX12_ways 162 = .ok (.iload_n 2, 1) := by decide +kernel
theorem dX12_ways_163 : decode cX12_ways 163 = .ok (.ifCond .ne 6, 3) := by decide +kernel
theorem dX12_ways_166 : decode cX12_ways 166 = .ok (.bipush (-2), 2) := by decide +kernel
theorem dX12_ways_168 : decode cX12_ways 168 = .ok (.ireturn, 1) := by decide +kernel
theorem dX12_ways_169 : decode cX12_ways 169 = .ok (.iload 4, 2) := by decide +kernel
theorem dX12_ways_171 : decode cX12_ways 171 = .ok (.istore 5, 2) := by decide +kernel
theorem dX12_ways_173 : decode cX12_ways 173 = .ok (.iload 4, 2) := by decide +kernel
theorem dX12_ways_175 : decode cX12_ways 175 = .ok (.istore 6, 2) := by decide +kernel
theorem dX12_ways_177 : decode cX12_ways 177 = .ok (.iload 6, 2) := by decide +kernel
theorem dX12_ways_179 : decode cX12_ways 179 = .ok (.ifCond .le 37, 3) := by decide +kernel
theorem dX12_ways_182 : decode cX12_ways 182 = .ok (.aload_n 0, 1) := by decide +kernel
theorem dX12_ways_183 : decode cX12_ways 183 = .ok (.iload 6, 2) := by decide +kernel
theorem dX12_ways_185 : decode cX12_ways 185 = .ok (.iload 4, 2) := by decide +kernel
theorem dX12_ways_187 : decode cX12_ways 187 = .ok (.invokevirtual 475, 3) := by decide +kernel
theorem dX12_ways_190 : decode cX12_ways 190 = .ok (.ifCond .eq 20, 3) := by decide +kernel
theorem dX12_ways_193 : decode cX12_ways 193 = .ok (.iload 6, 2) := by decide +kernel
theorem dX12_ways_195 : decode cX12_ways 195 = .ok (.invokestatic 478, 3) := by decide +kernel
theorem dX12_ways_198 : decode cX12_ways 198 = .ok (.iload 5, 2) := by decide +kernel
theorem dX12_ways_200 : decode cX12_ways 200 = .ok (.invokestatic 478, 3) := by decide +kernel
theorem dX12_ways_203 : decode cX12_ways 203 = .ok (.if_icmp .gt 7, 3) := by decide +kernel
theorem dX12_ways_206 : decode cX12_ways 206 = .ok (.iload 6, 2) := by decide +kernel
theorem dX12_ways_208 : decode cX12_ways 208 = .ok (.istore 5, 2) := by decide +kernel
theorem dX12_ways_210 : decode cX12_ways 210 = .ok (.iinc 6 (-1), 3) := by decide +kernel
theorem dX12_ways_213 : decode cX12_ways 213 = .ok (.goto (-36), 3) := by decide +kernel
theorem dX12_ways_216 : decode cX12_ways 216 = .ok (.iload 5, 2) := by decide +kernel
theorem dX12_ways_218 : decode cX12_ways 218 = .ok (.ireturn, 1) := by decide +kernel
theorem dX12_isClash_0 : decode cX12_isClash 0 = .ok (.iconst 0, 1) := by decide +kernel
theorem dX12_isClash_1 : decode cX12_isClash 1 = .ok (.istore_n 3, 1) := by decide +kernel
theorem dX12_isClash_2 : decode cX12_isClash 2 = .ok (.iload_n 3, 1) := by decide +kernel
theorem dX12_isClash_3 : decode cX12_isClash 3 = .ok (.iload_n 2, 1) := by decide +kernel
theorem dX12_isClash_4 : decode cX12_isClash 4 = .ok (.if_icmp .gt 27, 3) := by decide +kernel
theorem dX12_isClash_7 : decode cX12_isClash 7 = .ok (.aload_n 0, 1) := by decide +kernel
theorem dX12_isClash_8 : decode cX12_isClash 8 = .ok (.getfield 74, 3) := by decide +kernel
theorem dX12_isClash_11 : decode cX12_isClash 11 = .ok (.iload_n 3, 1) := by decide +kernel
theorem dX12_isClash_12 : decode cX12_isClash 12 = .ok (.baload, 1) := by decide +kernel
theorem dX12_isClash_13 : decode cX12_isClash 13 = .ok (.ifCond .eq 12, 3) := by decide +kernel
theorem dX12_isClash_16 : decode cX12_isClash 16 = .ok (.iload_n 3, 1) := by decide +kernel
theorem dX12_isClash_17 : decode cX12_isClash 17 = .ok (.iload_n 1, 1) := by decide +kernel
theorem dX12_isClash_18 : decode cX12_isClash 18 = .ok (.iand, 1) := by decide +kernel
theorem dX12_isClash_19 : decode cX12_isClash 19 = .ok (.iload_n 1, 1) := by decide +kernel
theorem dX12_isClash_20 : decode cX12_isClash 20 = .ok (.if_icmp .ne 5, 3) := by decide +kernel
theorem dX12_isClash_23 : decode cX12_isClash 23 = .ok (.iconst 0, 1) := by decide +kernel
theorem dX12_isClash_24 : decode cX12_isClash 24 = .ok (.ireturn, 1) := by decide +kernel
theorem dX12_isClash_25 : decode cX12_isClash 25 = .ok (.iinc 3 1, 3) := by decide +kernel
theorem dX12_isClash_28 : decode cX12_isClash 28 = .ok (.goto (-26), 3) := by decide +kernel
theorem dX12_isClash_31 : decode cX12_isClash 31 = .ok (.iconst 1, 1) := by decide +kernel
theorem dX12_isClash_32 : decode cX12_isClash 32 = .ok (.ireturn, 1) := by decide +kernel
set_option maxRecDepth 20000 in
theorem ggX12_sight_X12_isStreet : GoodIn wsX12_sight wsX12_isStreet := goodIn_r _ [7, 1, 11, 12, 13, 14, 15, 16, 17, 18, 19, 20, 21, 22, 23, 24, 25, 26, 27, 28, 29, 30, 31, 32, 33, 34, 35, 36, 37, 38, 39, 40, 41, 42, 43, 44, 45, 46, 47, 48, 49, 50, 51, 52] (by decide +kernel) (by decide +kernel)
set_option maxRecDepth 20000 in
theorem gX12_sight_X12_isStreet : GoodIn wsX12_sight (wsV RX12 323 RX12 yX12_isStreet wsX12_isStreet) := goodIn_app (goodIn_of _ (by decide +kernel)) ggX12_sight_X12_isStreet
set_option maxRecDepth 20000 in
theorem ggX12_sight_X12_in : GoodIn wsX12_sight wsX12_in := goodIn_r _ [10] (by decide +kernel) (by decide +kernel)
set_option maxRecDepth 20000 in
theorem gX12_sight_X12_in : GoodIn wsX12_sight (va_wsS RX12 122 yX12_in wsX12_in) := goodIn_app (goodIn_of _ (by decide +kernel)) ggX12_sight_X12_in
theorem dX12_sight_0 : decode cX12_sight 0 = .ok (.iload_n 1, 1) := by decide +kernel
theorem dX12_sight_1 : decode cX12_sight 1 = .ok (.iconst (-1), 1) := by decide +kernel
theorem dX12_sight_2 : decode cX12_sight 2 = .ok (.if_icmp .ne 13, 3) := by decide +kernel
theorem dX12_sight_5 : decode cX12_sight 5 = .ok (.aload_n 0, 1) := by decide +kernel
theorem dX12_sight_6 : decode cX12_sight 6 = .ok (.getfield 45, 3) := by decide +kernel
theorem dX12_sight_9 : decode cX12_sight 9 = .ok (.bipush 7, 2) := by decide +kernel
theorem dX12_sight_11 : decode cX12_sight 11 = .ok (.iconst 0, 1) := by decide +kernel
theorem dX12_sight_12 : decode cX12_sight 12 = .ok (.iastore, 1) := by decide +kernel
theorem dX12_sight_13 : decode cX12_sight 13 = .ok (.iconst 0, 1) := by decide +kernel
theorem dX12_sight_14 : decode cX12_sight 14 = .ok (.ireturn, 1) := by decide +kernel
theorem dX12_sight_15 : decode cX12_sight 15 = .ok (.aload_n 0, 1) := by decide +kernel
theorem dX12_sight_16 : decode cX12_sight 16 = .ok (.iload_n 1, 1) := by decide +kernel
theorem dX12_sight_17 : decode cX12_sight 17 = .ok (.invokevirtual 323, 3) := by decide +kernel
theorem dX12_sight_20 : decode cX12_sight 20 = .ok (.ifCond .eq 27, 3) := by decide +kernel
theorem dX12_sight_23 : decode cX12_sight 23 = .ok (.iload_n 2, 1) := by decide +kernel
theorem dX12_sight_24 : decode cX12_sight 24 = .ok (.i2l, 1) := by decide +kernel
theorem dX12_sight_25 : decode cX12_sight 25 = .ok (.lconst 0, 1) := by decide +kernel
theorem dX12_sight_26 : decode cX12_sight 26 = .ok (.ldc2_w 345, 3) := by decide +kernel
theorem dX12_sight_29 : decode cX12_sight 29 = .ok (.invokestatic 122, 3) := by decide +kernel
theorem dX12_sight_32 : decode cX12_sight 32 = .ok (.ifCond .eq 15, 3) := by decide +kernel
theorem dX12_sight_35 : decode cX12_sight 35 = .ok (.aload_n 0, 1) := by decide +kernel
theorem dX12_sight_36 : decode cX12_sight 36 = .ok (.getfield 45, 3) := by decide +kernel
theorem dX12_sight_39 : decode cX12_sight 39 = .ok (.bipush 7, 2) := by decide +kernel
theorem dX12_sight_41 : decode cX12_sight 41 = .ok (.iaload, 1) := by decide +kernel
theorem dX12_sight_42 : decode cX12_sight 42 = .ok (.bipush 12, 2) := by decide +kernel
theorem dX12_sight_44 : decode cX12_sight 44 = .ok (.if_icmp .ne 6, 3) := by decide +kernel
theorem dX12_sight_47 : decode cX12_sight 47 = .ok (.bipush (-2), 2) := by decide +kernel
theorem dX12_sight_49 : decode cX12_sight 49 = .ok (.ireturn, 1) := by decide +kernel
theorem dX12_sight_50 : decode cX12_sight 50 = .ok (.aload_n 0, 1) := by decide +kernel
theorem dX12_sight_51 : decode cX12_sight 51 = .ok (.getfield 45, 3) := by decide +kernel
theorem dX12_sight_54 : decode cX12_sight 54 = .ok (.sipush 264, 3) := by decide +kernel
theorem dX12_sight_57 : decode cX12_sight 57 = .ok (.iconst 2, 1) := by decide +kernel
theorem dX12_sight_58 : decode cX12_sight 58 = .ok (.aload_n 0, 1) := by decide +kernel
theorem dX12_sight_59 : decode cX12_sight 59 = .ok (.getfield 45, 3) := by decide +kernel
theorem dX12_sight_62 : decode cX12_sight 62 = .ok (.bipush 7, 2) := by decide +kernel
theorem dX12_sight_64 : decode cX12_sight 64 = .ok (.iaload, 1) := by decide +kernel
theorem dX12_sight_65 : decode cX12_sight 65 = .ok (.imul, 1) := by decide +kernel
theorem dX12_sight_66 : decode cX12_sight 66 = .ok (.iadd, 1) := by decide +kernel
theorem dX12_sight_67 : decode cX12_sight 67 = .ok (.iload_n 1, 1) := by decide +kernel
theorem dX12_sight_68 : decode cX12_sight 68 = .ok (.iastore, 1) := by decide +kernel
theorem dX12_sight_69 : decode cX12_sight 69 = .ok (.aload_n 0, 1) := by decide +kernel
theorem dX12_sight_70 : decode cX12_sight 70 = .ok (.getfield 45, 3) := by decide +kernel
theorem dX12_sight_73 : decode cX12_sight 73 = .ok (.sipush 264, 3) := by decide +kernel
theorem dX12_sight_76 : decode cX12_sight 76 = .ok (.iconst 2, 1) := by decide +kernel
theorem dX12_sight_77 : decode cX12_sight 77 = .ok (.aload_n 0, 1) := by decide +kernel
theorem dX12_sight_78 : decode cX12_sight 78 = .ok (.getfield 45, 3) := by decide +kernel
theorem dX12_sight_81 : decode cX12_sight 81 = .ok (.bipush 7, 2) := by decide +kernel
theorem dX12_sight_83 : decode cX12_sight 83 = .ok (.iaload, 1) := by decide +kernel
theorem dX12_sight_84 : decode cX12_sight 84 = .ok (.imul, 1) := by decide +kernel
theorem dX12_sight_85 : decode cX12_sight 85 = .ok (.iadd, 1) := by decide +kernel
theorem dX12_sight_86 : decode cX12_sight 86 = .ok (.iconst 1, 1) := by decide +kernel
theorem dX12_sight_87 : decode cX12_sight 87 = .ok (.iadd, 1) := by decide +kernel
theorem dX12_sight_88 : decode cX12_sight 88 = .ok (.iload_n 2, 1) := by decide +kernel
theorem dX12_sight_89 : decode cX12_sight 89 = .ok (.iastore, 1) := by decide +kernel
theorem dX12_sight_90 : decode cX12_sight 90 = .ok (.aload_n 0, 1) := by decide +kernel
theorem dX12_sight_91 : decode cX12_sight 91 = .ok (.getfield 45, 3) := by decide +kernel
theorem dX12_sight_94 : decode cX12_sight 94 = .ok (.bipush 7, 2) := by decide +kernel
theorem dX12_sight_96 : decode cX12_sight 96 = .ok (.dup2, 1) := by decide +kernel
theorem dX12_sight_97 : decode cX12_sight 97 = .ok (.iaload, 1) := by decide +kernel
theorem dX12_sight_98 : decode cX12_sight 98 = .ok (.iconst 1, 1) := by decide +kernel
theorem dX12_sight_99 : decode cX12_sight 99 = .ok (.iadd, 1) := by decide +kernel
theorem dX12_sight_100 : decode cX12_sight 100 = .ok (.iastore, 1) := by decide +kernel
theorem dX12_sight_101 : decode cX12_sight 101 = .ok (.aload_n 0, 1) := by decide +kernel
theorem dX12_sight_102 : decode cX12_sight 102 = .ok (.getfield 45, 3) := by decide +kernel
theorem dX12_sight_105 : decode cX12_sight 105 = .ok (.bipush 7, 2) := by decide +kernel
theorem dX12_sight_107 : decode cX12_sight 107 = .ok (.iaload, 1) := by decide +kernel
theorem dX12_sight_108 : decode cX12_sight 108 = .ok (.ireturn, 1) := by decide +kernel
set_option maxRecDepth 20000 in
theorem ggX12_fitting_X12_streetOf : GoodIn wsX12_fitting wsX12_streetOf := goodIn_r _ [6, 1, 7, 8, 9, 10, 11, 12, 13, 14, 15, 16, 17, 18, 19, 20, 21, 22, 23, 24, 25, 26, 27, 28, 29, 30, 31, 32, 33, 34, 35, 36, 37, 38, 39, 40, 41, 42, 43, 44, 45, 46, 47, 48] (by decide +kernel) (by decide +kernel)
set_option maxRecDepth 20000 in
theorem gX12_fitting_X12_streetOf : GoodIn wsX12_fitting (wsV RX12 300 RX12 yX12_streetOf wsX12_streetOf) := goodIn_app (goodIn_of _ (by decide +kernel)) ggX12_fitting_X12_streetOf
theorem dX12_fitting_0 : decode cX12_fitting 0 = .ok (.iconst 0, 1) := by decide +kernel
theorem dX12_fitting_1 : decode cX12_fitting 1 = .ok (.istore_n 1, 1) := by decide +kernel
theorem dX12_fitting_2 : decode cX12_fitting 2 = .ok (.iconst 0, 1) := by decide +kernel
theorem dX12_fitting_3 : decode cX12_fitting 3 = .ok (.istore_n 2, 1) := by decide +kernel
theorem dX12_fitting_4 : decode cX12_fitting 4 = .ok (.iload_n 2, 1) := by decide +kernel
theorem dX12_fitting_5 : decode cX12_fitting 5 = .ok (.bipush 7, 2) := by decide +kernel
theorem dX12_fitting_7 : decode cX12_fitting 7 = .ok (.if_icmp .ge 94, 3) := by decide +kernel
theorem dX12_fitting_10 : decode cX12_fitting 10 = .ok (.iconst 1, 1) := by decide +kernel
theorem dX12_fitting_11 : decode cX12_fitting 11 = .ok (.istore_n 3, 1) := by decide +kernel
theorem dX12_fitting_12 : decode cX12_fitting 12 = .ok (.iconst 0, 1) := by decide +kernel
theorem dX12_fitting_13 : decode cX12_fitting 13 = .ok (.istore 4, 2) := by decide +kernel
theorem dX12_fitting_15 : decode cX12_fitting 15 = .ok (.iload 4, 2) := by decide +kernel
theorem dX12_fitting_17 : decode cX12_fitting 17 = .ok (.aload_n 0, 1) := by decide +kernel
theorem dX12_fitting_18 : decode cX12_fitting 18 = .ok (.getfield 45, 3) := by decide +kernel
theorem dX12_fitting_21 : decode cX12_fitting 21 = .ok (.bipush 7, 2) := by decide +kernel
theorem dX12_fitting_23 : decode cX12_fitting 23 = .ok (.iaload, 1) := by decide +kernel
theorem dX12_fitting_24 : decode cX12_fitting 24 = .ok (.if_icmp .ge 57, 3) := by decide +kernel
theorem dX12_fitting_27 : decode cX12_fitting 27 = .ok (.iload_n 3, 1) := by decide +kernel
theorem dX12_fitting_28 : decode cX12_fitting 28 = .ok (.ifCond .eq 45, 3) := by decide +kernel
theorem dX12_fitting_31 : decode cX12_fitting 31 = .ok (.aload_n 0, 1) := by decide +kernel
theorem dX12_fitting_32 : decode cX12_fitting 32 = .ok (.aload_n 0, 1) := by decide +kernel
theorem dX12_fitting_33 : decode cX12_fitting 33 = .ok (.getfield 45, 3) := by decide +kernel
theorem dX12_fitting_36 : decode cX12_fitting 36 = .ok (.sipush 264, 3) := by decide +kernel
theorem dX12_fitting_39 : decode cX12_fitting 39 = .ok (.iconst 2, 1) := by decide +kernel
theorem dX12_fitting_40 : decode cX12_fitting 40 = .ok (.iload 4, 2) := by decide +kernel
theorem dX12_fitting_42 : decode cX12_fitting 42 = .ok (.imul, 1) := by decide +kernel
theorem dX12_fitting_43 : decode cX12_fitting 43 = .ok (.iadd, 1) := by decide +kernel
theorem dX12_fitting_44 : decode cX12_fitting 44 = .ok (.iaload, 1) := by decide +kernel
theorem dX12_fitting_45 : decode cX12_fitting 45 = .ok (.iconst 3, 1) := by decide +kernel
theorem dX12_fitting_46 : decode cX12_fitting 46 = .ok (.iload_n 2, 1) := by decide +kernel
theorem dX12_fitting_47 : decode cX12_fitting 47 = .ok (.iadd, 1) := by decide +kernel
theorem dX12_fitting_48 : decode cX12_fitting 48 = .ok (.invokevirtual 300, 3) := by decide +kernel
theorem dX12_fitting_51 : decode cX12_fitting 51 = .ok (.aload_n 0, 1) := by decide +kernel
theorem dX12_fitting_52 : decode cX12_fitting 52 = .ok (.getfield 45, 3) := by decide +kernel
theorem dX12_fitting_55 : decode cX12_fitting 55 = .ok (.sipush 264, 3) := by decide +kernel
theorem dX12_fitting_58 : decode cX12_fitting 58 = .ok (.iconst 2, 1) := by decide +kernel
theorem dX12_fitting_59 : decode cX12_fitting 59 = .ok (.iload 4, 2) := by decide +kernel
theorem dX12_fitting_61 : decode cX12_fitting 61 = .ok (.imul, 1) := by decide +kernel
theorem dX12_fitting_62 : decode cX12_fitting 62 = .ok (.iadd, 1) := by decide +kernel
theorem dX12_fitting_63 : decode cX12_fitting 63 = .ok (.iconst 1, 1) := by decide +kernel
theorem dX12_fitting_64 : decode cX12_fitting 64 = .ok (.iadd, 1) := by decide +kernel
theorem dX12_fitting_65 : decode cX12_fitting 65 = .ok (.iaload, 1) := by decide +kernel
theorem dX12_fitting_66 : decode cX12_fitting 66 = .ok (.if_icmp .ne 7, 3) := by decide +kernel
theorem dX12_fitting_69 : decode cX12_fitting 69 = .ok (.iconst 1, 1) := by decide +kernel
theorem dX12_fitting_70 : decode cX12_fitting 70 = .ok (.goto 4, 3) := by decide +kernel
theorem dX12_fitting_73 : decode cX12_fitting 73 = .ok (.iconst 0, 1) := by decide +kernel
theorem dX12_fitting_74 : decode cX12_fitting 74 = .ok (.istore_n 3, 1) := by decide +kernel
theorem dX12_fitting_75 : decode cX12_fitting 75 = .ok (.iinc 4 1, 3) := by decide +kernel
theorem dX12_fitting_78 : decode cX12_fitting 78 = .ok (.goto (-63), 3) := by decide +kernel
theorem dX12_fitting_81 : decode cX12_fitting 81 = .ok (.iload_n 1, 1) := by decide +kernel
theorem dX12_fitting_82 : decode cX12_fitting 82 = .ok (.iload_n 3, 1) := by decide +kernel
theorem dX12_fitting_83 : decode cX12_fitting 83 = .ok (.ifCond .eq 9, 3) := by decide +kernel
theorem dX12_fitting_86 : decode cX12_fitting 86 = .ok (.iconst 1, 1) := by decide +kernel
theorem dX12_fitting_87 : decode cX12_fitting 87 = .ok (.iload_n 2, 1) := by decide +kernel
theorem dX12_fitting_88 : decode cX12_fitting 88 = .ok (.ishl, 1) := by decide +kernel
theorem dX12_fitting_89 : decode cX12_fitting 89 = .ok (.goto 4, 3) := by decide +kernel
theorem dX12_fitting_92 : decode cX12_fitting 92 = .ok (.iconst 0, 1) := by decide +kernel
theorem dX12_fitting_93 : decode cX12_fitting 93 = .ok (.ior, 1) := by decide +kernel
theorem dX12_fitting_94 : decode cX12_fitting 94 = .ok (.istore_n 1, 1) := by decide +kernel
theorem dX12_fitting_95 : decode cX12_fitting 95 = .ok (.iinc 2 1, 3) := by decide +kernel
theorem dX12_fitting_98 : decode cX12_fitting 98 = .ok (.goto (-94), 3) := by decide +kernel
theorem dX12_fitting_101 : decode cX12_fitting 101 = .ok (.iload_n 1, 1) := by decide +kernel
theorem dX12_fitting_102 : decode cX12_fitting 102 = .ok (.ireturn, 1) := by decide +kernel
set_option maxRecDepth 20000 in
theorem ggX12_mostAlike_X12_isOf : GoodIn wsX12_mostAlike wsX12_isOf := goodIn_r _ [4] (by decide +kernel) (by decide +kernel)
set_option maxRecDepth 20000 in
theorem gX12_mostAlike_X12_isOf : GoodIn wsX12_mostAlike (va_wsS RX12 304 yX12_isOf wsX12_isOf) := goodIn_app (goodIn_of _ (by decide +kernel)) ggX12_mostAlike_X12_isOf
set_option maxRecDepth 20000 in
theorem ggX12_mostAlike_X12_streetOf : GoodIn wsX12_mostAlike wsX12_streetOf := goodIn_r _ [8, 9, 10, 11, 12, 13, 14, 15, 16, 17, 18, 19, 20, 21, 22, 23, 24, 25, 26, 27, 28, 29, 30, 31, 32, 33, 34, 35, 36, 37, 38, 39, 40, 41, 42, 43, 44, 45, 46, 47, 48, 49, 50, 51] (by decide +kernel) (by decide +kernel)
set_option maxRecDepth 20000 in
theorem gX12_mostAlike_X12_streetOf : GoodIn wsX12_mostAlike (wsV RX12 300 RX12 yX12_streetOf wsX12_streetOf) := goodIn_app (goodIn_of _ (by decide +kernel)) ggX12_mostAlike_X12_streetOf
theorem dX12_mostAlike_0 : decode cX12_mostAlike 0 = .ok (.iconst 0, 1) := by decide +kernel
theorem dX12_mostAlike_1 : decode cX12_mostAlike 1 = .ok (.istore_n 3, 1) := by decide +kernel
theorem dX12_mostAlike_2 : decode cX12_mostAlike 2 = .ok (.iconst 0, 1) := by decide +kernel
theorem dX12_mostAlike_3 : decode cX12_mostAlike 3 = .ok (.istore 4, 2) := by decide +kernel
theorem dX12_mostAlike_5 : decode cX12_mostAlike 5 = .ok (.iload 4, 2) := by decide +kernel
theorem dX12_mostAlike_7 : decode cX12_mostAlike 7 = .ok (.iconst 4, 1) := by decide +kernel
theorem dX12_mostAlike_8 : decode cX12_mostAlike 8 = .ok (.if_icmp .ge 74, 3) := by decide +kernel
theorem dX12_mostAlike_11 : decode cX12_mostAlike 11 = .ok (.iconst 0, 1) := by decide +kernel
theorem dX12_mostAlike_12 : decode cX12_mostAlike 12 = .ok (.istore 5, 2) := by decide +kernel
theorem dX12_mostAlike_14 : decode cX12_mostAlike 14 = .ok (.iconst 0, 1) := by decide +kernel
theorem dX12_mostAlike_15 : decode cX12_mostAlike 15 = .ok (.istore 6, 2) := by decide +kernel
theorem dX12_mostAlike_17 : decode cX12_mostAlike 17 = .ok (.iload 6, 2) := by decide +kernel
theorem dX12_mostAlike_19 : decode cX12_mostAlike 19 = .ok (.bipush 7, 2) := by decide +kernel
theorem dX12_mostAlike_21 : decode cX12_mostAlike 21 = .ok (.if_icmp .ge 42, 3) := by decide +kernel
theorem dX12_mostAlike_24 : decode cX12_mostAlike 24 = .ok (.iload 5, 2) := by decide +kernel
theorem dX12_mostAlike_26 : decode cX12_mostAlike 26 = .ok (.iload_n 2, 1) := by decide +kernel
theorem dX12_mostAlike_27 : decode cX12_mostAlike 27 = .ok (.iload 6, 2) := by decide +kernel
theorem dX12_mostAlike_29 : decode cX12_mostAlike 29 = .ok (.invokestatic 304, 3) := by decide +kernel
theorem dX12_mostAlike_32 : decode cX12_mostAlike 32 = .ok (.ifCond .eq 21, 3) := by decide +kernel
theorem dX12_mostAlike_35 : decode cX12_mostAlike 35 = .ok (.aload_n 0, 1) := by decide +kernel
theorem dX12_mostAlike_36 : decode cX12_mostAlike 36 = .ok (.iload_n 1, 1) := by decide +kernel
theorem dX12_mostAlike_37 : decode cX12_mostAlike 37 = .ok (.iconst 3, 1) := by decide +kernel
theorem dX12_mostAlike_38 : decode cX12_mostAlike 38 = .ok (.iload 6, 2) := by decide +kernel
theorem dX12_mostAlike_40 : decode cX12_mostAlike 40 = .ok (.iadd, 1) := by decide +kernel
theorem dX12_mostAlike_41 : decode cX12_mostAlike 41 = .ok (.invokevirtual 300, 3) := by decide +kernel
theorem dX12_mostAlike_44 : decode cX12_mostAlike 44 = .ok (.iload 4, 2) := by decide +kernel
theorem dX12_mostAlike_46 : decode cX12_mostAlike 46 = .ok (.if_icmp .ne 7, 3) := by decide +kernel
theorem dX12_mostAlike_49 : decode cX12_mostAlike 49 = .ok (.iconst 1, 1) := by decide +kernel
theorem dX12_mostAlike_50 : decode cX12_mostAlike 50 = .ok (.goto 4, 3) := by decide +kernel
theorem dX12_mostAlike_53 : decode cX12_mostAlike 53 = .ok (.iconst 0, 1) := by decide +kernel
theorem dX12_mostAlike_54 : decode cX12_mostAlike 54 = .ok (.iadd, 1) := by decide +kernel
theorem dX12_mostAlike_55 : decode cX12_mostAlike 55 = .ok (.istore 5, 2) := by decide +kernel
theorem dX12_mostAlike_57 : decode cX12_mostAlike 57 = .ok (.iinc 6 1, 3) := by decide +kernel
theorem dX12_mostAlike_60 : decode cX12_mostAlike 60 = .ok (.goto (-43), 3) := by decide +kernel
theorem dX12_mostAlike_63 : decode cX12_mostAlike 63 = .ok (.iload 5, 2) := by decide +kernel
theorem dX12_mostAlike_65 : decode cX12_mostAlike 65 = .ok (.iload_n 3, 1) := by decide +kernel
theorem dX12_mostAlike_66 : decode cX12_mostAlike 66 = .ok (.if_icmp .le 8, 3) := by decide +kernel
theorem dX12_mostAlike_69 : decode cX12_mostAlike 69 = .ok (.iload 5, 2) := by decide +kernel
theorem dX12_mostAlike_71 : decode cX12_mostAlike 71 = .ok (.goto 4, 3) := by decide +kernel
theorem dX12_mostAlike_74 : decode cX12_mostAlike 74 = .ok (.iload_n 3, 1) := by decide +kernel
theorem dX12_mostAlike_75 : decode cX12_mostAlike 75 = .ok (.istore_n 3, 1) := by decide +kernel
theorem dX12_mostAlike_76 : decode cX12_mostAlike 76 = .ok (.iinc 4 1, 3) := by decide +kernel
theorem dX12_mostAlike_79 : decode cX12_mostAlike 79 = .ok (.goto (-74), 3) := by decide +kernel
theorem dX12_mostAlike_82 : decode cX12_mostAlike 82 = .ok (.iload_n 3, 1) := by decide +kernel
theorem dX12_mostAlike_83 : decode cX12_mostAlike 83 = .ok (.ireturn, 1) := by decide +kernel
set_option maxRecDepth 20000 in
theorem ggX12_weekdays_X12_isTown : GoodIn wsX12_weekdays wsX12_isTown := goodIn_r _ [6, 1, 25, 26, 27, 28, 29, 30, 31, 32, 33, 34, 35, 36, 37, 38, 39, 40, 41, 42, 43, 44, 45, 46, 47, 48, 49, 50, 51, 52, 53, 54, 55, 56, 57, 58, 59, 60, 61, 62, 63, 64, 65, 66] (by decide +kernel) (by decide +kernel)
set_option maxRecDepth 20000 in
theorem gX12_weekdays_X12_isTown : GoodIn wsX12_weekdays (wsV RX12 337 RX12 yX12_isTown wsX12_isTown) := goodIn_app (goodIn_of _ (by decide +kernel)) ggX12_weekdays_X12_isTown
set_option maxRecDepth 20000 in
theorem ggX12_weekdays_X12_in : GoodIn wsX12_weekdays wsX12_in := goodIn_r _ [9] (by decide +kernel) (by decide +kernel)
set_option maxRecDepth 20000 in
theorem gX12_weekdays_X12_in : GoodIn wsX12_weekdays (va_wsS RX12 122 yX12_in wsX12_in) := goodIn_app (goodIn_of _ (by decide +kernel)) ggX12_weekdays_X12_in
set_option maxRecDepth 20000 in
theorem ggX12_weekdays_X12_fitting : GoodIn wsX12_weekdays wsX12_fitting := goodIn_r _ [13, 1, 14, 15, 16, 5, 17, 25, 26, 27, 28, 29, 30, 31, 32, 33, 34, 35, 36, 37, 38, 39, 40, 41, 42, 43, 44, 45, 46, 47, 48, 49, 50, 51, 52, 53, 54, 55, 56, 57, 58, 59, 60, 61, 62, 63, 64, 65, 66] (by decide +kernel) (by decide +kernel)
set_option maxRecDepth 20000 in
theorem gX12_weekdays_X12_fitting : GoodIn wsX12_weekdays (wsV RX12 481 RX12 yX12_fitting wsX12_fitting) := goodIn_app (goodIn_of _ (by decide +kernel)) ggX12_weekdays_X12_fitting
set_option maxRecDepth 20000 in
theorem ggX12_weekdays_X12_mostAlike : GoodIn wsX12_weekdays wsX12_mostAlike := goodIn_r _ [21, 22, 23, 5, 24, 14, 15, 16, 17, 1, 25, 26, 27, 28, 29, 30, 31, 32, 33, 34, 35, 36, 37, 38, 39, 40, 41, 42, 43, 44, 45, 46, 47, 48, 49, 50, 51, 52, 53, 54, 55, 56, 57, 58, 59, 60, 61, 62, 63, 64, 65, 66] (by decide +kernel) (by decide +kernel)
set_option maxRecDepth 20000 in
theorem gX12_weekdays_X12_mostAlike : GoodIn wsX12_weekdays (wsV RX12 484 RX12 yX12_mostAlike wsX12_mostAlike) := goodIn_app (goodIn_of _ (by decide +kernel)) ggX12_weekdays_X12_mostAlike
theorem dX12_weekdays_0 : decode cX12_weekdays 0 = .ok (.aload_n 0, 1) := by decide +kernel
theorem dX12_weekdays_1 : decode cX12_weekdays 1 = .ok (.invokevirtual 337, 3) := by decide +kernel
theorem dX12_weekdays_4 : decode cX12_weekdays 4 = .ok (.ifCond .eq 13, 3) := by decide +kernel
theorem dX12_weekdays_7 : decode cX12_weekdays 7 = .ok (.iload_n 1, 1) := by decide +kernel
theorem dX12_weekdays_8 : decode cX12_weekdays 8 = .ok (.i2l, 1) := by decide +kernel
theorem dX12_weekdays_9 : decode cX12_weekdays 9 = .ok (.lconst 0, 1) := by decide +kernel
theorem dX12_weekdays_10 : decode cX12_weekdays 10 = .ok (.lconst 1, 1) := by decide +kernel
theorem dX12_weekdays_11 : decode cX12_weekdays 11 = .ok (.invokestatic 122, 3) := by decide +kernel
theorem dX12_weekdays_14 : decode cX12_weekdays 14 = .ok (.ifCond .ne 5, 3) := by decide +kernel
theorem dX12_weekdays_17 : decode cX12_weekdays 17 = .ok (.iconst (-1), 1) := by decide +kernel
theorem dX12_weekdays_18 : decode cX12_weekdays 18 = .ok (.ireturn, 1) := by decide +kernel
theorem dX12_weekdays_19 : decode cX12_weekdays 19 = .ok (.aload_n 0, 1) := by decide +kernel
theorem dX12_weekdays_20 : decode cX12_weekdays 20 = .ok (.invokevirtual 481, 3) := by decide +kernel
theorem dX12_weekdays_23 : decode cX12_weekdays 23 = .ok (.istore_n 2, 1) := by decide +kernel
theorem dX12_weekdays_24 : decode cX12_weekdays 24 = .ok (.iload_n 1, 1) := by decide +kernel
theorem dX12_weekdays_25 : decode cX12_weekdays 25 = .ok (.ifCond .ne 5, 3) := by decide +kernel
theorem dX12_weekdays_28 : decode cX12_weekdays 28 = .ok (.iload_n 2, 1) := by decide +kernel
theorem dX12_weekdays_29 : decode cX12_weekdays 29 = .ok (.ireturn, 1) := by decide +kernel
theorem dX12_weekdays_30 : decode cX12_weekdays 30 = .ok (.iload_n 2, 1) := by decide +kernel
theorem dX12_weekdays_31 : decode cX12_weekdays 31 = .ok (.ifCond .eq 12, 3) := by decide +kernel
theorem dX12_weekdays_34 : decode cX12_weekdays 34 = .ok (.aload_n 0, 1) := by decide +kernel
theorem dX12_weekdays_35 : decode cX12_weekdays 35 = .ok (.getfield 45, 3) := by decide +kernel
theorem dX12_weekdays_38 : decode cX12_weekdays 38 = .ok (.iconst 1, 1) := by decide +kernel
theorem dX12_weekdays_39 : decode cX12_weekdays 39 = .ok (.iaload, 1) := by decide +kernel
theorem dX12_weekdays_40 : decode cX12_weekdays 40 = .ok (.ifCond .ne 6, 3) := by decide +kernel
theorem dX12_weekdays_43 : decode cX12_weekdays 43 = .ok (.bipush (-2), 2) := by decide +kernel
theorem dX12_weekdays_45 : decode cX12_weekdays 45 = .ok (.ireturn, 1) := by decide +kernel
theorem dX12_weekdays_46 : decode cX12_weekdays 46 = .ok (.iconst 0, 1) := by decide +kernel
theorem dX12_weekdays_47 : decode cX12_weekdays 47 = .ok (.istore_n 3, 1) := by decide +kernel
theorem dX12_weekdays_48 : decode cX12_weekdays 48 = .ok (.iconst 1, 1) := by decide +kernel
theorem dX12_weekdays_49 : decode cX12_weekdays 49 = .ok (.istore 4, 2) := by decide +kernel
theorem dX12_weekdays_51 : decode cX12_weekdays 51 = .ok (.iload 4, 2) := by decide +kernel
theorem dX12_weekdays_53 : decode cX12_weekdays 53 = .ok (.aload_n 0, 1) := by decide +kernel
theorem dX12_weekdays_54 : decode cX12_weekdays 54 = .ok (.getfield 45, 3) := by decide +kernel
theorem dX12_weekdays_57 : decode cX12_weekdays 57 = .ok (.iconst 1, 1) := by decide +kernel
theorem dX12_weekdays_58 : decode cX12_weekdays 58 = .ok (.iaload, 1) := by decide +kernel
theorem dX12_weekdays_59 : decode cX12_weekdays 59 = .ok (.if_icmp .ge 32, 3) := by decide +kernel
theorem dX12_weekdays_62 : decode cX12_weekdays 62 = .ok (.aload_n 0, 1) := by decide +kernel
theorem dX12_weekdays_63 : decode cX12_weekdays 63 = .ok (.iload 4, 2) := by decide +kernel
theorem dX12_weekdays_65 : decode cX12_weekdays 65 = .ok (.iload_n 2, 1) := by decide +kernel
theorem dX12_weekdays_66 : decode cX12_weekdays 66 = .ok (.invokevirtual 484, 3) := by decide +kernel
theorem dX12_weekdays_69 : decode cX12_weekdays 69 = .ok (.aload_n 0, 1) := by decide +kernel
theorem dX12_weekdays_70 : decode cX12_weekdays 70 = .ok (.iload_n 3, 1) := by decide +kernel
theorem dX12_weekdays_71 : decode cX12_weekdays 71 = .ok (.iload_n 2, 1) := by decide +kernel
theorem dX12_weekdays_72 : decode cX12_weekdays 72 = .ok (.invokevirtual 484, 3) := by decide +kernel
theorem dX12_weekdays_75 : decode cX12_weekdays 75 = .ok (.if_icmp .ge 8, 3) := by decide +kernel
theorem dX12_weekdays_78 : decode cX12_weekdays 78 = .ok (.iload 4, 2) := by decide +kernel
theorem dX12_weekdays_80 : decode cX12_weekdays 80 = .ok (.goto 4, 3) := by decide +kernel
theorem dX12_weekdays_83 : decode cX12_weekdays 83 = .ok (.iload_n 3, 1) := by decide +kernel
theorem dX12_weekdays_84 : decode cX12_weekdays 84 = .ok (.istore_n 3, 1) := by decide +kernel
theorem dX12_weekdays_85 : decode cX12_weekdays 85 = .ok (.iinc 4 1, 3) := by decide +kernel
theorem dX12_weekdays_88 : decode cX12_weekdays 88 = .ok (.goto (-37), 3) := by decide +kernel
theorem dX12_weekdays_91 : decode cX12_weekdays 91 = .ok (.iload_n 3, 1) := by decide +kernel
theorem dX12_weekdays_92 : decode cX12_weekdays 92 = .ok (.ireturn, 1) := by decide +kernel
set_option maxRecDepth 20000 in
theorem ggX12_came_X12_isCorner : GoodIn wsX12_came wsX12_isCorner := goodIn_r _ [6, 1, 7, 8, 9, 10, 11, 12, 13, 14, 15, 16, 17, 18, 19, 20, 21, 22, 23, 24, 25, 26, 27, 28, 29, 30, 31, 32, 33, 34, 35, 36, 37, 38, 39, 40, 41, 42, 43, 44, 45, 46, 47, 48] (by decide +kernel) (by decide +kernel)
set_option maxRecDepth 20000 in
theorem gX12_came_X12_isCorner : GoodIn wsX12_came (wsV RX12 328 RX12 yX12_isCorner wsX12_isCorner) := goodIn_app (goodIn_of _ (by decide +kernel)) ggX12_came_X12_isCorner
theorem dX12_came_0 : decode cX12_came 0 = .ok (.iload_n 1, 1) := by decide +kernel
theorem dX12_came_1 : decode cX12_came 1 = .ok (.iconst (-1), 1) := by decide +kernel
theorem dX12_came_2 : decode cX12_came 2 = .ok (.if_icmp .ne 13, 3) := by decide +kernel
theorem dX12_came_5 : decode cX12_came 5 = .ok (.aload_n 0, 1) := by decide +kernel
theorem dX12_came_6 : decode cX12_came 6 = .ok (.getfield 45, 3) := by decide +kernel
theorem dX12_came_9 : decode cX12_came 9 = .ok (.bipush 8, 2) := by decide +kernel
theorem dX12_came_11 : decode cX12_came 11 = .ok (.iconst 0, 1) := by decide +kernel
theorem dX12_came_12 : decode cX12_came 12 = .ok (.iastore, 1) := by decide +kernel
theorem dX12_came_13 : decode cX12_came 13 = .ok (.iconst 0, 1) := by decide +kernel
theorem dX12_came_14 : decode cX12_came 14 = .ok (.ireturn, 1) := by decide +kernel
theorem dX12_came_15 : decode cX12_came 15 = .ok (.aload_n 0, 1) := by decide +kernel
theorem dX12_came_16 : decode cX12_came 16 = .ok (.iload_n 1, 1) := by decide +kernel
theorem dX12_came_17 : decode cX12_came 17 = .ok (.invokevirtual 328, 3) := by decide +kernel
theorem dX12_came_20 : decode cX12_came 20 = .ok (.ifCond .eq 15, 3) := by decide +kernel
theorem dX12_came_23 : decode cX12_came 23 = .ok (.aload_n 0, 1) := by decide +kernel
theorem dX12_came_24 : decode cX12_came 24 = .ok (.getfield 45, 3) := by decide +kernel
theorem dX12_came_27 : decode cX12_came 27 = .ok (.bipush 8, 2) := by decide +kernel
theorem dX12_came_29 : decode cX12_came 29 = .ok (.iaload, 1) := by decide +kernel
theorem dX12_came_30 : decode cX12_came 30 = .ok (.bipush 8, 2) := by decide +kernel
theorem dX12_came_32 : decode cX12_came 32 = .ok (.if_icmp .ne 6, 3) := by decide +kernel
theorem dX12_came_35 : decode cX12_came 35 = .ok (.bipush (-2), 2) := by decide +kernel
theorem dX12_came_37 : decode cX12_came 37 = .ok (.ireturn, 1) := by decide +kernel
theorem dX12_came_38 : decode cX12_came 38 = .ok (.aload_n 0, 1) := by decide +kernel
theorem dX12_came_39 : decode cX12_came 39 = .ok (.getfield 45, 3) := by decide +kernel
theorem dX12_came_42 : decode cX12_came 42 = .ok (.sipush 288, 3) := by decide +kernel
theorem dX12_came_45 : decode cX12_came 45 = .ok (.aload_n 0, 1) := by decide +kernel
theorem dX12_came_46 : decode cX12_came 46 = .ok (.getfield 45, 3) := by decide +kernel
theorem dX12_came_49 : decode cX12_came 49 = .ok (.bipush 8, 2) := by decide +kernel
theorem dX12_came_51 : decode cX12_came 51 = .ok (.iaload, 1) := by decide +kernel
theorem dX12_came_52 : decode cX12_came 52 = .ok (.iadd, 1) := by decide +kernel
theorem dX12_came_53 : decode cX12_came 53 = .ok (.iload_n 1, 1) := by decide +kernel
theorem dX12_came_54 : decode cX12_came 54 = .ok (.iastore, 1) := by decide +kernel
theorem dX12_came_55 : decode cX12_came 55 = .ok (.aload_n 0, 1) := by decide +kernel
theorem dX12_came_56 : decode cX12_came 56 = .ok (.getfield 45, 3) := by decide +kernel
theorem dX12_came_59 : decode cX12_came 59 = .ok (.bipush 8, 2) := by decide +kernel
theorem dX12_came_61 : decode cX12_came 61 = .ok (.dup2, 1) := by decide +kernel
theorem dX12_came_62 : decode cX12_came 62 = .ok (.iaload, 1) := by decide +kernel
theorem dX12_came_63 : decode cX12_came 63 = .ok (.iconst 1, 1) := by decide +kernel
theorem dX12_came_64 : decode cX12_came 64 = .ok (.iadd, 1) := by decide +kernel
theorem dX12_came_65 : decode cX12_came 65 = .ok (.iastore, 1) := by decide +kernel
theorem dX12_came_66 : decode cX12_came 66 = .ok (.aload_n 0, 1) := by decide +kernel
theorem dX12_came_67 : decode cX12_came 67 = .ok (.getfield 45, 3) := by decide +kernel
theorem dX12_came_70 : decode cX12_came 70 = .ok (.bipush 8, 2) := by decide +kernel
theorem dX12_came_72 : decode cX12_came 72 = .ok (.iaload, 1) := by decide +kernel
theorem dX12_came_73 : decode cX12_came 73 = .ok (.ireturn, 1) := by decide +kernel
theorem dX12_seed_0 : decode cX12_seed 0 = .ok (.iload_n 1, 1) := by decide +kernel
theorem dX12_seed_1 : decode cX12_seed 1 = .ok (.ifCond .ge 5, 3) := by decide +kernel
theorem dX12_seed_4 : decode cX12_seed 4 = .ok (.iconst (-1), 1) := by decide +kernel
theorem dX12_seed_5 : decode cX12_seed 5 = .ok (.ireturn, 1) := by decide +kernel
theorem dX12_seed_6 : decode cX12_seed 6 = .ok (.aload_n 0, 1) := by decide +kernel
theorem dX12_seed_7 : decode cX12_seed 7 = .ok (.getfield 45, 3) := by decide +kernel
theorem dX12_seed_10 : decode cX12_seed 10 = .ok (.bipush 9, 2) := by decide +kernel
theorem dX12_seed_12 : decode cX12_seed 12 = .ok (.iaload, 1) := by decide +kernel
theorem dX12_seed_13 : decode cX12_seed 13 = .ok (.istore_n 2, 1) := by decide +kernel
theorem dX12_seed_14 : decode cX12_seed 14 = .ok (.aload_n 0, 1) := by decide +kernel
theorem dX12_seed_15 : decode cX12_seed 15 = .ok (.getfield 45, 3) := by decide +kernel
theorem dX12_seed_18 : decode cX12_seed 18 = .ok (.bipush 9, 2) := by decide +kernel
theorem dX12_seed_20 : decode cX12_seed 20 = .ok (.iload_n 1, 1) := by decide +kernel
theorem dX12_seed_21 : decode cX12_seed 21 = .ok (.iastore, 1) := by decide +kernel
theorem dX12_seed_22 : decode cX12_seed 22 = .ok (.iload_n 2, 1) := by decide +kernel
theorem dX12_seed_23 : decode cX12_seed 23 = .ok (.ireturn, 1) := by decide +kernel
theorem dX12_count_0 : decode cX12_count 0 = .ok (.iload_n 1, 1) := by decide +kernel
theorem dX12_count_1 : decode cX12_count 1 = .ok (.tableswitch 89 0 11 #[63, 63, 63, 63, 70, 75, 75, 75, 75, 75, 75, 84], 63) := by decide +kernel
theorem dX12_count_64 : decode cX12_count 64 = .ok (.aload_n 0, 1) := by decide +kernel
theorem dX12_count_65 : decode cX12_count 65 = .ok (.getfield 45, 3) := by decide +kernel
theorem dX12_count_68 : decode cX12_count 68 = .ok (.iload_n 1, 1) := by decide +kernel
theorem dX12_count_69 : decode cX12_count 69 = .ok (.iaload, 1) := by decide +kernel
theorem dX12_count_70 : decode cX12_count 70 = .ok (.ireturn, 1) := by decide +kernel
theorem dX12_count_71 : decode cX12_count 71 = .ok (.aload_n 0, 1) := by decide +kernel
theorem dX12_count_72 : decode cX12_count 72 = .ok (.getfield 279, 3) := by decide +kernel
theorem dX12_count_75 : decode cX12_count 75 = .ok (.ireturn, 1) := by decide +kernel
theorem dX12_count_76 : decode cX12_count 76 = .ok (.aload_n 0, 1) := by decide +kernel
theorem dX12_count_77 : decode cX12_count 77 = .ok (.getfield 45, 3) := by decide +kernel
theorem dX12_count_80 : decode cX12_count 80 = .ok (.iload_n 1, 1) := by decide +kernel
theorem dX12_count_81 : decode cX12_count 81 = .ok (.iconst 1, 1) := by decide +kernel
theorem dX12_count_82 : decode cX12_count 82 = .ok (.isub, 1) := by decide +kernel
theorem dX12_count_83 : decode cX12_count 83 = .ok (.iaload, 1) := by decide +kernel
theorem dX12_count_84 : decode cX12_count 84 = .ok (.ireturn, 1) := by decide +kernel
theorem dX12_count_85 : decode cX12_count 85 = .ok (.aload_n 0, 1) := by decide +kernel
theorem dX12_count_86 : decode cX12_count 86 = .ok (.getfield 83, 3) := by decide +kernel
theorem dX12_count_89 : decode cX12_count 89 = .ok (.ireturn, 1) := by decide +kernel
theorem dX12_count_90 : decode cX12_count 90 = .ok (.iconst (-1), 1) := by decide +kernel
theorem dX12_count_91 : decode cX12_count 91 = .ok (.ireturn, 1) := by decide +kernel
set_option maxRecDepth 20000 in
theorem ggX12_image_X12_in : GoodIn wsX12_image wsX12_in := goodIn_r _ [8] (by decide +kernel) (by decide +kernel)
set_option maxRecDepth 20000 in
theorem gX12_image_X12_in : GoodIn wsX12_image (va_wsS RX12 122 yX12_in wsX12_in) := goodIn_app (goodIn_of _ (by decide +kernel)) ggX12_image_X12_in
theorem dX12_image_0 : decode cX12_image 0 = .ok (.iload_n 1, 1) := by decide +kernel
theorem dX12_image_1 : decode cX12_image 1 = .ok (.i2l, 1) := by decide +kernel
theorem dX12_image_2 : decode cX12_image 2 = .ok (.lconst 0, 1) := by decide +kernel
theorem dX12_image_3 : decode cX12_image 3 = .ok (.ldc2_w 345, 3) := by decide +kernel
theorem dX12_image_6 : decode cX12_image 6 = .ok (.invokestatic 122, 3) := by decide +kernel
theorem dX12_image_9 : decode cX12_image 9 = .ok (.ifCond .ne 5, 3) := by decide +kernel
theorem dX12_image_12 : decode cX12_image 12 = .ok (.iconst (-1), 1) := by decide +kernel
theorem dX12_image_13 : decode cX12_image 13 = .ok (.ireturn, 1) := by decide +kernel
theorem dX12_image_14 : decode cX12_image 14 = .ok (.aload_n 0, 1) := by decide +kernel
theorem dX12_image_15 : decode cX12_image 15 = .ok (.getfield 80, 3) := by decide +kernel
theorem dX12_image_18 : decode cX12_image 18 = .ok (.iload_n 1, 1) := by decide +kernel
theorem dX12_image_19 : decode cX12_image 19 = .ok (.iconst 1, 1) := by decide +kernel
theorem dX12_image_20 : decode cX12_image 20 = .ok (.bastore, 1) := by decide +kernel
theorem dX12_image_21 : decode cX12_image 21 = .ok (.iconst 0, 1) := by decide +kernel
theorem dX12_image_22 : decode cX12_image 22 = .ok (.istore_n 2, 1) := by decide +kernel
theorem dX12_image_23 : decode cX12_image 23 = .ok (.iload_n 2, 1) := by decide +kernel
theorem dX12_image_24 : decode cX12_image 24 = .ok (.sipush 296, 3) := by decide +kernel
theorem dX12_image_27 : decode cX12_image 27 = .ok (.if_icmp .ge 27, 3) := by decide +kernel
theorem dX12_image_30 : decode cX12_image 30 = .ok (.aload_n 0, 1) := by decide +kernel
theorem dX12_image_31 : decode cX12_image 31 = .ok (.getfield 77, 3) := by decide +kernel
theorem dX12_image_34 : decode cX12_image 34 = .ok (.sipush 296, 3) := by decide +kernel
theorem dX12_image_37 : decode cX12_image 37 = .ok (.iload_n 1, 1) := by decide +kernel
theorem dX12_image_38 : decode cX12_image 38 = .ok (.imul, 1) := by decide +kernel
theorem dX12_image_39 : decode cX12_image 39 = .ok (.iload_n 2, 1) := by decide +kernel
theorem dX12_image_40 : decode cX12_image 40 = .ok (.iadd, 1) := by decide +kernel
theorem dX12_image_41 : decode cX12_image 41 = .ok (.aload_n 0, 1) := by decide +kernel
theorem dX12_image_42 : decode cX12_image 42 = .ok (.getfield 45, 3) := by decide +kernel
theorem dX12_image_45 : decode cX12_image 45 = .ok (.iload_n 2, 1) := by decide +kernel
theorem dX12_image_46 : decode cX12_image 46 = .ok (.iaload, 1) := by decide +kernel
theorem dX12_image_47 : decode cX12_image 47 = .ok (.iastore, 1) := by decide +kernel
theorem dX12_image_48 : decode cX12_image 48 = .ok (.iinc 2 1, 3) := by decide +kernel
theorem dX12_image_51 : decode cX12_image 51 = .ok (.goto (-28), 3) := by decide +kernel
theorem dX12_image_54 : decode cX12_image 54 = .ok (.aload_n 0, 1) := by decide +kernel
theorem dX12_image_55 : decode cX12_image 55 = .ok (.getfield 45, 3) := by decide +kernel
theorem dX12_image_58 : decode cX12_image 58 = .ok (.iconst 5, 1) := by decide +kernel
theorem dX12_image_59 : decode cX12_image 59 = .ok (.iaload, 1) := by decide +kernel
theorem dX12_image_60 : decode cX12_image 60 = .ok (.ireturn, 1) := by decide +kernel
set_option maxRecDepth 20000 in
theorem ggX12_back_X12_in : GoodIn wsX12_back wsX12_in := goodIn_r _ [8] (by decide +kernel) (by decide +kernel)
set_option maxRecDepth 20000 in
theorem gX12_back_X12_in : GoodIn wsX12_back (va_wsS RX12 122 yX12_in wsX12_in) := goodIn_app (goodIn_of _ (by decide +kernel)) ggX12_back_X12_in
theorem dX12_back_0 : decode cX12_back 0 = .ok (.iload_n 1, 1) := by decide +kernel
theorem dX12_back_1 : decode cX12_back 1 = .ok (.i2l, 1) := by decide +kernel
theorem dX12_back_2 : decode cX12_back 2 = .ok (.lconst 0, 1) := by decide +kernel
theorem dX12_back_3 : decode cX12_back 3 = .ok (.ldc2_w 345, 3) := by decide +kernel
theorem dX12_back_6 : decode cX12_back 6 = .ok (.invokestatic 122, 3) := by decide +kernel
theorem dX12_back_9 : decode cX12_back 9 = .ok (.ifCond .eq 12, 3) := by decide +kernel
theorem dX12_back_12 : decode cX12_back 12 = .ok (.aload_n 0, 1) := by decide +kernel
theorem dX12_back_13 : decode cX12_back 13 = .ok (.getfield 80, 3) := by decide +kernel
theorem dX12_back_16 : decode cX12_back 16 = .ok (.iload_n 1, 1) := by decide +kernel
theorem dX12_back_17 : decode cX12_back 17 = .ok (.baload, 1) := by decide +kernel
theorem dX12_back_18 : decode cX12_back 18 = .ok (.ifCond .ne 5, 3) := by decide +kernel
theorem dX12_back_21 : decode cX12_back 21 = .ok (.iconst (-1), 1) := by decide +kernel
theorem dX12_back_22 : decode cX12_back 22 = .ok (.ireturn, 1) := by decide +kernel
theorem dX12_back_23 : decode cX12_back 23 = .ok (.iconst 0, 1) := by decide +kernel
theorem dX12_back_24 : decode cX12_back 24 = .ok (.istore_n 2, 1) := by decide +kernel
theorem dX12_back_25 : decode cX12_back 25 = .ok (.iload_n 2, 1) := by decide +kernel
theorem dX12_back_26 : decode cX12_back 26 = .ok (.sipush 296, 3) := by decide +kernel
theorem dX12_back_29 : decode cX12_back 29 = .ok (.if_icmp .ge 27, 3) := by decide +kernel
theorem dX12_back_32 : decode cX12_back 32 = .ok (.aload_n 0, 1) := by decide +kernel
theorem dX12_back_33 : decode cX12_back 33 = .ok (.getfield 45, 3) := by decide +kernel
theorem dX12_back_36 : decode cX12_back 36 = .ok (.iload_n 2, 1) := by decide +kernel
theorem dX12_back_37 : decode cX12_back 37 = .ok (.aload_n 0, 1) := by decide +kernel
theorem dX12_back_38 : decode cX12_back 38 = .ok (.getfield 77, 3) := by decide +kernel
theorem dX12_back_41 : decode cX12_back 41 = .ok (.sipush 296, 3) := by decide +kernel
theorem dX12_back_44 : decode cX12_back 44 = .ok (.iload_n 1, 1) := by decide +kernel
theorem dX12_back_45 : decode cX12_back 45 = .ok (.imul, 1) := by decide +kernel
theorem dX12_back_46 : decode cX12_back 46 = .ok (.iload_n 2, 1) := by decide +kernel
theorem dX12_back_47 : decode cX12_back 47 = .ok (.iadd, 1) := by decide +kernel
theorem dX12_back_48 : decode cX12_back 48 = .ok (.iaload, 1) := by decide +kernel
theorem dX12_back_49 : decode cX12_back 49 = .ok (.iastore, 1) := by decide +kernel
theorem dX12_back_50 : decode cX12_back 50 = .ok (.iinc 2 1, 3) := by decide +kernel
theorem dX12_back_53 : decode cX12_back 53 = .ok (.goto (-28), 3) := by decide +kernel
theorem dX12_back_56 : decode cX12_back 56 = .ok (.aload_n 0, 1) := by decide +kernel
theorem dX12_back_57 : decode cX12_back 57 = .ok (.getfield 45, 3) := by decide +kernel
theorem dX12_back_60 : decode cX12_back 60 = .ok (.iconst 5, 1) := by decide +kernel
theorem dX12_back_61 : decode cX12_back 61 = .ok (.iaload, 1) := by decide +kernel
theorem dX12_back_62 : decode cX12_back 62 = .ok (.ireturn, 1) := by decide +kernel
