set_option maxRecDepth 20000 in
theorem gX12_open_X12_isAt : GoodIn wsX12_open (wsV RX12 314 RX12 yX12_isAt wsX12_isAt) := goodIn_app (goodIn_of _ (by decide +kernel)) ggX12_open_X12_isAt
set_option maxRecDepth 20000 in
theorem ggX12_open_X12_isHour : GoodIn wsX12_open wsX12_isHour := goodIn_r _ [21, 22] (by decide +kernel) (by decide +kernel)
set_option maxRecDepth 20000 in
theorem gX12_open_X12_isHour : GoodIn wsX12_open (va_wsS RX12 331 yX12_isHour wsX12_isHour) := goodIn_app (goodIn_of _ (by decide +kernel)) ggX12_open_X12_isHour
set_option maxRecDepth 20000 in
theorem ggX12_open_X12_isOpen : GoodIn wsX12_open wsX12_isOpen := goodIn_r _ [26, 11, 12, 13, 4, 14, 15, 16, 17, 18, 6, 27, 28, 29, 30, 31, 32, 33, 34, 35, 36, 37, 38, 39, 40, 41, 42, 43, 44, 45, 46, 47, 48, 49, 50, 51, 52, 53, 54, 55, 56, 57, 58, 59, 60, 61, 62, 63, 64, 65, 66, 67, 68, 69, 70, 71, 72, 73, 74, 75, 76, 77, 78, 79, 80, 81, 82, 83, 84, 85, 86, 87, 88] (by decide +kernel) (by decide +kernel)
set_option maxRecDepth 20000 in
theorem gX12_open_X12_isOpen : GoodIn wsX12_open (wsV RX12 334 RX12 yX12_isOpen wsX12_isOpen) := goodIn_app (goodIn_of _ (by decide +kernel)) ggX12_open_X12_isOpen
theorem dX12_open_0 : decode cX12_open 0 = .ok (.aload_n 0, 1) := by decide +kernel
theorem dX12_open_1 : decode cX12_open 1 = .ok (.iload_n 1, 1) := by decide +kernel
theorem dX12_open_2 : decode cX12_open 2 = .ok (.invokevirtual 323, 3) := by decide +kernel
theorem dX12_open_5 : decode cX12_open 5 = .ok (.ifCond .eq 27, 3) := by decide +kernel
theorem dX12_open_8 : decode cX12_open 8 = .ok (.aload_n 0, 1) := by decide +kernel
theorem dX12_open_9 : decode cX12_open 9 = .ok (.iload_n 2, 1) := by decide +kernel
theorem dX12_open_10 : decode cX12_open 10 = .ok (.invokevirtual 328, 3) := by decide +kernel
theorem dX12_open_13 : decode cX12_open 13 = .ok (.ifCond .eq 19, 3) := by decide +kernel
theorem dX12_open_16 : decode cX12_open 16 = .ok (.aload_n 0, 1) := by decide +kernel
theorem dX12_open_17 : decode cX12_open 17 = .ok (.iload_n 1, 1) := by decide +kernel
theorem dX12_open_18 : decode cX12_open 18 = .ok (.iload_n 2, 1) := by decide +kernel
theorem dX12_open_19 : decode cX12_open 19 = .ok (.invokevirtual 314, 3) := by decide +kernel
theorem dX12_open_22 : decode cX12_open 22 = .ok (.ifCond .eq 10, 3) := by decide +kernel
theorem dX12_open_25 : decode cX12_open 25 = .ok (.iload_n 3, 1) := by decide +kernel
theorem dX12_open_26 : decode cX12_open 26 = .ok (.invokestatic 331, 3) := by decide +kernel
theorem dX12_open_29 : decode cX12_open 29 = .ok (.ifCond .ne 5, 3) := by decide +kernel
theorem dX12_open_32 : decode cX12_open 32 = .ok (.iconst (-1), 1) := by decide +kernel
theorem dX12_open_33 : decode cX12_open 33 = .ok (.ireturn, 1) := by decide +kernel
theorem dX12_open_34 : decode cX12_open 34 = .ok (.aload_n 0, 1) := by decide +kernel
theorem dX12_open_35 : decode cX12_open 35 = .ok (.iload_n 1, 1) := by decide +kernel
theorem dX12_open_36 : decode cX12_open 36 = .ok (.iload_n 2, 1) := by decide +kernel
theorem dX12_open_37 : decode cX12_open 37 = .ok (.iload_n 3, 1) := by decide +kernel
theorem dX12_open_38 : decode cX12_open 38 = .ok (.invokevirtual 334, 3) := by decide +kernel
theorem dX12_open_41 : decode cX12_open 41 = .ok (.ifCond .eq 7, 3) := by decide +kernel
theorem dX12_open_44 : decode cX12_open 44 = .ok (.iconst 1, 1) := by decide +kernel
theorem dX12_open_45 : decode cX12_open 45 = .ok (.goto 4, 3) := by decide +kernel
theorem dX12_open_48 : decode cX12_open 48 = .ok (.iconst 0, 1) := by decide +kernel
theorem dX12_open_49 : decode cX12_open 49 = .ok (.ireturn, 1) := by decide +kernel
set_option maxRecDepth 20000 in
theorem ggX12_print_X12_isTown : GoodIn wsX12_print wsX12_isTown := goodIn_r _ [7, 2, 15, 16, 17, 18, 19, 20, 21, 22, 23, 24, 25, 26, 27, 28, 29, 30, 31, 32, 33, 34, 35, 36, 37, 38, 39, 40, 41, 42, 43, 44, 45, 46, 47, 48, 49, 50, 51, 52, 53, 54, 55, 56] (by decide +kernel) (by decide +kernel)
set_option maxRecDepth 20000 in
theorem gX12_print_X12_isTown : GoodIn wsX12_print (wsV RX12 337 RX12 yX12_isTown wsX12_isTown) := goodIn_app (goodIn_of _ (by decide +kernel)) ggX12_print_X12_isTown
set_option maxRecDepth 20000 in
theorem ggX12_print_X12_in : GoodIn wsX12_print wsX12_in := goodIn_r _ [10] (by decide +kernel) (by decide +kernel)
set_option maxRecDepth 20000 in
theorem gX12_print_X12_in : GoodIn wsX12_print (va_wsS RX12 122 yX12_in wsX12_in) := goodIn_app (goodIn_of _ (by decide +kernel)) ggX12_print_X12_in
set_option maxRecDepth 20000 in
theorem ggX12_print_X12_streetOf : GoodIn wsX12_print wsX12_streetOf := goodIn_r _ [14, 2, 15, 16, 17, 18, 19, 20, 21, 22, 23, 24, 25, 26, 27, 28, 29, 30, 31, 32, 33, 34, 35, 36, 37, 38, 39, 40, 41, 42, 43, 44, 45, 46, 47, 48, 49, 50, 51, 52, 53, 54, 55, 56] (by decide +kernel) (by decide +kernel)
set_option maxRecDepth 20000 in
theorem gX12_print_X12_streetOf : GoodIn wsX12_print (wsV RX12 300 RX12 yX12_streetOf wsX12_streetOf) := goodIn_app (goodIn_of _ (by decide +kernel)) ggX12_print_X12_streetOf
theorem dX12_print_0 : decode cX12_print 0 = .ok (.aload_n 0, 1) := by decide +kernel
theorem dX12_print_1 : decode cX12_print 1 = .ok (.invokevirtual 337, 3) := by decide +kernel
theorem dX12_print_4 : decode cX12_print 4 = .ok (.ifCond .eq 25, 3) := by decide +kernel
theorem dX12_print_7 : decode cX12_print 7 = .ok (.iload_n 1, 1) := by decide +kernel
theorem dX12_print_8 : decode cX12_print 8 = .ok (.i2l, 1) := by decide +kernel
theorem dX12_print_9 : decode cX12_print 9 = .ok (.lconst 0, 1) := by decide +kernel
theorem dX12_print_10 : decode cX12_print 10 = .ok (.ldc2_w 340, 3) := by decide +kernel
theorem dX12_print_13 : decode cX12_print 13 = .ok (.invokestatic 122, 3) := by decide +kernel
theorem dX12_print_16 : decode cX12_print 16 = .ok (.ifCond .eq 13, 3) := by decide +kernel
theorem dX12_print_19 : decode cX12_print 19 = .ok (.aload_n 0, 1) := by decide +kernel
theorem dX12_print_20 : decode cX12_print 20 = .ok (.getfield 45, 3) := by decide +kernel
theorem dX12_print_23 : decode cX12_print 23 = .ok (.iconst 4, 1) := by decide +kernel
theorem dX12_print_24 : decode cX12_print 24 = .ok (.iaload, 1) := by decide +kernel
theorem dX12_print_25 : decode cX12_print 25 = .ok (.iconst 4, 1) := by decide +kernel
theorem dX12_print_26 : decode cX12_print 26 = .ok (.if_icmp .ne 6, 3) := by decide +kernel
theorem dX12_print_29 : decode cX12_print 29 = .ok (.bipush (-2), 2) := by decide +kernel
theorem dX12_print_31 : decode cX12_print 31 = .ok (.ireturn, 1) := by decide +kernel
theorem dX12_print_32 : decode cX12_print 32 = .ok (.iconst 0, 1) := by decide +kernel
theorem dX12_print_33 : decode cX12_print 33 = .ok (.istore_n 2, 1) := by decide +kernel
theorem dX12_print_34 : decode cX12_print 34 = .ok (.iload_n 2, 1) := by decide +kernel
theorem dX12_print_35 : decode cX12_print 35 = .ok (.aload_n 0, 1) := by decide +kernel
theorem dX12_print_36 : decode cX12_print 36 = .ok (.getfield 45, 3) := by decide +kernel
theorem dX12_print_39 : decode cX12_print 39 = .ok (.iconst 1, 1) := by decide +kernel
theorem dX12_print_40 : decode cX12_print 40 = .ok (.iaload, 1) := by decide +kernel
theorem dX12_print_41 : decode cX12_print 41 = .ok (.if_icmp .ge 37, 3) := by decide +kernel
theorem dX12_print_44 : decode cX12_print 44 = .ok (.aload_n 0, 1) := by decide +kernel
theorem dX12_print_45 : decode cX12_print 45 = .ok (.getfield 45, 3) := by decide +kernel
theorem dX12_print_48 : decode cX12_print 48 = .ok (.sipush 168, 3) := by decide +kernel
theorem dX12_print_51 : decode cX12_print 51 = .ok (.bipush 12, 2) := by decide +kernel
theorem dX12_print_53 : decode cX12_print 53 = .ok (.aload_n 0, 1) := by decide +kernel
theorem dX12_print_54 : decode cX12_print 54 = .ok (.getfield 45, 3) := by decide +kernel
theorem dX12_print_57 : decode cX12_print 57 = .ok (.iconst 4, 1) := by decide +kernel
theorem dX12_print_58 : decode cX12_print 58 = .ok (.iaload, 1) := by decide +kernel
theorem dX12_print_59 : decode cX12_print 59 = .ok (.imul, 1) := by decide +kernel
theorem dX12_print_60 : decode cX12_print 60 = .ok (.iadd, 1) := by decide +kernel
theorem dX12_print_61 : decode cX12_print 61 = .ok (.iload_n 2, 1) := by decide +kernel
theorem dX12_print_62 : decode cX12_print 62 = .ok (.iadd, 1) := by decide +kernel
theorem dX12_print_63 : decode cX12_print 63 = .ok (.aload_n 0, 1) := by decide +kernel
theorem dX12_print_64 : decode cX12_print 64 = .ok (.iload_n 2, 1) := by decide +kernel
theorem dX12_print_65 : decode cX12_print 65 = .ok (.iconst 3, 1) := by decide +kernel
theorem dX12_print_66 : decode cX12_print 66 = .ok (.iload_n 1, 1) := by decide +kernel
theorem dX12_print_67 : decode cX12_print 67 = .ok (.iadd, 1) := by decide +kernel
theorem dX12_print_68 : decode cX12_print 68 = .ok (.invokevirtual 300, 3) := by decide +kernel
theorem dX12_print_71 : decode cX12_print 71 = .ok (.iastore, 1) := by decide +kernel
theorem dX12_print_72 : decode cX12_print 72 = .ok (.iinc 2 1, 3) := by decide +kernel
theorem dX12_print_75 : decode cX12_print 75 = .ok (.goto (-41), 3) := by decide +kernel
theorem dX12_print_78 : decode cX12_print 78 = .ok (.aload_n 0, 1) := by decide +kernel
theorem dX12_print_79 : decode cX12_print 79 = .ok (.getfield 45, 3) := by decide +kernel
theorem dX12_print_82 : decode cX12_print 82 = .ok (.iconst 4, 1) := by decide +kernel
theorem dX12_print_83 : decode cX12_print 83 = .ok (.dup2, 1) := by decide +kernel
theorem dX12_print_84 : decode cX12_print 84 = .ok (.iaload, 1) := by decide +kernel
theorem dX12_print_85 : decode cX12_print 85 = .ok (.iconst 1, 1) := by decide +kernel
theorem dX12_print_86 : decode cX12_print 86 = .ok (.iadd, 1) := by decide +kernel
theorem dX12_print_87 : decode cX12_print 87 = .ok (.iastore, 1) := by decide +kernel
theorem dX12_print_88 : decode cX12_print 88 = .ok (.aload_n 0, 1) := by decide +kernel
theorem dX12_print_89 : decode cX12_print 89 = .ok (.getfield 45, 3) := by decide +kernel
theorem dX12_print_92 : decode cX12_print 92 = .ok (.iconst 4, 1) := by decide +kernel
theorem dX12_print_93 : decode cX12_print 93 = .ok (.iaload, 1) := by decide +kernel
theorem dX12_print_94 : decode cX12_print 94 = .ok (.iconst 1, 1) := by decide +kernel
theorem dX12_print_95 : decode cX12_print 95 = .ok (.isub, 1) := by decide +kernel
theorem dX12_print_96 : decode cX12_print 96 = .ok (.ireturn, 1) := by decide +kernel
set_option maxRecDepth 20000 in
theorem ggX12_misprint_X12_isMap : GoodIn wsX12_misprint wsX12_isMap := goodIn_r _ [7, 2, 15, 16, 17, 18, 19, 20, 21, 22, 23, 24, 25, 26, 27, 28, 29, 30, 31, 32, 33, 34, 35, 36, 37, 38, 39, 40, 41, 42, 43, 44, 45, 46, 47, 48, 49, 50, 51, 52, 53, 54, 55, 56] (by decide +kernel) (by decide +kernel)
set_option maxRecDepth 20000 in
theorem gX12_misprint_X12_isMap : GoodIn wsX12_misprint (wsV RX12 342 RX12 yX12_isMap wsX12_isMap) := goodIn_app (goodIn_of _ (by decide +kernel)) ggX12_misprint_X12_isMap
set_option maxRecDepth 20000 in
theorem ggX12_misprint_X12_isStreet : GoodIn wsX12_misprint wsX12_isStreet := goodIn_r _ [11, 2, 15, 16, 17, 18, 19, 20, 21, 22, 23, 24, 25, 26, 27, 28, 29, 30, 31, 32, 33, 34, 35, 36, 37, 38, 39, 40, 41, 42, 43, 44, 45, 46, 47, 48, 49, 50, 51, 52, 53, 54, 55, 56] (by decide +kernel) (by decide +kernel)
set_option maxRecDepth 20000 in
theorem gX12_misprint_X12_isStreet : GoodIn wsX12_misprint (wsV RX12 323 RX12 yX12_isStreet wsX12_isStreet) := goodIn_app (goodIn_of _ (by decide +kernel)) ggX12_misprint_X12_isStreet
set_option maxRecDepth 20000 in
theorem ggX12_misprint_X12_in : GoodIn wsX12_misprint wsX12_in := goodIn_r _ [14] (by decide +kernel) (by decide +kernel)
set_option maxRecDepth 20000 in
theorem gX12_misprint_X12_in : GoodIn wsX12_misprint (va_wsS RX12 122 yX12_in wsX12_in) := goodIn_app (goodIn_of _ (by decide +kernel)) ggX12_misprint_X12_in
theorem dX12_misprint_0 : decode cX12_misprint 0 = .ok (.aload_n 0, 1) := by decide +kernel
theorem dX12_misprint_1 : decode cX12_misprint 1 = .ok (.iload_n 1, 1) := by decide +kernel
theorem dX12_misprint_2 : decode cX12_misprint 2 = .ok (.invokevirtual 342, 3) := by decide +kernel
theorem dX12_misprint_5 : decode cX12_misprint 5 = .ok (.ifCond .eq 23, 3) := by decide +kernel
theorem dX12_misprint_8 : decode cX12_misprint 8 = .ok (.aload_n 0, 1) := by decide +kernel
theorem dX12_misprint_9 : decode cX12_misprint 9 = .ok (.iload_n 2, 1) := by decide +kernel
theorem dX12_misprint_10 : decode cX12_misprint 10 = .ok (.invokevirtual 323, 3) := by decide +kernel
theorem dX12_misprint_13 : decode cX12_misprint 13 = .ok (.ifCond .eq 15, 3) := by decide +kernel
theorem dX12_misprint_16 : decode cX12_misprint 16 = .ok (.iload_n 3, 1) := by decide +kernel
theorem dX12_misprint_17 : decode cX12_misprint 17 = .ok (.i2l, 1) := by decide +kernel
theorem dX12_misprint_18 : decode cX12_misprint 18 = .ok (.lconst 0, 1) := by decide +kernel
theorem dX12_misprint_19 : decode cX12_misprint 19 = .ok (.ldc2_w 345, 3) := by decide +kernel
theorem dX12_misprint_22 : decode cX12_misprint 22 = .ok (.invokestatic 122, 3) := by decide +kernel
theorem dX12_misprint_25 : decode cX12_misprint 25 = .ok (.ifCond .ne 5, 3) := by decide +kernel
theorem dX12_misprint_28 : decode cX12_misprint 28 = .ok (.iconst (-1), 1) := by decide +kernel
theorem dX12_misprint_29 : decode cX12_misprint 29 = .ok (.ireturn, 1) := by decide +kernel
theorem dX12_misprint_30 : decode cX12_misprint 30 = .ok (.aload_n 0, 1) := by decide +kernel
theorem dX12_misprint_31 : decode cX12_misprint 31 = .ok (.getfield 45, 3) := by decide +kernel
theorem dX12_misprint_34 : decode cX12_misprint 34 = .ok (.sipush 168, 3) := by decide +kernel
theorem dX12_misprint_37 : decode cX12_misprint 37 = .ok (.bipush 12, 2) := by decide +kernel
theorem dX12_misprint_39 : decode cX12_misprint 39 = .ok (.iload_n 1, 1) := by decide +kernel
theorem dX12_misprint_40 : decode cX12_misprint 40 = .ok (.imul, 1) := by decide +kernel
theorem dX12_misprint_41 : decode cX12_misprint 41 = .ok (.iadd, 1) := by decide +kernel
theorem dX12_misprint_42 : decode cX12_misprint 42 = .ok (.iload_n 2, 1) := by decide +kernel
theorem dX12_misprint_43 : decode cX12_misprint 43 = .ok (.iadd, 1) := by decide +kernel
theorem dX12_misprint_44 : decode cX12_misprint 44 = .ok (.iaload, 1) := by decide +kernel
theorem dX12_misprint_45 : decode cX12_misprint 45 = .ok (.istore 4, 2) := by decide +kernel
theorem dX12_misprint_47 : decode cX12_misprint 47 = .ok (.aload_n 0, 1) := by decide +kernel
theorem dX12_misprint_48 : decode cX12_misprint 48 = .ok (.getfield 45, 3) := by decide +kernel
theorem dX12_misprint_51 : decode cX12_misprint 51 = .ok (.sipush 168, 3) := by decide +kernel
theorem dX12_misprint_54 : decode cX12_misprint 54 = .ok (.bipush 12, 2) := by decide +kernel
theorem dX12_misprint_56 : decode cX12_misprint 56 = .ok (.iload_n 1, 1) := by decide +kernel
theorem dX12_misprint_57 : decode cX12_misprint 57 = .ok (.imul, 1) := by decide +kernel
theorem dX12_misprint_58 : decode cX12_misprint 58 = .ok (.iadd, 1) := by decide +kernel
theorem dX12_misprint_59 : decode cX12_misprint 59 = .ok (.iload_n 2, 1) := by decide +kernel
theorem dX12_misprint_60 : decode cX12_misprint 60 = .ok (.iadd, 1) := by decide +kernel
theorem dX12_misprint_61 : decode cX12_misprint 61 = .ok (.iload_n 3, 1) := by decide +kernel
theorem dX12_misprint_62 : decode cX12_misprint 62 = .ok (.iastore, 1) := by decide +kernel
theorem dX12_misprint_63 : decode cX12_misprint 63 = .ok (.iload 4, 2) := by decide +kernel
theorem dX12_misprint_65 : decode cX12_misprint 65 = .ok (.ireturn, 1) := by decide +kernel
set_option maxRecDepth 20000 in
theorem ggX12_shown_X12_isMap : GoodIn wsX12_shown wsX12_isMap := goodIn_r _ [6, 1, 11, 12, 13, 14, 15, 16, 17, 18, 19, 20, 21, 22, 23, 24, 25, 26, 27, 28, 29, 30, 31, 32, 33, 34, 35, 36, 37, 38, 39, 40, 41, 42, 43, 44, 45, 46, 47, 48, 49, 50, 51, 52] (by decide +kernel) (by decide +kernel)
set_option maxRecDepth 20000 in
theorem gX12_shown_X12_isMap : GoodIn wsX12_shown (wsV RX12 342 RX12 yX12_isMap wsX12_isMap) := goodIn_app (goodIn_of _ (by decide +kernel)) ggX12_shown_X12_isMap
set_option maxRecDepth 20000 in
theorem ggX12_shown_X12_isStreet : GoodIn wsX12_shown wsX12_isStreet := goodIn_r _ [10, 1, 11, 12, 13, 14, 15, 16, 17, 18, 19, 20, 21, 22, 23, 24, 25, 26, 27, 28, 29, 30, 31, 32, 33, 34, 35, 36, 37, 38, 39, 40, 41, 42, 43, 44, 45, 46, 47, 48, 49, 50, 51, 52] (by decide +kernel) (by decide +kernel)
set_option maxRecDepth 20000 in
theorem gX12_shown_X12_isStreet : GoodIn wsX12_shown (wsV RX12 323 RX12 yX12_isStreet wsX12_isStreet) := goodIn_app (goodIn_of _ (by decide +kernel)) ggX12_shown_X12_isStreet
theorem dX12_shown_0 : decode cX12_shown 0 = .ok (.aload_n 0, 1) := by decide +kernel
theorem dX12_shown_1 : decode cX12_shown 1 = .ok (.iload_n 1, 1) := by decide +kernel
theorem dX12_shown_2 : decode cX12_shown 2 = .ok (.invokevirtual 342, 3) := by decide +kernel
theorem dX12_shown_5 : decode cX12_shown 5 = .ok (.ifCond .eq 29, 3) := by decide +kernel
theorem dX12_shown_8 : decode cX12_shown 8 = .ok (.aload_n 0, 1) := by decide +kernel
theorem dX12_shown_9 : decode cX12_shown 9 = .ok (.iload_n 2, 1) := by decide +kernel
theorem dX12_shown_10 : decode cX12_shown 10 = .ok (.invokevirtual 323, 3) := by decide +kernel
theorem dX12_shown_13 : decode cX12_shown 13 = .ok (.ifCond .eq 21, 3) := by decide +kernel
theorem dX12_shown_16 : decode cX12_shown 16 = .ok (.aload_n 0, 1) := by decide +kernel
theorem dX12_shown_17 : decode cX12_shown 17 = .ok (.getfield 45, 3) := by decide +kernel
theorem dX12_shown_20 : decode cX12_shown 20 = .ok (.sipush 168, 3) := by decide +kernel
theorem dX12_shown_23 : decode cX12_shown 23 = .ok (.bipush 12, 2) := by decide +kernel
theorem dX12_shown_25 : decode cX12_shown 25 = .ok (.iload_n 1, 1) := by decide +kernel
theorem dX12_shown_26 : decode cX12_shown 26 = .ok (.imul, 1) := by decide +kernel
theorem dX12_shown_27 : decode cX12_shown 27 = .ok (.iadd, 1) := by decide +kernel
theorem dX12_shown_28 : decode cX12_shown 28 = .ok (.iload_n 2, 1) := by decide +kernel
theorem dX12_shown_29 : decode cX12_shown 29 = .ok (.iadd, 1) := by decide +kernel
theorem dX12_shown_30 : decode cX12_shown 30 = .ok (.iaload, 1) := by decide +kernel
theorem dX12_shown_31 : decode cX12_shown 31 = .ok (.goto 4, 3) := by decide +kernel
theorem dX12_shown_34 : decode cX12_shown 34 = .ok (.iconst (-1), 1) := by decide +kernel
theorem dX12_shown_35 : decode cX12_shown 35 = .ok (.ireturn, 1) := by decide +kernel
theorem dX12_takesMap_0 : decode cX12_takesMap 0 = .ok (.iconst 0, 1) := by decide +kernel
theorem dX12_takesMap_1 : decode cX12_takesMap 1 = .ok (.istore_n 2, 1) := by decide +kernel
theorem dX12_takesMap_2 : decode cX12_takesMap 2 = .ok (.iload_n 2, 1) := by decide +kernel
theorem dX12_takesMap_3 : decode cX12_takesMap 3 = .ok (.aload_n 0, 1) := by decide +kernel
theorem dX12_takesMap_4 : decode cX12_takesMap 4 = .ok (.getfield 45, 3) := by decide +kernel
theorem dX12_takesMap_7 : decode cX12_takesMap 7 = .ok (.iconst 1, 1) := by decide +kernel
theorem dX12_takesMap_8 : decode cX12_takesMap 8 = .ok (.iaload, 1) := by decide +kernel
theorem dX12_takesMap_9 : decode cX12_takesMap 9 = .ok (.if_icmp .ge 30, 3) := by decide +kernel
theorem dX12_takesMap_12 : decode cX12_takesMap 12 = .ok (.aload_n 0, 1) := by decide +kernel
theorem dX12_takesMap_13 : decode cX12_takesMap 13 = .ok (.getfield 52, 3) := by decide +kernel
theorem dX12_takesMap_16 : decode cX12_takesMap 16 = .ok (.iload_n 2, 1) := by decide +kernel
theorem dX12_takesMap_17 : decode cX12_takesMap 17 = .ok (.aload_n 0, 1) := by decide +kernel
theorem dX12_takesMap_18 : decode cX12_takesMap 18 = .ok (.getfield 45, 3) := by decide +kernel
theorem dX12_takesMap_21 : decode cX12_takesMap 21 = .ok (.sipush 168, 3) := by decide +kernel
theorem dX12_takesMap_24 : decode cX12_takesMap 24 = .ok (.bipush 12, 2) := by decide +kernel
theorem dX12_takesMap_26 : decode cX12_takesMap 26 = .ok (.iload_n 1, 1) := by decide +kernel
theorem dX12_takesMap_27 : decode cX12_takesMap 27 = .ok (.imul, 1) := by decide +kernel
theorem dX12_takesMap_28 : decode cX12_takesMap 28 = .ok (.iadd, 1) := by decide +kernel
theorem dX12_takesMap_29 : decode cX12_takesMap 29 = .ok (.iload_n 2, 1) := by decide +kernel
theorem dX12_takesMap_30 : decode cX12_takesMap 30 = .ok (.iadd, 1) := by decide +kernel
theorem dX12_takesMap_31 : decode cX12_takesMap 31 = .ok (.iaload, 1) := by decide +kernel
theorem dX12_takesMap_32 : decode cX12_takesMap 32 = .ok (.iastore, 1) := by decide +kernel
theorem dX12_takesMap_33 : decode cX12_takesMap 33 = .ok (.iinc 2 1, 3) := by decide +kernel
theorem dX12_takesMap_36 : decode cX12_takesMap 36 = .ok (.goto (-34), 3) := by decide +kernel
theorem dX12_takesMap_39 : decode cX12_takesMap 39 = .ok (.return_, 1) := by decide +kernel
set_option maxRecDepth 20000 in
theorem ggX12_takesDay_X12_streetOf : GoodIn wsX12_takesDay wsX12_streetOf := goodIn_r _ [7, 1, 8, 9, 10, 11, 12, 13, 14, 15, 16, 17, 18, 19, 20, 21, 22, 23, 24, 25, 26, 27, 28, 29, 30, 31, 32, 33, 34, 35, 36, 37, 38, 39, 40, 41, 42, 43, 44, 45, 46, 47, 48, 49] (by decide +kernel) (by decide +kernel)
set_option maxRecDepth 20000 in
theorem gX12_takesDay_X12_streetOf : GoodIn wsX12_takesDay (wsV RX12 300 RX12 yX12_streetOf wsX12_streetOf) := goodIn_app (goodIn_of _ (by decide +kernel)) ggX12_takesDay_X12_streetOf
theorem dX12_takesDay_0 : decode cX12_takesDay 0 = .ok (.iconst 0, 1) := by decide +kernel
theorem dX12_takesDay_1 : decode cX12_takesDay 1 = .ok (.istore_n 2, 1) := by decide +kernel
theorem dX12_takesDay_2 : decode cX12_takesDay 2 = .ok (.iload_n 2, 1) := by decide +kernel
theorem dX12_takesDay_3 : decode cX12_takesDay 3 = .ok (.aload_n 0, 1) := by decide +kernel
theorem dX12_takesDay_4 : decode cX12_takesDay 4 = .ok (.getfield 45, 3) := by decide +kernel
theorem dX12_takesDay_7 : decode cX12_takesDay 7 = .ok (.iconst 1, 1) := by decide +kernel
theorem dX12_takesDay_8 : decode cX12_takesDay 8 = .ok (.iaload, 1) := by decide +kernel
theorem dX12_takesDay_9 : decode cX12_takesDay 9 = .ok (.if_icmp .ge 23, 3) := by decide +kernel
theorem dX12_takesDay_12 : decode cX12_takesDay 12 = .ok (.aload_n 0, 1) := by decide +kernel
theorem dX12_takesDay_13 : decode cX12_takesDay 13 = .ok (.getfield 52, 3) := by decide +kernel
theorem dX12_takesDay_16 : decode cX12_takesDay 16 = .ok (.iload_n 2, 1) := by decide +kernel
theorem dX12_takesDay_17 : decode cX12_takesDay 17 = .ok (.aload_n 0, 1) := by decide +kernel
theorem dX12_takesDay_18 : decode cX12_takesDay 18 = .ok (.iload_n 2, 1) := by decide +kernel
theorem dX12_takesDay_19 : decode cX12_takesDay 19 = .ok (.iconst 3, 1) := by decide +kernel
theorem dX12_takesDay_20 : decode cX12_takesDay 20 = .ok (.iload_n 1, 1) := by decide +kernel
theorem dX12_takesDay_21 : decode cX12_takesDay 21 = .ok (.iadd, 1) := by decide +kernel
theorem dX12_takesDay_22 : decode cX12_takesDay 22 = .ok (.invokevirtual 300, 3) := by decide +kernel
theorem dX12_takesDay_25 : decode cX12_takesDay 25 = .ok (.iastore, 1) := by decide +kernel
theorem dX12_takesDay_26 : decode cX12_takesDay 26 = .ok (.iinc 2 1, 3) := by decide +kernel
theorem dX12_takesDay_29 : decode cX12_takesDay 29 = .ok (.goto (-27), 3) := by decide +kernel
theorem dX12_takesDay_32 : decode cX12_takesDay 32 = .ok (.return_, 1) := by decide +kernel
set_option maxRecDepth 20000 in
theorem ggX12_spreads_X12_streetOf : GoodIn wsX12_spreads wsX12_streetOf := goodIn_r _ [9, 3, 13, 14, 15, 16, 17, 18, 19, 20, 21, 22, 23, 24, 25, 26, 27, 28, 29, 30, 31, 32, 33, 34, 35, 36, 37, 38, 39, 40, 41, 42, 43, 44, 45, 46, 47, 48, 49, 50, 51, 52, 53, 54] (by decide +kernel) (by decide +kernel)
set_option maxRecDepth 20000 in
theorem gX12_spreads_X12_streetOf : GoodIn wsX12_spreads (wsV RX12 300 RX12 yX12_streetOf wsX12_streetOf) := goodIn_app (goodIn_of _ (by decide +kernel)) ggX12_spreads_X12_streetOf
set_option maxRecDepth 20000 in
theorem ggX12_spreads_X12_isOf : GoodIn wsX12_spreads wsX12_isOf := goodIn_r _ [12] (by decide +kernel) (by decide +kernel)
set_option maxRecDepth 20000 in
theorem gX12_spreads_X12_isOf : GoodIn wsX12_spreads (va_wsS RX12 304 yX12_isOf wsX12_isOf) := goodIn_app (goodIn_of _ (by decide +kernel)) ggX12_spreads_X12_isOf
theorem dX12_spreads_0 : decode cX12_spreads 0 = .ok (.iconst 0, 1) := by decide +kernel
theorem dX12_spreads_1 : decode cX12_spreads 1 = .ok (.istore_n 2, 1) := by decide +kernel
theorem dX12_spreads_2 : decode cX12_spreads 2 = .ok (.iload_n 2, 1) := by decide +kernel
theorem dX12_spreads_3 : decode cX12_spreads 3 = .ok (.bipush 10, 2) := by decide +kernel
theorem dX12_spreads_5 : decode cX12_spreads 5 = .ok (.if_icmp .ge 27, 3) := by decide +kernel
theorem dX12_spreads_8 : decode cX12_spreads 8 = .ok (.aload_n 0, 1) := by decide +kernel
theorem dX12_spreads_9 : decode cX12_spreads 9 = .ok (.getfield 55, 3) := by decide +kernel
theorem dX12_spreads_12 : decode cX12_spreads 12 = .ok (.iload_n 2, 1) := by decide +kernel
theorem dX12_spreads_13 : decode cX12_spreads 13 = .ok (.iload_n 2, 1) := by decide +kernel
theorem dX12_spreads_14 : decode cX12_spreads 14 = .ok (.iload_n 1, 1) := by decide +kernel
theorem dX12_spreads_15 : decode cX12_spreads 15 = .ok (.if_icmp .ne 7, 3) := by decide +kernel
theorem dX12_spreads_18 : decode cX12_spreads 18 = .ok (.iconst 0, 1) := by decide +kernel
theorem dX12_spreads_19 : decode cX12_spreads 19 = .ok (.goto 6, 3) := by decide +kernel
theorem dX12_spreads_22 : decode cX12_spreads 22 = .ok (.ldc_w 347, 3) := by decide +kernel
theorem dX12_spreads_25 : decode cX12_spreads 25 = .ok (.iastore, 1) := by decide +kernel
theorem dX12_spreads_26 : decode cX12_spreads 26 = .ok (.iinc 2 1, 3) := by decide +kernel
theorem dX12_spreads_29 : decode cX12_spreads 29 = .ok (.goto (-27), 3) := by decide +kernel
theorem dX12_spreads_32 : decode cX12_spreads 32 = .ok (.iconst 1, 1) := by decide +kernel
theorem dX12_spreads_33 : decode cX12_spreads 33 = .ok (.istore_n 2, 1) := by decide +kernel
theorem dX12_spreads_34 : decode cX12_spreads 34 = .ok (.iload_n 2, 1) := by decide +kernel
theorem dX12_spreads_35 : decode cX12_spreads 35 = .ok (.ifCond .eq 113, 3) := by decide +kernel
theorem dX12_spreads_38 : decode cX12_spreads 38 = .ok (.iconst 0, 1) := by decide +kernel
theorem dX12_spreads_39 : decode cX12_spreads 39 = .ok (.istore_n 2, 1) := by decide +kernel
theorem dX12_spreads_40 : decode cX12_spreads 40 = .ok (.iconst 0, 1) := by decide +kernel
theorem dX12_spreads_41 : decode cX12_spreads 41 = .ok (.istore_n 3, 1) := by decide +kernel
theorem dX12_spreads_42 : decode cX12_spreads 42 = .ok (.iload_n 3, 1) := by decide +kernel
theorem dX12_spreads_43 : decode cX12_spreads 43 = .ok (.aload_n 0, 1) := by decide +kernel
theorem dX12_spreads_44 : decode cX12_spreads 44 = .ok (.getfield 45, 3) := by decide +kernel
theorem dX12_spreads_47 : decode cX12_spreads 47 = .ok (.iconst 1, 1) := by decide +kernel
theorem dX12_spreads_48 : decode cX12_spreads 48 = .ok (.iaload, 1) := by decide +kernel
theorem dX12_spreads_49 : decode cX12_spreads 49 = .ok (.if_icmp .ge 96, 3) := by decide +kernel
theorem dX12_spreads_52 : decode cX12_spreads 52 = .ok (.iconst 0, 1) := by decide +kernel
theorem dX12_spreads_53 : decode cX12_spreads 53 = .ok (.istore 4, 2) := by decide +kernel
theorem dX12_spreads_55 : decode cX12_spreads 55 = .ok (.iload 4, 2) := by decide +kernel
theorem dX12_spreads_57 : decode cX12_spreads 57 = .ok (.iconst 2, 1) := by decide +kernel
theorem dX12_spreads_58 : decode cX12_spreads 58 = .ok (.if_icmp .ge 81, 3) := by decide +kernel
theorem dX12_spreads_61 : decode cX12_spreads 61 = .ok (.aload_n 0, 1) := by decide +kernel
theorem dX12_spreads_62 : decode cX12_spreads 62 = .ok (.iload_n 3, 1) := by decide +kernel
theorem dX12_spreads_63 : decode cX12_spreads 63 = .ok (.iload 4, 2) := by decide +kernel
theorem dX12_spreads_65 : decode cX12_spreads 65 = .ok (.invokevirtual 300, 3) := by decide +kernel
theorem dX12_spreads_68 : decode cX12_spreads 68 = .ok (.istore 5, 2) := by decide +kernel
theorem dX12_spreads_70 : decode cX12_spreads 70 = .ok (.aload_n 0, 1) := by decide +kernel
theorem dX12_spreads_71 : decode cX12_spreads 71 = .ok (.getfield 55, 3) := by decide +kernel
theorem dX12_spreads_74 : decode cX12_spreads 74 = .ok (.aload_n 0, 1) := by decide +kernel
theorem dX12_spreads_75 : decode cX12_spreads 75 = .ok (.iload_n 3, 1) := by decide +kernel
theorem dX12_spreads_76 : decode cX12_spreads 76 = .ok (.iconst 1, 1) := by decide +kernel
theorem dX12_spreads_77 : decode cX12_spreads 77 = .ok (.iload 4, 2) := by decide +kernel
theorem dX12_spreads_79 : decode cX12_spreads 79 = .ok (.isub, 1) := by decide +kernel
theorem dX12_spreads_80 : decode cX12_spreads 80 = .ok (.invokevirtual 300, 3) := by decide +kernel
theorem dX12_spreads_83 : decode cX12_spreads 83 = .ok (.iaload, 1) := by decide +kernel
theorem dX12_spreads_84 : decode cX12_spreads 84 = .ok (.aload_n 0, 1) := by decide +kernel
theorem dX12_spreads_85 : decode cX12_spreads 85 = .ok (.iload_n 3, 1) := by decide +kernel
theorem dX12_spreads_86 : decode cX12_spreads 86 = .ok (.iconst 2, 1) := by decide +kernel
theorem dX12_spreads_87 : decode cX12_spreads 87 = .ok (.invokevirtual 300, 3) := by decide +kernel
theorem dX12_spreads_90 : decode cX12_spreads 90 = .ok (.iadd, 1) := by decide +kernel
theorem dX12_spreads_91 : decode cX12_spreads 91 = .ok (.istore 6, 2) := by decide +kernel
theorem dX12_spreads_93 : decode cX12_spreads 93 = .ok (.aload_n 0, 1) := by decide +kernel
theorem dX12_spreads_94 : decode cX12_spreads 94 = .ok (.getfield 52, 3) := by decide +kernel
theorem dX12_spreads_97 : decode cX12_spreads 97 = .ok (.iload_n 3, 1) := by decide +kernel
theorem dX12_spreads_98 : decode cX12_spreads 98 = .ok (.iaload, 1) := by decide +kernel
theorem dX12_spreads_99 : decode cX12_spreads 99 = .ok (.iload 4, 2) := by decide +kernel
theorem dX12_spreads_101 : decode cX12_spreads 101 = .ok (.invokestatic 304, 3) := by decide +kernel
theorem dX12_spreads_104 : decode cX12_spreads 104 = .ok (.ifCond .eq 29, 3) := by decide +kernel
theorem dX12_spreads_107 : decode cX12_spreads 107 = .ok (.iload 6, 2) := by decide +kernel
theorem dX12_spreads_109 : decode cX12_spreads 109 = .ok (.aload_n 0, 1) := by decide +kernel
theorem dX12_spreads_110 : decode cX12_spreads 110 = .ok (.getfield 55, 3) := by decide +kernel
theorem dX12_spreads_113 : decode cX12_spreads 113 = .ok (.iload 5, 2) := by decide +kernel
theorem dX12_spreads_115 : decode cX12_spreads 115 = .ok (.iaload, 1) := by decide +kernel
theorem dX12_spreads_116 : decode cX12_spreads 116 = .ok (.if_icmp .lt 6, 3) := by decide +kernel
theorem dX12_spreads_119 : decode cX12_spreads 119 = .ok (.goto 14, 3) := by decide +kernel
theorem dX12_spreads_122 : decode cX12_spreads 122 = .ok (.aload_n 0, 1) := by decide +kernel
theorem dX12_spreads_123 : decode cX12_spreads 123 = .ok (.getfield 55, 3) := by decide +kernel
theorem dX12_spreads_126 : decode cX12_spreads 126 = .ok (.iload 5, 2) := by decide +kernel
theorem dX12_spreads_128 : decode cX12_spreads 128 = .ok (.iload 6, 2) := by decide +kernel
theorem dX12_spreads_130 : decode cX12_spreads 130 = .ok (.iastore, 1) := by decide +kernel
theorem dX12_spreads_131 : decode cX12_spreads 131 = .ok (.iconst 1, 1) := by decide +kernel
theorem dX12_spreads_132 : decode cX12_spreads 132 = .ok (.istore_n 2, 1) := by decide +kernel
theorem dX12_spreads_133 : decode cX12_spreads 133 = .ok (.iinc 4 1, 3) := by decide +kernel
theorem dX12_spreads_136 : decode cX12_spreads 136 = .ok (.goto (-81), 3) := by decide +kernel
theorem dX12_spreads_139 : decode cX12_spreads 139 = .ok (.iinc 3 1, 3) := by decide +kernel
theorem dX12_spreads_142 : decode cX12_spreads 142 = .ok (.goto (-100), 3) := by decide +kernel
theorem dX12_spreads_145 : decode cX12_spreads 145 = .ok (.goto (-111), 3) := by decide +kernel
theorem dX12_spreads_148 : decode cX12_spreads 148 = .ok (.return_, 1) := by decide +kernel
set_option maxRecDepth 20000 in
theorem ggX12_streetFrom_X12_isAt : GoodIn wsX12_streetFrom wsX12_isAt := goodIn_r _ [9, 10, 11, 12, 8, 13, 3, 25, 26, 27, 28, 29, 30, 31, 32, 33, 34, 35, 36, 37, 38, 39, 40, 41, 42, 43, 44, 45, 46, 47, 48, 49, 50, 51, 52, 53, 54, 55, 56, 57, 58, 59, 60, 61, 62, 63, 64, 65, 66] (by decide +kernel) (by decide +kernel)
set_option maxRecDepth 20000 in
theorem gX12_streetFrom_X12_isAt : GoodIn wsX12_streetFrom (wsV RX12 314 RX12 yX12_isAt wsX12_isAt) := goodIn_app (goodIn_of _ (by decide +kernel)) ggX12_streetFrom_X12_isAt
set_option maxRecDepth 20000 in
theorem ggX12_streetFrom_X12_hasSign : GoodIn wsX12_streetFrom wsX12_hasSign := goodIn_r _ [17, 10, 11, 12, 8, 13, 3, 18, 19, 20, 25, 26, 27, 28, 29, 30, 31, 32, 33, 34, 35, 36, 37, 38, 39, 40, 41, 42, 43, 44, 45, 46, 47, 48, 49, 50, 51, 52, 53, 54, 55, 56, 57, 58, 59, 60, 61, 62, 63, 64, 65, 66] (by decide +kernel) (by decide +kernel)
set_option maxRecDepth 20000 in
theorem gX12_streetFrom_X12_hasSign : GoodIn wsX12_streetFrom (wsV RX12 307 RX12 yX12_hasSign wsX12_hasSign) := goodIn_app (goodIn_of _ (by decide +kernel)) ggX12_streetFrom_X12_hasSign
set_option maxRecDepth 20000 in
theorem ggX12_streetFrom_X12_streetOf : GoodIn wsX12_streetFrom wsX12_streetOf := goodIn_r _ [13, 3, 25, 26, 27, 28, 29, 30, 31, 32, 33, 34, 35, 36, 37, 38, 39, 40, 41, 42, 43, 44, 45, 46, 47, 48, 49, 50, 51, 52, 53, 54, 55, 56, 57, 58, 59, 60, 61, 62, 63, 64, 65, 66] (by decide +kernel) (by decide +kernel)
set_option maxRecDepth 20000 in
theorem gX12_streetFrom_X12_streetOf : GoodIn wsX12_streetFrom (wsV RX12 300 RX12 yX12_streetOf wsX12_streetOf) := goodIn_app (goodIn_of _ (by decide +kernel)) ggX12_streetFrom_X12_streetOf
set_option maxRecDepth 20000 in
theorem ggX12_streetFrom_X12_otherOf : GoodIn wsX12_streetFrom wsX12_otherOf := goodIn_r _ [24, 10, 11, 12, 8, 13, 3, 25, 26, 27, 28, 29, 30, 31, 32, 33, 34, 35, 36, 37, 38, 39, 40, 41, 42, 43, 44, 45, 46, 47, 48, 49, 50, 51, 52, 53, 54, 55, 56, 57, 58, 59, 60, 61, 62, 63, 64, 65, 66] (by decide +kernel) (by decide +kernel)
set_option maxRecDepth 20000 in
theorem gX12_streetFrom_X12_otherOf : GoodIn wsX12_streetFrom (wsV RX12 348 RX12 yX12_otherOf wsX12_otherOf) := goodIn_app (goodIn_of _ (by decide +kernel)) ggX12_streetFrom_X12_otherOf
theorem dX12_streetFrom_0 : decode cX12_streetFrom 0 = .ok (.aload_n 0, 1) := by decide +kernel
theorem dX12_streetFrom_1 : decode cX12_streetFrom 1 = .ok (.getfield 55, 3) := by decide +kernel
theorem dX12_streetFrom_4 : decode cX12_streetFrom 4 = .ok (.iload_n 1, 1) := by decide +kernel
theorem dX12_streetFrom_5 : decode cX12_streetFrom 5 = .ok (.iaload, 1) := by decide +kernel
theorem dX12_streetFrom_6 : decode cX12_streetFrom 6 = .ok (.ifCond .eq 15, 3) := by decide +kernel
theorem dX12_streetFrom_9 : decode cX12_streetFrom 9 = .ok (.aload_n 0, 1) := by decide +kernel
theorem dX12_streetFrom_10 : decode cX12_streetFrom 10 = .ok (.getfield 55, 3) := by decide +kernel
theorem dX12_streetFrom_13 : decode cX12_streetFrom 13 = .ok (.iload_n 1, 1) := by decide +kernel
theorem dX12_streetFrom_14 : decode cX12_streetFrom 14 = .ok (.iaload, 1) := by decide +kernel
theorem dX12_streetFrom_15 : decode cX12_streetFrom 15 = .ok (.ldc_w 347, 3) := by decide +kernel
theorem dX12_streetFrom_18 : decode cX12_streetFrom 18 = .ok (.if_icmp .ne 5, 3) := by decide +kernel
theorem dX12_streetFrom_21 : decode cX12_streetFrom 21 = .ok (.iconst (-1), 1) := by decide +kernel
theorem dX12_streetFrom_22 : decode cX12_streetFrom 22 = .ok (.ireturn, 1) := by decide +kernel
theorem dX12_streetFrom_23 : decode cX12_streetFrom 23 = .ok (.iconst 0, 1) := by decide +kernel
theorem dX12_streetFrom_24 : decode cX12_streetFrom 24 = .ok (.istore_n 2, 1) := by decide +kernel
theorem dX12_streetFrom_25 : decode cX12_streetFrom 25 = .ok (.iload_n 2, 1) := by decide +kernel
theorem dX12_streetFrom_26 : decode cX12_streetFrom 26 = .ok (.aload_n 0, 1) := by decide +kernel
theorem dX12_streetFrom_27 : decode cX12_streetFrom 27 = .ok (.getfield 45, 3) := by decide +kernel
theorem dX12_streetFrom_30 : decode cX12_streetFrom 30 = .ok (.iconst 1, 1) := by decide +kernel
theorem dX12_streetFrom_31 : decode cX12_streetFrom 31 = .ok (.iaload, 1) := by decide +kernel
theorem dX12_streetFrom_32 : decode cX12_streetFrom 32 = .ok (.if_icmp .ge 62, 3) := by decide +kernel
theorem dX12_streetFrom_35 : decode cX12_streetFrom 35 = .ok (.aload_n 0, 1) := by decide +kernel
theorem dX12_streetFrom_36 : decode cX12_streetFrom 36 = .ok (.iload_n 2, 1) := by decide +kernel
theorem dX12_streetFrom_37 : decode cX12_streetFrom 37 = .ok (.iload_n 1, 1) := by decide +kernel
theorem dX12_streetFrom_38 : decode cX12_streetFrom 38 = .ok (.invokevirtual 314, 3) := by decide +kernel
theorem dX12_streetFrom_41 : decode cX12_streetFrom 41 = .ok (.ifCond .eq 47, 3) := by decide +kernel
theorem dX12_streetFrom_44 : decode cX12_streetFrom 44 = .ok (.aload_n 0, 1) := by decide +kernel
theorem dX12_streetFrom_45 : decode cX12_streetFrom 45 = .ok (.aload_n 0, 1) := by decide +kernel
theorem dX12_streetFrom_46 : decode cX12_streetFrom 46 = .ok (.getfield 52, 3) := by decide +kernel
theorem dX12_streetFrom_49 : decode cX12_streetFrom 49 = .ok (.iload_n 2, 1) := by decide +kernel
theorem dX12_streetFrom_50 : decode cX12_streetFrom 50 = .ok (.iaload, 1) := by decide +kernel
theorem dX12_streetFrom_51 : decode cX12_streetFrom 51 = .ok (.iload_n 2, 1) := by decide +kernel
theorem dX12_streetFrom_52 : decode cX12_streetFrom 52 = .ok (.iload_n 1, 1) := by decide +kernel
theorem dX12_streetFrom_53 : decode cX12_streetFrom 53 = .ok (.invokevirtual 307, 3) := by decide +kernel
theorem dX12_streetFrom_56 : decode cX12_streetFrom 56 = .ok (.ifCond .eq 32, 3) := by decide +kernel
theorem dX12_streetFrom_59 : decode cX12_streetFrom 59 = .ok (.aload_n 0, 1) := by decide +kernel
theorem dX12_streetFrom_60 : decode cX12_streetFrom 60 = .ok (.iload_n 2, 1) := by decide +kernel
theorem dX12_streetFrom_61 : decode cX12_streetFrom 61 = .ok (.iconst 2, 1) := by decide +kernel
theorem dX12_streetFrom_62 : decode cX12_streetFrom 62 = .ok (.invokevirtual 300, 3) := by decide +kernel
theorem dX12_streetFrom_65 : decode cX12_streetFrom 65 = .ok (.aload_n 0, 1) := by decide +kernel
theorem dX12_streetFrom_66 : decode cX12_streetFrom 66 = .ok (.getfield 55, 3) := by decide +kernel
theorem dX12_streetFrom_69 : decode cX12_streetFrom 69 = .ok (.aload_n 0, 1) := by decide +kernel
theorem dX12_streetFrom_70 : decode cX12_streetFrom 70 = .ok (.iload_n 2, 1) := by decide +kernel
theorem dX12_streetFrom_71 : decode cX12_streetFrom 71 = .ok (.iload_n 1, 1) := by decide +kernel
theorem dX12_streetFrom_72 : decode cX12_streetFrom 72 = .ok (.invokevirtual 348, 3) := by decide +kernel
theorem dX12_streetFrom_75 : decode cX12_streetFrom 75 = .ok (.iaload, 1) := by decide +kernel
theorem dX12_streetFrom_76 : decode cX12_streetFrom 76 = .ok (.iadd, 1) := by decide +kernel
theorem dX12_streetFrom_77 : decode cX12_streetFrom 77 = .ok (.aload_n 0, 1) := by decide +kernel
theorem dX12_streetFrom_78 : decode cX12_streetFrom 78 = .ok (.getfield 55, 3) := by decide +kernel
theorem dX12_streetFrom_81 : decode cX12_streetFrom 81 = .ok (.iload_n 1, 1) := by decide +kernel
theorem dX12_streetFrom_82 : decode cX12_streetFrom 82 = .ok (.iaload, 1) := by decide +kernel
theorem dX12_streetFrom_83 : decode cX12_streetFrom 83 = .ok (.if_icmp .ne 5, 3) := by decide +kernel
theorem dX12_streetFrom_86 : decode cX12_streetFrom 86 = .ok (.iload_n 2, 1) := by decide +kernel
theorem dX12_streetFrom_87 : decode cX12_streetFrom 87 = .ok (.ireturn, 1) := by decide +kernel
theorem dX12_streetFrom_88 : decode cX12_streetFrom 88 = .ok (.iinc 2 1, 3) := by decide +kernel
theorem dX12_streetFrom_91 : decode cX12_streetFrom 91 = .ok (.goto (-66), 3) := by decide +kernel
theorem dX12_streetFrom_94 : decode cX12_streetFrom 94 = .ok (.iconst (-1), 1) := by decide +kernel
theorem dX12_streetFrom_95 : decode cX12_streetFrom 95 = .ok (.ireturn, 1) := by decide +kernel
set_option maxRecDepth 20000 in
theorem ggX12_by_X12_isMap : GoodIn wsX12_by wsX12_isMap := goodIn_r _ [7, 8, 48, 49, 50, 51, 52, 53, 54, 55, 56, 57, 58, 59, 60, 61, 62, 63, 64, 65, 66, 67, 68, 69, 70, 71, 72, 73, 74, 75, 76, 77, 78, 79, 80, 81, 82, 83, 84, 85, 86, 87, 88, 89] (by decide +kernel) (by decide +kernel)
set_option maxRecDepth 20000 in
theorem gX12_by_X12_isMap : GoodIn wsX12_by (wsV RX12 342 RX12 yX12_isMap wsX12_isMap) := goodIn_app (goodIn_of _ (by decide +kernel)) ggX12_by_X12_isMap
set_option maxRecDepth 20000 in
theorem ggX12_by_X12_isCorner : GoodIn wsX12_by wsX12_isCorner := goodIn_r _ [12, 8, 48, 49, 50, 51, 52, 53, 54, 55, 56, 57, 58, 59, 60, 61, 62, 63, 64, 65, 66, 67, 68, 69, 70, 71, 72, 73, 74, 75, 76, 77, 78, 79, 80, 81, 82, 83, 84, 85, 86, 87, 88, 89] (by decide +kernel) (by decide +kernel)
set_option maxRecDepth 20000 in
theorem gX12_by_X12_isCorner : GoodIn wsX12_by (wsV RX12 328 RX12 yX12_isCorner wsX12_isCorner) := goodIn_app (goodIn_of _ (by decide +kernel)) ggX12_by_X12_isCorner
set_option maxRecDepth 20000 in
theorem ggX12_by_X12_in : GoodIn wsX12_by wsX12_in := goodIn_r _ [15] (by decide +kernel) (by decide +kernel)
set_option maxRecDepth 20000 in
theorem gX12_by_X12_in : GoodIn wsX12_by (va_wsS RX12 122 yX12_in wsX12_in) := goodIn_app (goodIn_of _ (by decide +kernel)) ggX12_by_X12_in
set_option maxRecDepth 20000 in
theorem ggX12_by_X12_takesMap : GoodIn wsX12_by wsX12_takesMap := goodIn_r _ [19, 8, 20, 48, 49, 50, 51, 52, 53, 54, 55, 56, 57, 58, 59, 60, 61, 62, 63, 64, 65, 66, 67, 68, 69, 70, 71, 72, 73, 74, 75, 76, 77, 78, 79, 80, 81, 82, 83, 84, 85, 86, 87, 88, 89] (by decide +kernel) (by decide +kernel)
set_option maxRecDepth 20000 in
theorem gX12_by_X12_takesMap : GoodIn wsX12_by (wsV RX12 351 RX12 yX12_takesMap wsX12_takesMap) := goodIn_app (goodIn_of _ (by decide +kernel)) ggX12_by_X12_takesMap
set_option maxRecDepth 20000 in
theorem ggX12_by_X12_spreads : GoodIn wsX12_by wsX12_spreads := goodIn_r _ [24, 1, 2, 8, 20, 25, 26, 27, 6, 28, 29, 30, 31, 48, 49, 50, 51, 52, 53, 54, 55, 56, 57, 58, 59, 60, 61, 62, 63, 64, 65, 66, 67, 68, 69, 70, 71, 72, 73, 74, 75, 76, 77, 78, 79, 80, 81, 82, 83, 84, 85, 86, 87, 88, 89] (by decide +kernel) (by decide +kernel)
set_option maxRecDepth 20000 in
theorem gX12_by_X12_spreads : GoodIn wsX12_by (wsV RX12 354 RX12 yX12_spreads wsX12_spreads) := goodIn_app (goodIn_of _ (by decide +kernel)) ggX12_by_X12_spreads
set_option maxRecDepth 20000 in
theorem ggX12_by_X12_streetFrom : GoodIn wsX12_by wsX12_streetFrom := goodIn_r _ [35, 1, 2, 8, 20, 36, 37, 38, 6, 39, 25, 26, 27, 28, 40, 41, 42, 43, 29, 30, 31, 44, 45, 46, 47, 48, 49, 50, 51, 52, 53, 54, 55, 56, 57, 58, 59, 60, 61, 62, 63, 64, 65, 66, 67, 68, 69, 70, 71, 72, 73, 74, 75, 76, 77, 78, 79, 80, 81, 82, 83, 84, 85, 86, 87, 88, 89] (by decide +kernel) (by decide +kernel)
set_option maxRecDepth 20000 in
theorem gX12_by_X12_streetFrom : GoodIn wsX12_by (wsV RX12 357 RX12 yX12_streetFrom wsX12_streetFrom) := goodIn_app (goodIn_of _ (by decide +kernel)) ggX12_by_X12_streetFrom
theorem dX12_by_0 : decode cX12_by 0 = .ok (.aload_n 0, 1) := by decide +kernel
theorem dX12_by_1 : decode cX12_by 1 = .ok (.iload_n 1, 1) := by decide +kernel
theorem dX12_by_2 : decode cX12_by 2 = .ok (.invokevirtual 342, 3) := by decide +kernel
theorem dX12_by_5 : decode cX12_by 5 = .ok (.ifCond .eq 30, 3) := by decide +kernel
theorem dX12_by_8 : decode cX12_by 8 = .ok (.aload_n 0, 1) := by decide +kernel
theorem dX12_by_9 : decode cX12_by 9 = .ok (.iload_n 2, 1) := by decide +kernel
theorem dX12_by_10 : decode cX12_by 10 = .ok (.invokevirtual 328, 3) := by decide +kernel
theorem dX12_by_13 : decode cX12_by 13 = .ok (.ifCond .eq 22, 3) := by decide +kernel
theorem dX12_by_16 : decode cX12_by 16 = .ok (.aload_n 0, 1) := by decide +kernel
theorem dX12_by_17 : decode cX12_by 17 = .ok (.iload_n 3, 1) := by decide +kernel
theorem dX12_by_18 : decode cX12_by 18 = .ok (.invokevirtual 328, 3) := by decide +kernel
theorem dX12_by_21 : decode cX12_by 21 = .ok (.ifCond .eq 14, 3) := by decide +kernel
theorem dX12_by_24 : decode cX12_by 24 = .ok (.iload 4, 2) := by decide +kernel
theorem dX12_by_26 : decode cX12_by 26 = .ok (.i2l, 1) := by decide +kernel
theorem dX12_by_27 : decode cX12_by 27 = .ok (.lconst 0, 1) := by decide +kernel
theorem dX12_by_28 : decode cX12_by 28 = .ok (.lconst 1, 1) := by decide +kernel
theorem dX12_by_29 : decode cX12_by 29 = .ok (.invokestatic 122, 3) := by decide +kernel
theorem dX12_by_32 : decode cX12_by 32 = .ok (.ifCond .ne 5, 3) := by decide +kernel
theorem dX12_by_35 : decode cX12_by 35 = .ok (.iconst (-1), 1) := by decide +kernel
theorem dX12_by_36 : decode cX12_by 36 = .ok (.ireturn, 1) := by decide +kernel
theorem dX12_by_37 : decode cX12_by 37 = .ok (.aload_n 0, 1) := by decide +kernel
theorem dX12_by_38 : decode cX12_by 38 = .ok (.iload_n 1, 1) := by decide +kernel
theorem dX12_by_39 : decode cX12_by 39 = .ok (.invokevirtual 351, 3) := by decide +kernel
theorem dX12_by_42 : decode cX12_by 42 = .ok (.aload_n 0, 1) := by decide +kernel
theorem dX12_by_43 : decode cX12_by 43 = .ok (.iload_n 3, 1) := by decide +kernel
theorem dX12_by_44 : decode cX12_by 44 = .ok (.invokevirtual 354, 3) := by decide +kernel
theorem dX12_by_47 : decode cX12_by 47 = .ok (.aload_n 0, 1) := by decide +kernel
theorem dX12_by_48 : decode cX12_by 48 = .ok (.getfield 55, 3) := by decide +kernel
theorem dX12_by_51 : decode cX12_by 51 = .ok (.iload_n 2, 1) := by decide +kernel
theorem dX12_by_52 : decode cX12_by 52 = .ok (.iaload, 1) := by decide +kernel
theorem dX12_by_53 : decode cX12_by 53 = .ok (.ldc_w 347, 3) := by decide +kernel
theorem dX12_by_56 : decode cX12_by 56 = .ok (.if_icmp .ne 6, 3) := by decide +kernel
theorem dX12_by_59 : decode cX12_by 59 = .ok (.bipush (-2), 2) := by decide +kernel
theorem dX12_by_61 : decode cX12_by 61 = .ok (.ireturn, 1) := by decide +kernel
theorem dX12_by_62 : decode cX12_by 62 = .ok (.aload_n 0, 1) := by decide +kernel
theorem dX12_by_63 : decode cX12_by 63 = .ok (.iload_n 2, 1) := by decide +kernel
theorem dX12_by_64 : decode cX12_by 64 = .ok (.invokevirtual 357, 3) := by decide +kernel
theorem dX12_by_67 : decode cX12_by 67 = .ok (.istore 5, 2) := by decide +kernel
theorem dX12_by_69 : decode cX12_by 69 = .ok (.iload 4, 2) := by decide +kernel
theorem dX12_by_71 : decode cX12_by 71 = .ok (.ifCond .ne 12, 3) := by decide +kernel
theorem dX12_by_74 : decode cX12_by 74 = .ok (.aload_n 0, 1) := by decide +kernel
theorem dX12_by_75 : decode cX12_by 75 = .ok (.getfield 55, 3) := by decide +kernel
theorem dX12_by_78 : decode cX12_by 78 = .ok (.iload_n 2, 1) := by decide +kernel
theorem dX12_by_79 : decode cX12_by 79 = .ok (.iaload, 1) := by decide +kernel
theorem dX12_by_80 : decode cX12_by 80 = .ok (.goto 15, 3) := by decide +kernel
theorem dX12_by_83 : decode cX12_by 83 = .ok (.iload 5, 2) := by decide +kernel
theorem dX12_by_85 : decode cX12_by 85 = .ok (.ifCond .ge 8, 3) := by decide +kernel
theorem dX12_by_88 : decode cX12_by 88 = .ok (.bipush (-2), 2) := by decide +kernel
theorem dX12_by_90 : decode cX12_by 90 = .ok (.goto 5, 3) := by decide +kernel
theorem dX12_by_93 : decode cX12_by 93 = .ok (.iload 5, 2) := by decide +kernel
theorem dX12_by_95 : decode cX12_by 95 = .ok (.ireturn, 1) := by decide +kernel
set_option maxRecDepth 20000 in
theorem ggX12_walker_X12_isCorner : GoodIn wsX12_walker wsX12_isCorner := goodIn_r _ [6, 1, 24, 25, 26, 27, 28, 29, 30, 31, 32, 33, 34, 35, 36, 37, 38, 39, 40, 41, 42, 43, 44, 45, 46, 47, 48, 49, 50, 51, 52, 53, 54, 55, 56, 57, 58, 59, 60, 61, 62, 63, 64, 65] (by decide +kernel) (by decide +kernel)
set_option maxRecDepth 20000 in
theorem gX12_walker_X12_isCorner : GoodIn wsX12_walker (wsV RX12 328 RX12 yX12_isCorner wsX12_isCorner) := goodIn_app (goodIn_of _ (by decide +kernel)) ggX12_walker_X12_isCorner
set_option maxRecDepth 20000 in
theorem ggX12_walker_X12_isMap : GoodIn wsX12_walker wsX12_isMap := goodIn_r _ [10, 1, 24, 25, 26, 27, 28, 29, 30, 31, 32, 33, 34, 35, 36, 37, 38, 39, 40, 41, 42, 43, 44, 45, 46, 47, 48, 49, 50, 51, 52, 53, 54, 55, 56, 57, 58, 59, 60, 61, 62, 63, 64, 65] (by decide +kernel) (by decide +kernel)
set_option maxRecDepth 20000 in
theorem gX12_walker_X12_isMap : GoodIn wsX12_walker (wsV RX12 342 RX12 yX12_isMap wsX12_isMap) := goodIn_app (goodIn_of _ (by decide +kernel)) ggX12_walker_X12_isMap
set_option maxRecDepth 20000 in
theorem ggX12_walker_X12_isRule : GoodIn wsX12_walker wsX12_isRule := goodIn_r _ [14, 15, 24, 25, 26, 27, 28, 29, 30, 31, 32, 33, 34, 35, 36, 37, 38, 39, 40, 41, 42, 43, 44, 45, 46, 47, 48, 49, 50, 51, 52, 53, 54, 55, 56, 57, 58, 59, 60, 61, 62, 63, 64, 65] (by decide +kernel) (by decide +kernel)
set_option maxRecDepth 20000 in
theorem gX12_walker_X12_isRule : GoodIn wsX12_walker (wsV RX12 360 RX12 yX12_isRule wsX12_isRule) := goodIn_app (goodIn_of _ (by decide +kernel)) ggX12_walker_X12_isRule
set_option maxRecDepth 20000 in
theorem ggX12_walker_X12_isHour : GoodIn wsX12_walker wsX12_isHour := goodIn_r _ [18, 19] (by decide +kernel) (by decide +kernel)
set_option maxRecDepth 20000 in
theorem gX12_walker_X12_isHour : GoodIn wsX12_walker (va_wsS RX12 331 yX12_isHour wsX12_isHour) := goodIn_app (goodIn_of _ (by decide +kernel)) ggX12_walker_X12_isHour
set_option maxRecDepth 20000 in
theorem ggX12_walker_X12_setsOut : GoodIn wsX12_walker wsX12_setsOut := goodIn_r _ [23, 1, 24, 25, 26, 27, 28, 29, 30, 31, 32, 33, 34, 35, 36, 37, 38, 39, 40, 41, 42, 43, 44, 45, 46, 47, 48, 49, 50, 51, 52, 53, 54, 55, 56, 57, 58, 59, 60, 61, 62, 63, 64, 65] (by decide +kernel) (by decide +kernel)
set_option maxRecDepth 20000 in
theorem gX12_walker_X12_setsOut : GoodIn wsX12_walker (wsV RX12 363 RX12 yX12_setsOut wsX12_setsOut) := goodIn_app (goodIn_of _ (by decide +kernel)) ggX12_walker_X12_setsOut
theorem dX12_walker_0 : decode cX12_walker 0 = .ok (.aload_n 0, 1) := by decide +kernel
theorem dX12_walker_1 : decode cX12_walker 1 = .ok (.iload_n 1, 1) := by decide +kernel
theorem dX12_walker_2 : decode cX12_walker 2 = .ok (.invokevirtual 328, 3) := by decide +kernel
theorem dX12_walker_5 : decode cX12_walker 5 = .ok (.ifCond .eq 52, 3) := by decide +kernel
theorem dX12_walker_8 : decode cX12_walker 8 = .ok (.aload_n 0, 1) := by decide +kernel
theorem dX12_walker_9 : decode cX12_walker 9 = .ok (.iload_n 2, 1) := by decide +kernel
theorem dX12_walker_10 : decode cX12_walker 10 = .ok (.invokevirtual 328, 3) := by decide +kernel
theorem dX12_walker_13 : decode cX12_walker 13 = .ok (.ifCond .eq 44, 3) := by decide +kernel
theorem dX12_walker_16 : decode cX12_walker 16 = .ok (.aload_n 0, 1) := by decide +kernel
theorem dX12_walker_17 : decode cX12_walker 17 = .ok (.iload_n 3, 1) := by decide +kernel
theorem dX12_walker_18 : decode cX12_walker 18 = .ok (.invokevirtual 342, 3) := by decide +kernel
theorem dX12_walker_21 : decode cX12_walker 21 = .ok (.ifCond .eq 36, 3) := by decide +kernel
theorem dX12_walker_24 : decode cX12_walker 24 = .ok (.iload 4, 2) := by decide +kernel
theorem dX12_walker_26 : decode cX12_walker 26 = .ok (.iconst (-1), 1) := by decide +kernel
theorem dX12_walker_27 : decode cX12_walker 27 = .ok (.if_icmp .eq 12, 3) := by decide +kernel
theorem dX12_walker_30 : decode cX12_walker 30 = .ok (.aload_n 0, 1) := by decide +kernel
theorem dX12_walker_31 : decode cX12_walker 31 = .ok (.iload 4, 2) := by decide +kernel
theorem dX12_walker_33 : decode cX12_walker 33 = .ok (.invokevirtual 360, 3) := by decide +kernel
theorem dX12_walker_36 : decode cX12_walker 36 = .ok (.ifCond .eq 21, 3) := by decide +kernel
theorem dX12_walker_39 : decode cX12_walker 39 = .ok (.iload 5, 2) := by decide +kernel
theorem dX12_walker_41 : decode cX12_walker 41 = .ok (.invokestatic 331, 3) := by decide +kernel
theorem dX12_walker_44 : decode cX12_walker 44 = .ok (.ifCond .eq 13, 3) := by decide +kernel
theorem dX12_walker_47 : decode cX12_walker 47 = .ok (.aload_n 0, 1) := by decide +kernel
theorem dX12_walker_48 : decode cX12_walker 48 = .ok (.getfield 45, 3) := by decide +kernel
theorem dX12_walker_51 : decode cX12_walker 51 = .ok (.iconst 5, 1) := by decide +kernel
theorem dX12_walker_52 : decode cX12_walker 52 = .ok (.iaload, 1) := by decide +kernel
theorem dX12_walker_53 : decode cX12_walker 53 = .ok (.iconst 4, 1) := by decide +kernel
theorem dX12_walker_54 : decode cX12_walker 54 = .ok (.if_icmp .ne 6, 3) := by decide +kernel
theorem dX12_walker_57 : decode cX12_walker 57 = .ok (.bipush (-2), 2) := by decide +kernel
theorem dX12_walker_59 : decode cX12_walker 59 = .ok (.ireturn, 1) := by decide +kernel
theorem dX12_walker_60 : decode cX12_walker 60 = .ok (.aload_n 0, 1) := by decide +kernel
theorem dX12_walker_61 : decode cX12_walker 61 = .ok (.aload_n 0, 1) := by decide +kernel
theorem dX12_walker_62 : decode cX12_walker 62 = .ok (.getfield 45, 3) := by decide +kernel
theorem dX12_walker_65 : decode cX12_walker 65 = .ok (.iconst 5, 1) := by decide +kernel
theorem dX12_walker_66 : decode cX12_walker 66 = .ok (.iaload, 1) := by decide +kernel
theorem dX12_walker_67 : decode cX12_walker 67 = .ok (.iload_n 1, 1) := by decide +kernel
theorem dX12_walker_68 : decode cX12_walker 68 = .ok (.iload_n 2, 1) := by decide +kernel
theorem dX12_walker_69 : decode cX12_walker 69 = .ok (.iload_n 3, 1) := by decide +kernel
theorem dX12_walker_70 : decode cX12_walker 70 = .ok (.iload 4, 2) := by decide +kernel
theorem dX12_walker_72 : decode cX12_walker 72 = .ok (.iload 5, 2) := by decide +kernel
theorem dX12_walker_74 : decode cX12_walker 74 = .ok (.invokevirtual 363, 3) := by decide +kernel
theorem dX12_walker_77 : decode cX12_walker 77 = .ok (.aload_n 0, 1) := by decide +kernel
theorem dX12_walker_78 : decode cX12_walker 78 = .ok (.getfield 45, 3) := by decide +kernel
theorem dX12_walker_81 : decode cX12_walker 81 = .ok (.iconst 5, 1) := by decide +kernel
theorem dX12_walker_82 : decode cX12_walker 82 = .ok (.dup2, 1) := by decide +kernel
theorem dX12_walker_83 : decode cX12_walker 83 = .ok (.iaload, 1) := by decide +kernel
theorem dX12_walker_84 : decode cX12_walker 84 = .ok (.iconst 1, 1) := by decide +kernel
theorem dX12_walker_85 : decode cX12_walker 85 = .ok (.iadd, 1) := by decide +kernel
theorem dX12_walker_86 : decode cX12_walker 86 = .ok (.iastore, 1) := by decide +kernel
theorem dX12_walker_87 : decode cX12_walker 87 = .ok (.aload_n 0, 1) := by decide +kernel
theorem dX12_walker_88 : decode cX12_walker 88 = .ok (.getfield 45, 3) := by decide +kernel
theorem dX12_walker_91 : decode cX12_walker 91 = .ok (.iconst 5, 1) := by decide +kernel
theorem dX12_walker_92 : decode cX12_walker 92 = .ok (.iaload, 1) := by decide +kernel
theorem dX12_walker_93 : decode cX12_walker 93 = .ok (.iconst 1, 1) := by decide +kernel
theorem dX12_walker_94 : decode cX12_walker 94 = .ok (.isub, 1) := by decide +kernel
theorem dX12_walker_95 : decode cX12_walker 95 = .ok (.ireturn, 1) := by decide +kernel
theorem dX12_setsOut_0 : decode cX12_setsOut 0 = .ok (.sipush 216, 3) := by decide +kernel
theorem dX12_setsOut_3 : decode cX12_setsOut 3 = .ok (.bipush 9, 2) := by decide +kernel
theorem dX12_setsOut_5 : decode cX12_setsOut 5 = .ok (.iload_n 1, 1) := by decide +kernel
theorem dX12_setsOut_6 : decode cX12_setsOut 6 = .ok (.imul, 1) := by decide +kernel
theorem dX12_setsOut_7 : decode cX12_setsOut 7 = .ok (.iadd, 1) := by decide +kernel
theorem dX12_setsOut_8 : decode cX12_setsOut 8 = .ok (.istore 7, 2) := by decide +kernel
theorem dX12_setsOut_10 : decode cX12_setsOut 10 = .ok (.aload_n 0, 1) := by decide +kernel
theorem dX12_setsOut_11 : decode cX12_setsOut 11 = .ok (.getfield 45, 3) := by decide +kernel
theorem dX12_setsOut_14 : decode cX12_setsOut 14 = .ok (.iload 7, 2) := by decide +kernel
theorem dX12_setsOut_16 : decode cX12_setsOut 16 = .ok (.iload_n 2, 1) := by decide +kernel
theorem dX12_setsOut_17 : decode cX12_setsOut 17 = .ok (.iastore, 1) := by decide +kernel
theorem dX12_setsOut_18 : decode cX12_setsOut 18 = .ok (.aload_n 0, 1) := by decide +kernel
theorem dX12_setsOut_19 : decode cX12_setsOut 19 = .ok (.getfield 45, 3) := by decide +kernel
theorem dX12_setsOut_22 : decode cX12_setsOut 22 = .ok (.iload 7, 2) := by decide +kernel
theorem dX12_setsOut_24 : decode cX12_setsOut 24 = .ok (.iconst 1, 1) := by decide +kernel
theorem dX12_setsOut_25 : decode cX12_setsOut 25 = .ok (.iadd, 1) := by decide +kernel
theorem dX12_setsOut_26 : decode cX12_setsOut 26 = .ok (.iload_n 3, 1) := by decide +kernel
theorem dX12_setsOut_27 : decode cX12_setsOut 27 = .ok (.iastore, 1) := by decide +kernel
theorem dX12_setsOut_28 : decode cX12_setsOut 28 = .ok (.aload_n 0, 1) := by decide +kernel
theorem dX12_setsOut_29 : decode cX12_setsOut 29 = .ok (.getfield 45, 3) := by decide +kernel
theorem dX12_setsOut_32 : decode cX12_setsOut 32 = .ok (.iload 7, 2) := by decide +kernel
theorem dX12_setsOut_34 : decode cX12_setsOut 34 = .ok (.iconst 2, 1) := by decide +kernel
theorem dX12_setsOut_35 : decode cX12_setsOut 35 = .ok (.iadd, 1) := by decide +kernel
theorem dX12_setsOut_36 : decode cX12_setsOut 36 = .ok (.iload 4, 2) := by decide +kernel
theorem dX12_setsOut_38 : decode cX12_setsOut 38 = .ok (.iastore, 1) := by decide +kernel
theorem dX12_setsOut_39 : decode cX12_setsOut 39 = .ok (.aload_n 0, 1) := by decide +kernel
theorem dX12_setsOut_40 : decode cX12_setsOut 40 = .ok (.getfield 45, 3) := by decide +kernel
theorem dX12_setsOut_43 : decode cX12_setsOut 43 = .ok (.iload 7, 2) := by decide +kernel
theorem dX12_setsOut_45 : decode cX12_setsOut 45 = .ok (.iconst 3, 1) := by decide +kernel
theorem dX12_setsOut_46 : decode cX12_setsOut 46 = .ok (.iadd, 1) := by decide +kernel
theorem dX12_setsOut_47 : decode cX12_setsOut 47 = .ok (.iload 5, 2) := by decide +kernel
theorem dX12_setsOut_49 : decode cX12_setsOut 49 = .ok (.iastore, 1) := by decide +kernel
theorem dX12_setsOut_50 : decode cX12_setsOut 50 = .ok (.aload_n 0, 1) := by decide +kernel
theorem dX12_setsOut_51 : decode cX12_setsOut 51 = .ok (.getfield 45, 3) := by decide +kernel
theorem dX12_setsOut_54 : decode cX12_setsOut 54 = .ok (.iload 7, 2) := by decide +kernel
theorem dX12_setsOut_56 : decode cX12_setsOut 56 = .ok (.iconst 4, 1) := by decide +kernel
theorem dX12_setsOut_57 : decode cX12_setsOut 57 = .ok (.iadd, 1) := by decide +kernel
theorem dX12_setsOut_58 : decode cX12_setsOut 58 = .ok (.iload 6, 2) := by decide +kernel
theorem dX12_setsOut_60 : decode cX12_setsOut 60 = .ok (.iastore, 1) := by decide +kernel
theorem dX12_setsOut_61 : decode cX12_setsOut 61 = .ok (.aload_n 0, 1) := by decide +kernel
theorem dX12_setsOut_62 : decode cX12_setsOut 62 = .ok (.getfield 45, 3) := by decide +kernel
theorem dX12_setsOut_65 : decode cX12_setsOut 65 = .ok (.iload 7, 2) := by decide +kernel
theorem dX12_setsOut_67 : decode cX12_setsOut 67 = .ok (.iconst 5, 1) := by decide +kernel
theorem dX12_setsOut_68 : decode cX12_setsOut 68 = .ok (.iadd, 1) := by decide +kernel
theorem dX12_setsOut_69 : decode cX12_setsOut 69 = .ok (.iconst 0, 1) := by decide +kernel
theorem dX12_setsOut_70 : decode cX12_setsOut 70 = .ok (.iastore, 1) := by decide +kernel
theorem dX12_setsOut_71 : decode cX12_setsOut 71 = .ok (.aload_n 0, 1) := by decide +kernel
theorem dX12_setsOut_72 : decode cX12_setsOut 72 = .ok (.getfield 45, 3) := by decide +kernel
theorem dX12_setsOut_75 : decode cX12_setsOut 75 = .ok (.iload 7, 2) := by decide +kernel
theorem dX12_setsOut_77 : decode cX12_setsOut 77 = .ok (.bipush 6, 2) := by decide +kernel
theorem dX12_setsOut_79 : decode cX12_setsOut 79 = .ok (.iadd, 1) := by decide +kernel
theorem dX12_setsOut_80 : decode cX12_setsOut 80 = .ok (.iconst 0, 1) := by decide +kernel
theorem dX12_setsOut_81 : decode cX12_setsOut 81 = .ok (.iastore, 1) := by decide +kernel
theorem dX12_setsOut_82 : decode cX12_setsOut 82 = .ok (.aload_n 0, 1) := by decide +kernel
theorem dX12_setsOut_83 : decode cX12_setsOut 83 = .ok (.getfield 45, 3) := by decide +kernel
theorem dX12_setsOut_86 : decode cX12_setsOut 86 = .ok (.iload 7, 2) := by decide +kernel
theorem dX12_setsOut_88 : decode cX12_setsOut 88 = .ok (.bipush 7, 2) := by decide +kernel
theorem dX12_setsOut_90 : decode cX12_setsOut 90 = .ok (.iadd, 1) := by decide +kernel
theorem dX12_setsOut_91 : decode cX12_setsOut 91 = .ok (.iconst (-1), 1) := by decide +kernel
theorem dX12_setsOut_92 : decode cX12_setsOut 92 = .ok (.iastore, 1) := by decide +kernel
theorem dX12_setsOut_93 : decode cX12_setsOut 93 = .ok (.aload_n 0, 1) := by decide +kernel
theorem dX12_setsOut_94 : decode cX12_setsOut 94 = .ok (.getfield 45, 3) := by decide +kernel
theorem dX12_setsOut_97 : decode cX12_setsOut 97 = .ok (.iload 7, 2) := by decide +kernel
theorem dX12_setsOut_99 : decode cX12_setsOut 99 = .ok (.bipush 8, 2) := by decide +kernel
theorem dX12_setsOut_101 : decode cX12_setsOut 101 = .ok (.iadd, 1) := by decide +kernel
theorem dX12_setsOut_102 : decode cX12_setsOut 102 = .ok (.iconst (-1), 1) := by decide +kernel
theorem dX12_setsOut_103 : decode cX12_setsOut 103 = .ok (.iastore, 1) := by decide +kernel
theorem dX12_setsOut_104 : decode cX12_setsOut 104 = .ok (.return_, 1) := by decide +kernel
set_option maxRecDepth 20000 in
theorem ggX12_about_X12_isWalker : GoodIn wsX12_about wsX12_isWalker := goodIn_r _ [6, 7, 15, 16, 17, 18, 19, 20, 21, 22, 23, 24, 25, 26, 27, 28, 29, 30, 31, 32, 33, 34, 35, 36, 37, 38, 39, 40, 41, 42, 43, 44, 45, 46, 47, 48, 49, 50, 51, 52, 53, 54, 55, 56] (by decide +kernel) (by decide +kernel)
set_option maxRecDepth 20000 in
theorem gX12_about_X12_isWalker : GoodIn wsX12_about (wsV RX12 367 RX12 yX12_isWalker wsX12_isWalker) := goodIn_app (goodIn_of _ (by decide +kernel)) ggX12_about_X12_isWalker
set_option maxRecDepth 20000 in
theorem ggX12_about_X12_in : GoodIn wsX12_about wsX12_in := goodIn_r _ [10] (by decide +kernel) (by decide +kernel)
set_option maxRecDepth 20000 in
theorem gX12_about_X12_in : GoodIn wsX12_about (va_wsS RX12 122 yX12_in wsX12_in) := goodIn_app (goodIn_of _ (by decide +kernel)) ggX12_about_X12_in
set_option maxRecDepth 20000 in
theorem ggX12_about_X12_walkerOf : GoodIn wsX12_about wsX12_walkerOf := goodIn_r _ [14, 7, 15, 16, 17, 18, 19, 20, 21, 22, 23, 24, 25, 26, 27, 28, 29, 30, 31, 32, 33, 34, 35, 36, 37, 38, 39, 40, 41, 42, 43, 44, 45, 46, 47, 48, 49, 50, 51, 52, 53, 54, 55, 56] (by decide +kernel) (by decide +kernel)
set_option maxRecDepth 20000 in
theorem gX12_about_X12_walkerOf : GoodIn wsX12_about (wsV RX12 372 RX12 yX12_walkerOf wsX12_walkerOf) := goodIn_app (goodIn_of _ (by decide +kernel)) ggX12_about_X12_walkerOf
theorem dX12_about_0 : decode cX12_about 0 = .ok (.aload_n 0, 1) := by decide +kernel
theorem dX12_about_1 : decode cX12_about 1 = .ok (.iload_n 1, 1) := by decide +kernel
theorem dX12_about_2 : decode cX12_about 2 = .ok (.invokevirtual 367, 3) := by decide +kernel
theorem dX12_about_5 : decode cX12_about 5 = .ok (.ifCond .eq 24, 3) := by decide +kernel
theorem dX12_about_8 : decode cX12_about 8 = .ok (.iload_n 2, 1) := by decide +kernel
theorem dX12_about_9 : decode cX12_about 9 = .ok (.i2l, 1) := by decide +kernel
theorem dX12_about_10 : decode cX12_about 10 = .ok (.lconst 0, 1) := by decide +kernel
theorem dX12_about_11 : decode cX12_about 11 = .ok (.ldc2_w 370, 3) := by decide +kernel
theorem dX12_about_14 : decode cX12_about 14 = .ok (.invokestatic 122, 3) := by decide +kernel
theorem dX12_about_17 : decode cX12_about 17 = .ok (.ifCond .eq 12, 3) := by decide +kernel
theorem dX12_about_20 : decode cX12_about 20 = .ok (.aload_n 0, 1) := by decide +kernel
theorem dX12_about_21 : decode cX12_about 21 = .ok (.iload_n 1, 1) := by decide +kernel
theorem dX12_about_22 : decode cX12_about 22 = .ok (.iload_n 2, 1) := by decide +kernel
theorem dX12_about_23 : decode cX12_about 23 = .ok (.invokevirtual 372, 3) := by decide +kernel
theorem dX12_about_26 : decode cX12_about 26 = .ok (.goto 4, 3) := by decide +kernel
theorem dX12_about_29 : decode cX12_about 29 = .ok (.iconst (-1), 1) := by decide +kernel
theorem dX12_about_30 : decode cX12_about 30 = .ok (.ireturn, 1) := by decide +kernel
set_option maxRecDepth 20000 in
theorem ggX12_askedToday_X12_walkerOf : GoodIn wsX12_askedToday wsX12_walkerOf := goodIn_r _ [5, 6, 7, 8, 9, 10, 11, 12, 13, 14, 15, 16, 17, 18, 19, 20, 21, 22, 23, 24, 25, 26, 27, 28, 29, 30, 31, 32, 33, 34, 35, 36, 37, 38, 39, 40, 41, 42, 43, 44, 45, 46, 47, 48] (by decide +kernel) (by decide +kernel)
set_option maxRecDepth 20000 in
theorem gX12_askedToday_X12_walkerOf : GoodIn wsX12_askedToday (wsV RX12 372 RX12 yX12_walkerOf wsX12_walkerOf) := goodIn_app (goodIn_of _ (by decide +kernel)) ggX12_askedToday_X12_walkerOf
theorem dX12_askedToday_0 : decode cX12_askedToday 0 = .ok (.aload_n 0, 1) := by decide +kernel
theorem dX12_askedToday_1 : decode cX12_askedToday 1 = .ok (.iload_n 1, 1) := by decide +kernel
theorem dX12_askedToday_2 : decode cX12_askedToday 2 = .ok (.bipush 8, 2) := by decide +kernel
theorem dX12_askedToday_4 : decode cX12_askedToday 4 = .ok (.invokevirtual 372, 3) := by decide +kernel
theorem dX12_askedToday_7 : decode cX12_askedToday 7 = .ok (.aload_n 0, 1) := by decide +kernel
theorem dX12_askedToday_8 : decode cX12_askedToday 8 = .ok (.iload_n 1, 1) := by decide +kernel
theorem dX12_askedToday_9 : decode cX12_askedToday 9 = .ok (.iconst 4, 1) := by decide +kernel
theorem dX12_askedToday_10 : decode cX12_askedToday 10 = .ok (.invokevirtual 372, 3) := by decide +kernel
theorem dX12_askedToday_13 : decode cX12_askedToday 13 = .ok (.bipush 24, 2) := by decide +kernel
theorem dX12_askedToday_15 : decode cX12_askedToday 15 = .ok (.idiv, 1) := by decide +kernel
theorem dX12_askedToday_16 : decode cX12_askedToday 16 = .ok (.if_icmp .ne 7, 3) := by decide +kernel
theorem dX12_askedToday_19 : decode cX12_askedToday 19 = .ok (.iconst 1, 1) := by decide +kernel
theorem dX12_askedToday_20 : decode cX12_askedToday 20 = .ok (.goto 4, 3) := by decide +kernel
theorem dX12_askedToday_23 : decode cX12_askedToday 23 = .ok (.iconst 0, 1) := by decide +kernel
theorem dX12_askedToday_24 : decode cX12_askedToday 24 = .ok (.ireturn, 1) := by decide +kernel
theorem dX12_placeAt_0 : decode cX12_placeAt 0 = .ok (.iload_n 1, 1) := by decide +kernel
theorem dX12_placeAt_1 : decode cX12_placeAt 1 = .ok (.bipush 10, 2) := by decide +kernel
theorem dX12_placeAt_3 : decode cX12_placeAt 3 = .ok (.imul, 1) := by decide +kernel
theorem dX12_placeAt_4 : decode cX12_placeAt 4 = .ok (.iload_n 2, 1) := by decide +kernel
theorem dX12_placeAt_5 : decode cX12_placeAt 5 = .ok (.iadd, 1) := by decide +kernel
theorem dX12_placeAt_6 : decode cX12_placeAt 6 = .ok (.iconst 2, 1) := by decide +kernel
theorem dX12_placeAt_7 : decode cX12_placeAt 7 = .ok (.imul, 1) := by decide +kernel
theorem dX12_placeAt_8 : decode cX12_placeAt 8 = .ok (.iload_n 3, 1) := by decide +kernel
theorem dX12_placeAt_9 : decode cX12_placeAt 9 = .ok (.ifCond .eq 7, 3) := by decide +kernel
theorem dX12_placeAt_12 : decode cX12_placeAt 12 = .ok (.iconst 1, 1) := by decide +kernel
theorem dX12_placeAt_13 : decode cX12_placeAt 13 = .ok (.goto 4, 3) := by decide +kernel
theorem dX12_placeAt_16 : decode cX12_placeAt 16 = .ok (.iconst 0, 1) := by decide +kernel
theorem dX12_placeAt_17 : decode cX12_placeAt 17 = .ok (.iadd, 1) := by decide +kernel
theorem dX12_placeAt_18 : decode cX12_placeAt 18 = .ok (.ireturn, 1) := by decide +kernel
set_option maxRecDepth 20000 in
theorem ggX12_could_X12_placeAt : GoodIn wsX12_could wsX12_placeAt := goodIn_r _ [6] (by decide +kernel) (by decide +kernel)
set_option maxRecDepth 20000 in
theorem gX12_could_X12_placeAt : GoodIn wsX12_could (wsV RX12 435 RX12 yX12_placeAt wsX12_placeAt) := goodIn_app (goodIn_of _ (by decide +kernel)) ggX12_could_X12_placeAt
theorem dX12_could_0 : decode cX12_could 0 = .ok (.aload_n 0, 1) := by decide +kernel
theorem dX12_could_1 : decode cX12_could 1 = .ok (.iload_n 1, 1) := by decide +kernel
theorem dX12_could_2 : decode cX12_could 2 = .ok (.iload_n 2, 1) := by decide +kernel
theorem dX12_could_3 : decode cX12_could 3 = .ok (.iload_n 3, 1) := by decide +kernel
theorem dX12_could_4 : decode cX12_could 4 = .ok (.invokevirtual 435, 3) := by decide +kernel
theorem dX12_could_7 : decode cX12_could 7 = .ok (.istore 5, 2) := by decide +kernel
theorem dX12_could_9 : decode cX12_could 9 = .ok (.iload 4, 2) := by decide +kernel
theorem dX12_could_11 : decode cX12_could 11 = .ok (.aload_n 0, 1) := by decide +kernel
theorem dX12_could_12 : decode cX12_could 12 = .ok (.getfield 64, 3) := by decide +kernel
theorem dX12_could_15 : decode cX12_could 15 = .ok (.iload 5, 2) := by decide +kernel
theorem dX12_could_17 : decode cX12_could 17 = .ok (.iaload, 1) := by decide +kernel
theorem dX12_could_18 : decode cX12_could 18 = .ok (.if_icmp .ge 12, 3) := by decide +kernel
theorem dX12_could_21 : decode cX12_could 21 = .ok (.aload_n 0, 1) := by decide +kernel
theorem dX12_could_22 : decode cX12_could 22 = .ok (.getfield 64, 3) := by decide +kernel
theorem dX12_could_25 : decode cX12_could 25 = .ok (.iload 5, 2) := by decide +kernel
theorem dX12_could_27 : decode cX12_could 27 = .ok (.iload 4, 2) := by decide +kernel
theorem dX12_could_29 : decode cX12_could 29 = .ok (.iastore, 1) := by decide +kernel
theorem dX12_could_30 : decode cX12_could 30 = .ok (.return_, 1) := by decide +kernel
set_option maxRecDepth 20000 in
theorem ggX12_leads_X12_placeAt : GoodIn wsX12_leads wsX12_placeAt := goodIn_r _ [7] (by decide +kernel) (by decide +kernel)
set_option maxRecDepth 20000 in
theorem gX12_leads_X12_placeAt : GoodIn wsX12_leads (wsV RX12 435 RX12 yX12_placeAt wsX12_placeAt) := goodIn_app (goodIn_of _ (by decide +kernel)) ggX12_leads_X12_placeAt
set_option maxRecDepth 20000 in
theorem ggX12_leads_X12_walkerOf : GoodIn wsX12_leads wsX12_walkerOf := goodIn_r _ [11, 12, 71, 72, 73, 74, 75, 76, 77, 78, 79, 80, 81, 82, 83, 84, 85, 86, 87, 88, 89, 90, 91, 92, 93, 94, 95, 96, 97, 98, 99, 100, 101, 102, 103, 104, 105, 106, 107, 108, 109, 110, 111, 112] (by decide +kernel) (by decide +kernel)
set_option maxRecDepth 20000 in
theorem gX12_leads_X12_walkerOf : GoodIn wsX12_leads (wsV RX12 372 RX12 yX12_walkerOf wsX12_walkerOf) := goodIn_app (goodIn_of _ (by decide +kernel)) ggX12_leads_X12_walkerOf
set_option maxRecDepth 20000 in
theorem ggX12_leads_X12_could : GoodIn wsX12_leads wsX12_could := goodIn_r _ [16, 1, 3, 4, 5, 6, 7, 71, 72, 73, 74, 75, 76, 77, 78, 79, 80, 81, 82, 83, 84, 85, 86, 87, 88, 89, 90, 91, 92, 93, 94, 95, 96, 97, 98, 99, 100, 101, 102, 103, 104, 105, 106, 107, 108, 109, 110, 111, 112] (by decide +kernel) (by decide +kernel)
set_option maxRecDepth 20000 in
theorem gX12_leads_X12_could : GoodIn wsX12_leads (wsV RX12 439 RX12 yX12_could wsX12_could) := goodIn_app (goodIn_of _ (by decide +kernel)) ggX12_leads_X12_could
set_option maxRecDepth 20000 in
theorem ggX12_leads_X12_takesDay : GoodIn wsX12_leads wsX12_takesDay := goodIn_r _ [20, 12, 21, 22, 23, 24, 6, 25, 71, 72, 73, 74, 75, 76, 77, 78, 79, 80, 81, 82, 83, 84, 85, 86, 87, 88, 89, 90, 91, 92, 93, 94, 95, 96, 97, 98, 99, 100, 101, 102, 103, 104, 105, 106, 107, 108, 109, 110, 111, 112] (by decide +kernel) (by decide +kernel)
set_option maxRecDepth 20000 in
theorem gX12_leads_X12_takesDay : GoodIn wsX12_leads (wsV RX12 381 RX12 yX12_takesDay wsX12_takesDay) := goodIn_app (goodIn_of _ (by decide +kernel)) ggX12_leads_X12_takesDay
set_option maxRecDepth 20000 in
theorem ggX12_leads_X12_takesMap : GoodIn wsX12_leads wsX12_takesMap := goodIn_r _ [29, 12, 21, 71, 72, 73, 74, 75, 76, 77, 78, 79, 80, 81, 82, 83, 84, 85, 86, 87, 88, 89, 90, 91, 92, 93, 94, 95, 96, 97, 98, 99, 100, 101, 102, 103, 104, 105, 106, 107, 108, 109, 110, 111, 112] (by decide +kernel) (by decide +kernel)
set_option maxRecDepth 20000 in
theorem gX12_leads_X12_takesMap : GoodIn wsX12_leads (wsV RX12 351 RX12 yX12_takesMap wsX12_takesMap) := goodIn_app (goodIn_of _ (by decide +kernel)) ggX12_leads_X12_takesMap
set_option maxRecDepth 20000 in
theorem ggX12_leads_X12_spreads : GoodIn wsX12_leads wsX12_spreads := goodIn_r _ [33, 34, 2, 12, 21, 22, 23, 24, 6, 25, 35, 36, 37, 71, 72, 73, 74, 75, 76, 77, 78, 79, 80, 81, 82, 83, 84, 85, 86, 87, 88, 89, 90, 91, 92, 93, 94, 95, 96, 97, 98, 99, 100, 101, 102, 103, 104, 105, 106, 107, 108, 109, 110, 111, 112] (by decide +kernel) (by decide +kernel)
set_option maxRecDepth 20000 in
theorem gX12_leads_X12_spreads : GoodIn wsX12_leads (wsV RX12 354 RX12 yX12_spreads wsX12_spreads) := goodIn_app (goodIn_of _ (by decide +kernel)) ggX12_leads_X12_spreads
set_option maxRecDepth 20000 in
theorem ggX12_leads_X12_streetFrom : GoodIn wsX12_leads wsX12_streetFrom := goodIn_r _ [41, 34, 2, 12, 21, 42, 43, 44, 6, 45, 22, 23, 24, 25, 46, 47, 48, 49, 35, 36, 37, 50, 51, 52, 53, 71, 72, 73, 74, 75, 76, 77, 78, 79, 80, 81, 82, 83, 84, 85, 86, 87, 88, 89, 90, 91, 92, 93, 94, 95, 96, 97, 98, 99, 100, 101, 102, 103, 104, 105, 106, 107, 108, 109, 110, 111, 112] (by decide +kernel) (by decide +kernel)
set_option maxRecDepth 20000 in
theorem gX12_leads_X12_streetFrom : GoodIn wsX12_leads (wsV RX12 357 RX12 yX12_streetFrom wsX12_streetFrom) := goodIn_app (goodIn_of _ (by decide +kernel)) ggX12_leads_X12_streetFrom
set_option maxRecDepth 20000 in
theorem ggX12_leads_X12_isOpen : GoodIn wsX12_leads wsX12_isOpen := goodIn_r _ [57, 42, 43, 44, 6, 45, 22, 23, 24, 25, 12, 58, 59, 60, 61, 46, 47, 48, 49, 35, 36, 37, 62, 63, 64, 65, 66, 67, 68, 69, 70, 71, 72, 73, 74, 75, 76, 77, 78, 79, 80, 81, 82, 83, 84, 85, 86, 87, 88, 89, 90, 91, 92, 93, 94, 95, 96, 97, 98, 99, 100, 101, 102, 103, 104, 105, 106, 107, 108, 109, 110, 111, 112] (by decide +kernel) (by decide +kernel)
set_option maxRecDepth 20000 in
theorem gX12_leads_X12_isOpen : GoodIn wsX12_leads (wsV RX12 334 RX12 yX12_isOpen wsX12_isOpen) := goodIn_app (goodIn_of _ (by decide +kernel)) ggX12_leads_X12_isOpen
set_option maxRecDepth 20000 in
theorem ggX12_leads_X12_streetOf : GoodIn wsX12_leads wsX12_streetOf := goodIn_r _ [25, 12, 71, 72, 73, 74, 75, 76, 77, 78, 79, 80, 81, 82, 83, 84, 85, 86, 87, 88, 89, 90, 91, 92, 93, 94, 95, 96, 97, 98, 99, 100, 101, 102, 103, 104, 105, 106, 107, 108, 109, 110, 111, 112] (by decide +kernel) (by decide +kernel)
set_option maxRecDepth 20000 in
theorem gX12_leads_X12_streetOf : GoodIn wsX12_leads (wsV RX12 300 RX12 yX12_streetOf wsX12_streetOf) := goodIn_app (goodIn_of _ (by decide +kernel)) ggX12_leads_X12_streetOf
set_option maxRecDepth 20000 in
theorem ggX12_leads_X12_otherOf : GoodIn wsX12_leads wsX12_otherOf := goodIn_r _ [53, 22, 23, 24, 6, 25, 12, 71, 72, 73, 74, 75, 76, 77, 78, 79, 80, 81, 82, 83, 84, 85, 86, 87, 88, 89, 90, 91, 92, 93, 94, 95, 96, 97, 98, 99, 100, 101, 102, 103, 104, 105, 106, 107, 108, 109, 110, 111, 112] (by decide +kernel) (by decide +kernel)
set_option maxRecDepth 20000 in
theorem gX12_leads_X12_otherOf : GoodIn wsX12_leads (wsV RX12 348 RX12 yX12_otherOf wsX12_otherOf) := goodIn_app (goodIn_of _ (by decide +kernel)) ggX12_leads_X12_otherOf
theorem dX12_leads_0 : decode cX12_leads 0 = .ok (.aload_n 0, 1) := by decide +kernel
theorem dX12_leads_1 : decode cX12_leads 1 = .ok (.getfield 64, 3) := by decide +kernel
theorem dX12_leads_4 : decode cX12_leads 4 = .ok (.aload_n 0, 1) := by decide +kernel
theorem dX12_leads_5 : decode cX12_leads 5 = .ok (.iload_n 3, 1) := by decide +kernel
theorem dX12_leads_6 : decode cX12_leads 6 = .ok (.iload 4, 2) := by decide +kernel
theorem dX12_leads_8 : decode cX12_leads 8 = .ok (.iload 5, 2) := by decide +kernel
theorem dX12_leads_10 : decode cX12_leads 10 = .ok (.invokevirtual 435, 3) := by decide +kernel
theorem dX12_leads_13 : decode cX12_leads 13 = .ok (.iaload, 1) := by decide +kernel
theorem dX12_leads_14 : decode cX12_leads 14 = .ok (.istore 7, 2) := by decide +kernel
theorem dX12_leads_16 : decode cX12_leads 16 = .ok (.iload 7, 2) := by decide +kernel
theorem dX12_leads_18 : decode cX12_leads 18 = .ok (.ldc_w 347, 3) := by decide +kernel
theorem dX12_leads_21 : decode cX12_leads 21 = .ok (.if_icmp .eq 20, 3) := by decide +kernel
theorem dX12_leads_24 : decode cX12_leads 24 = .ok (.iload_n 3, 1) := by decide +kernel
theorem dX12_leads_25 : decode cX12_leads 25 = .ok (.iload 6, 2) := by decide +kernel
theorem dX12_leads_27 : decode cX12_leads 27 = .ok (.if_icmp .eq 14, 3) := by decide +kernel
theorem dX12_leads_30 : decode cX12_leads 30 = .ok (.iload 4, 2) := by decide +kernel
theorem dX12_leads_32 : decode cX12_leads 32 = .ok (.aload_n 0, 1) := by decide +kernel
theorem dX12_leads_33 : decode cX12_leads 33 = .ok (.iload_n 1, 1) := by decide +kernel
theorem dX12_leads_34 : decode cX12_leads 34 = .ok (.iconst 1, 1) := by decide +kernel
theorem dX12_leads_35 : decode cX12_leads 35 = .ok (.invokevirtual 372, 3) := by decide +kernel
theorem dX12_leads_38 : decode cX12_leads 38 = .ok (.if_icmp .ne 4, 3) := by decide +kernel
theorem dX12_leads_41 : decode cX12_leads 41 = .ok (.return_, 1) := by decide +kernel
theorem dX12_leads_42 : decode cX12_leads 42 = .ok (.iload_n 2, 1) := by decide +kernel
theorem dX12_leads_43 : decode cX12_leads 43 = .ok (.iload_n 3, 1) := by decide +kernel
theorem dX12_leads_44 : decode cX12_leads 44 = .ok (.iadd, 1) := by decide +kernel
theorem dX12_leads_45 : decode cX12_leads 45 = .ok (.istore 8, 2) := by decide +kernel
theorem dX12_leads_47 : decode cX12_leads 47 = .ok (.iload 8, 2) := by decide +kernel
theorem dX12_leads_49 : decode cX12_leads 49 = .ok (.iconst 1, 1) := by decide +kernel
theorem dX12_leads_50 : decode cX12_leads 50 = .ok (.iadd, 1) := by decide +kernel
theorem dX12_leads_51 : decode cX12_leads 51 = .ok (.bipush 24, 2) := by decide +kernel
theorem dX12_leads_53 : decode cX12_leads 53 = .ok (.idiv, 1) := by decide +kernel
theorem dX12_leads_54 : decode cX12_leads 54 = .ok (.iload 8, 2) := by decide +kernel
theorem dX12_leads_56 : decode cX12_leads 56 = .ok (.bipush 24, 2) := by decide +kernel
theorem dX12_leads_58 : decode cX12_leads 58 = .ok (.idiv, 1) := by decide +kernel
theorem dX12_leads_59 : decode cX12_leads 59 = .ok (.if_icmp .ne 7, 3) := by decide +kernel
theorem dX12_leads_62 : decode cX12_leads 62 = .ok (.iconst 1, 1) := by decide +kernel
theorem dX12_leads_63 : decode cX12_leads 63 = .ok (.goto 4, 3) := by decide +kernel
theorem dX12_leads_66 : decode cX12_leads 66 = .ok (.iconst 0, 1) := by decide +kernel
theorem dX12_leads_67 : decode cX12_leads 67 = .ok (.istore 9, 2) := by decide +kernel
theorem dX12_leads_69 : decode cX12_leads 69 = .ok (.aload_n 0, 1) := by decide +kernel
theorem dX12_leads_70 : decode cX12_leads 70 = .ok (.iload_n 3, 1) := by decide +kernel
theorem dX12_leads_71 : decode cX12_leads 71 = .ok (.iconst 1, 1) := by decide +kernel
theorem dX12_leads_72 : decode cX12_leads 72 = .ok (.iadd, 1) := by decide +kernel
theorem dX12_leads_73 : decode cX12_leads 73 = .ok (.iload 4, 2) := by decide +kernel
theorem dX12_leads_75 : decode cX12_leads 75 = .ok (.iload 5, 2) := by decide +kernel
theorem dX12_leads_77 : decode cX12_leads 77 = .ok (.ifCond .eq 12, 3) := by decide +kernel
theorem dX12_leads_80 : decode cX12_leads 80 = .ok (.iload 9, 2) := by decide +kernel
theorem dX12_leads_82 : decode cX12_leads 82 = .ok (.ifCond .eq 7, 3) := by decide +kernel
theorem dX12_leads_85 : decode cX12_leads 85 = .ok (.iconst 1, 1) := by decide +kernel
theorem dX12_leads_86 : decode cX12_leads 86 = .ok (.goto 4, 3) := by decide +kernel
theorem dX12_leads_89 : decode cX12_leads 89 = .ok (.iconst 0, 1) := by decide +kernel
theorem dX12_leads_90 : decode cX12_leads 90 = .ok (.iload 7, 2) := by decide +kernel
theorem dX12_leads_92 : decode cX12_leads 92 = .ok (.invokevirtual 439, 3) := by decide +kernel
theorem dX12_leads_95 : decode cX12_leads 95 = .ok (.iload 5, 2) := by decide +kernel
theorem dX12_leads_97 : decode cX12_leads 97 = .ok (.ifCond .ne 18, 3) := by decide +kernel
theorem dX12_leads_100 : decode cX12_leads 100 = .ok (.aload_n 0, 1) := by decide +kernel
theorem dX12_leads_101 : decode cX12_leads 101 = .ok (.iload_n 3, 1) := by decide +kernel
theorem dX12_leads_102 : decode cX12_leads 102 = .ok (.iconst 1, 1) := by decide +kernel
theorem dX12_leads_103 : decode cX12_leads 103 = .ok (.iadd, 1) := by decide +kernel
theorem dX12_leads_104 : decode cX12_leads 104 = .ok (.iload 4, 2) := by decide +kernel
theorem dX12_leads_106 : decode cX12_leads 106 = .ok (.iload 9, 2) := by decide +kernel
theorem dX12_leads_108 : decode cX12_leads 108 = .ok (.iload 7, 2) := by decide +kernel
theorem dX12_leads_110 : decode cX12_leads 110 = .ok (.iconst 1, 1) := by decide +kernel
theorem dX12_leads_111 : decode cX12_leads 111 = .ok (.iadd, 1) := by decide +kernel
theorem dX12_leads_112 : decode cX12_leads 112 = .ok (.invokevirtual 439, 3) := by decide +kernel
theorem dX12_leads_115 : decode cX12_leads 115 = .ok (.iload 5, 2) := by decide +kernel
theorem dX12_leads_117 : decode cX12_leads 117 = .ok (.ifCond .eq 18, 3) := by decide +kernel
theorem dX12_leads_120 : decode cX12_leads 120 = .ok (.aload_n 0, 1) := by decide +kernel
theorem dX12_leads_121 : decode cX12_leads 121 = .ok (.iload 8, 2) := by decide +kernel
theorem dX12_leads_123 : decode cX12_leads 123 = .ok (.bipush 24, 2) := by decide +kernel
theorem dX12_leads_125 : decode cX12_leads 125 = .ok (.idiv, 1) := by decide +kernel
theorem dX12_leads_126 : decode cX12_leads 126 = .ok (.bipush 7, 2) := by decide +kernel
theorem dX12_leads_128 : decode cX12_leads 128 = .ok (.irem, 1) := by decide +kernel
theorem dX12_leads_129 : decode cX12_leads 129 = .ok (.invokevirtual 381, 3) := by decide +kernel
theorem dX12_leads_132 : decode cX12_leads 132 = .ok (.goto 13, 3) := by decide +kernel
theorem dX12_leads_135 : decode cX12_leads 135 = .ok (.aload_n 0, 1) := by decide +kernel
theorem dX12_leads_136 : decode cX12_leads 136 = .ok (.aload_n 0, 1) := by decide +kernel
theorem dX12_leads_137 : decode cX12_leads 137 = .ok (.iload_n 1, 1) := by decide +kernel
theorem dX12_leads_138 : decode cX12_leads 138 = .ok (.iconst 2, 1) := by decide +kernel
theorem dX12_leads_139 : decode cX12_leads 139 = .ok (.invokevirtual 372, 3) := by decide +kernel
theorem dX12_leads_142 : decode cX12_leads 142 = .ok (.invokevirtual 351, 3) := by decide +kernel
theorem dX12_leads_145 : decode cX12_leads 145 = .ok (.aload_n 0, 1) := by decide +kernel
theorem dX12_leads_146 : decode cX12_leads 146 = .ok (.aload_n 0, 1) := by decide +kernel
theorem dX12_leads_147 : decode cX12_leads 147 = .ok (.iload_n 1, 1) := by decide +kernel
theorem dX12_leads_148 : decode cX12_leads 148 = .ok (.iconst 1, 1) := by decide +kernel
theorem dX12_leads_149 : decode cX12_leads 149 = .ok (.invokevirtual 372, 3) := by decide +kernel
theorem dX12_leads_152 : decode cX12_leads 152 = .ok (.invokevirtual 354, 3) := by decide +kernel
theorem dX12_leads_155 : decode cX12_leads 155 = .ok (.aload_n 0, 1) := by decide +kernel
theorem dX12_leads_156 : decode cX12_leads 156 = .ok (.iload 4, 2) := by decide +kernel
theorem dX12_leads_158 : decode cX12_leads 158 = .ok (.invokevirtual 357, 3) := by decide +kernel
theorem dX12_leads_161 : decode cX12_leads 161 = .ok (.istore 10, 2) := by decide +kernel
theorem dX12_leads_163 : decode cX12_leads 163 = .ok (.iload 10, 2) := by decide +kernel
theorem dX12_leads_165 : decode cX12_leads 165 = .ok (.ifCond .lt 16, 3) := by decide +kernel
theorem dX12_leads_168 : decode cX12_leads 168 = .ok (.aload_n 0, 1) := by decide +kernel
theorem dX12_leads_169 : decode cX12_leads 169 = .ok (.iload 10, 2) := by decide +kernel
theorem dX12_leads_171 : decode cX12_leads 171 = .ok (.iload 4, 2) := by decide +kernel
theorem dX12_leads_173 : decode cX12_leads 173 = .ok (.iload 8, 2) := by decide +kernel
theorem dX12_leads_175 : decode cX12_leads 175 = .ok (.invokevirtual 334, 3) := by decide +kernel
theorem dX12_leads_178 : decode cX12_leads 178 = .ok (.ifCond .ne 4, 3) := by decide +kernel
theorem dX12_leads_181 : decode cX12_leads 181 = .ok (.return_, 1) := by decide +kernel
theorem dX12_leads_182 : decode cX12_leads 182 = .ok (.iload_n 3, 1) := by decide +kernel
theorem dX12_leads_183 : decode cX12_leads 183 = .ok (.aload_n 0, 1) := by decide +kernel
theorem dX12_leads_184 : decode cX12_leads 184 = .ok (.iload 10, 2) := by decide +kernel
theorem dX12_leads_186 : decode cX12_leads 186 = .ok (.iconst 2, 1) := by decide +kernel
theorem dX12_leads_187 : decode cX12_leads 187 = .ok (.invokevirtual 300, 3) := by decide +kernel
theorem dX12_leads_190 : decode cX12_leads 190 = .ok (.iadd, 1) := by decide +kernel
theorem dX12_leads_191 : decode cX12_leads 191 = .ok (.istore 11, 2) := by decide +kernel
theorem dX12_leads_193 : decode cX12_leads 193 = .ok (.iload 11, 2) := by decide +kernel
theorem dX12_leads_195 : decode cX12_leads 195 = .ok (.iload 6, 2) := by decide +kernel
theorem dX12_leads_197 : decode cX12_leads 197 = .ok (.if_icmp .gt 44, 3) := by decide +kernel
theorem dX12_leads_200 : decode cX12_leads 200 = .ok (.aload_n 0, 1) := by decide +kernel
theorem dX12_leads_201 : decode cX12_leads 201 = .ok (.iload 11, 2) := by decide +kernel
theorem dX12_leads_203 : decode cX12_leads 203 = .ok (.aload_n 0, 1) := by decide +kernel
theorem dX12_leads_204 : decode cX12_leads 204 = .ok (.iload 10, 2) := by decide +kernel
theorem dX12_leads_206 : decode cX12_leads 206 = .ok (.iload 4, 2) := by decide +kernel
theorem dX12_leads_208 : decode cX12_leads 208 = .ok (.invokevirtual 348, 3) := by decide +kernel
theorem dX12_leads_211 : decode cX12_leads 211 = .ok (.iload 5, 2) := by decide +kernel
theorem dX12_leads_213 : decode cX12_leads 213 = .ok (.ifCond .eq 22, 3) := by decide +kernel
theorem dX12_leads_216 : decode cX12_leads 216 = .ok (.iload_n 2, 1) := by decide +kernel
theorem dX12_leads_217 : decode cX12_leads 217 = .ok (.iload 11, 2) := by decide +kernel
theorem dX12_leads_219 : decode cX12_leads 219 = .ok (.iadd, 1) := by decide +kernel
theorem dX12_leads_220 : decode cX12_leads 220 = .ok (.bipush 24, 2) := by decide +kernel
theorem dX12_leads_222 : decode cX12_leads 222 = .ok (.idiv, 1) := by decide +kernel
theorem dX12_leads_223 : decode cX12_leads 223 = .ok (.iload 8, 2) := by decide +kernel
theorem dX12_leads_225 : decode cX12_leads 225 = .ok (.bipush 24, 2) := by decide +kernel
theorem dX12_leads_227 : decode cX12_leads 227 = .ok (.idiv, 1) := by decide +kernel
theorem dX12_leads_228 : decode cX12_leads 228 = .ok (.if_icmp .ne 7, 3) := by decide +kernel
theorem dX12_leads_231 : decode cX12_leads 231 = .ok (.iconst 1, 1) := by decide +kernel
theorem dX12_leads_232 : decode cX12_leads 232 = .ok (.goto 4, 3) := by decide +kernel
theorem dX12_leads_235 : decode cX12_leads 235 = .ok (.iconst 0, 1) := by decide +kernel
theorem dX12_leads_236 : decode cX12_leads 236 = .ok (.iload 7, 2) := by decide +kernel
theorem dX12_leads_238 : decode cX12_leads 238 = .ok (.invokevirtual 439, 3) := by decide +kernel
theorem dX12_leads_241 : decode cX12_leads 241 = .ok (.return_, 1) := by decide +kernel
set_option maxRecDepth 20000 in
theorem ggX12_questions_X12_isWalker : GoodIn wsX12_questions wsX12_isWalker := goodIn_r _ [9, 4, 87, 88, 89, 90, 91, 92, 93, 94, 95, 96, 97, 98, 99, 100, 101, 102, 103, 104, 105, 106, 107, 108, 109, 110, 111, 112, 113, 114, 115, 116, 117, 118, 119, 120, 121, 122, 123, 124, 125, 126, 127, 128] (by decide +kernel) (by decide +kernel)
set_option maxRecDepth 20000 in
theorem gX12_questions_X12_isWalker : GoodIn wsX12_questions (wsV RX12 367 RX12 yX12_isWalker wsX12_isWalker) := goodIn_app (goodIn_of _ (by decide +kernel)) ggX12_questions_X12_isWalker
set_option maxRecDepth 20000 in
theorem ggX12_questions_X12_in : GoodIn wsX12_questions wsX12_in := goodIn_r _ [12] (by decide +kernel) (by decide +kernel)
set_option maxRecDepth 20000 in
theorem gX12_questions_X12_in : GoodIn wsX12_questions (va_wsS RX12 122 yX12_in wsX12_in) := goodIn_app (goodIn_of _ (by decide +kernel)) ggX12_questions_X12_in
set_option maxRecDepth 20000 in
theorem ggX12_questions_X12_walkerOf : GoodIn wsX12_questions wsX12_walkerOf := goodIn_r _ [16, 4, 87, 88, 89, 90, 91, 92, 93, 94, 95, 96, 97, 98, 99, 100, 101, 102, 103, 104, 105, 106, 107, 108, 109, 110, 111, 112, 113, 114, 115, 116, 117, 118, 119, 120, 121, 122, 123, 124, 125, 126, 127, 128] (by decide +kernel) (by decide +kernel)
set_option maxRecDepth 20000 in
theorem gX12_questions_X12_walkerOf : GoodIn wsX12_questions (wsV RX12 372 RX12 yX12_walkerOf wsX12_walkerOf) := goodIn_app (goodIn_of _ (by decide +kernel)) ggX12_questions_X12_walkerOf
set_option maxRecDepth 20000 in
theorem ggX12_questions_X12_askedToday : GoodIn wsX12_questions wsX12_askedToday := goodIn_r _ [20, 13, 14, 15, 8, 16, 4, 87, 88, 89, 90, 91, 92, 93, 94, 95, 96, 97, 98, 99, 100, 101, 102, 103, 104, 105, 106, 107, 108, 109, 110, 111, 112, 113, 114, 115, 116, 117, 118, 119, 120, 121, 122, 123, 124, 125, 126, 127, 128] (by decide +kernel) (by decide +kernel)
set_option maxRecDepth 20000 in
theorem gX12_questions_X12_askedToday : GoodIn wsX12_questions (wsV RX12 375 RX12 yX12_askedToday wsX12_askedToday) := goodIn_app (goodIn_of _ (by decide +kernel)) ggX12_questions_X12_askedToday
set_option maxRecDepth 20000 in
theorem ggX12_questions_X12_could : GoodIn wsX12_questions wsX12_could := goodIn_r _ [24, 2, 25, 26, 27, 8, 28, 87, 88, 89, 90, 91, 92, 93, 94, 95, 96, 97, 98, 99, 100, 101, 102, 103, 104, 105, 106, 107, 108, 109, 110, 111, 112, 113, 114, 115, 116, 117, 118, 119, 120, 121, 122, 123, 124, 125, 126, 127, 128] (by decide +kernel) (by decide +kernel)
set_option maxRecDepth 20000 in
theorem gX12_questions_X12_could : GoodIn wsX12_questions (wsV RX12 439 RX12 yX12_could wsX12_could) := goodIn_app (goodIn_of _ (by decide +kernel)) ggX12_questions_X12_could
set_option maxRecDepth 20000 in
theorem ggX12_questions_X12_leads : GoodIn wsX12_questions wsX12_leads := goodIn_r _ [32, 2, 3, 25, 26, 27, 8, 28, 13, 14, 15, 16, 4, 21, 22, 23, 24, 33, 34, 35, 36, 37, 38, 39, 40, 41, 42, 43, 44, 45, 46, 47, 48, 49, 50, 51, 52, 53, 54, 55, 56, 57, 58, 59, 60, 61, 62, 63, 64, 65, 66, 67, 68, 69, 70, 71, 72, 73, 74, 75, 76, 77, 78, 79, 80, 81, 82, 83, 84, 85, 86, 87, 88, 89, 90, 91, 92, 93, 94, 95, 96, 97, 98, 99, 100, 101, 102, 103, 104, 105, 106, 107, 108, 109, 110, 111, 112, 113, 114, 115, 116, 117, 118, 119, 120, 121, 122, 123, 124, 125, 126, 127, 128] (by decide +kernel) (by decide +kernel)
set_option maxRecDepth 20000 in
theorem gX12_questions_X12_leads : GoodIn wsX12_questions (wsV RX12 445 RX12 yX12_leads wsX12_leads) := goodIn_app (goodIn_of _ (by decide +kernel)) ggX12_questions_X12_leads
set_option maxRecDepth 20000 in
theorem ggX12_questions_X12_placeAt : GoodIn wsX12_questions wsX12_placeAt := goodIn_r _ [28] (by decide +kernel) (by decide +kernel)
set_option maxRecDepth 20000 in
theorem gX12_questions_X12_placeAt : GoodIn wsX12_questions (wsV RX12 435 RX12 yX12_placeAt wsX12_placeAt) := goodIn_app (goodIn_of _ (by decide +kernel)) ggX12_questions_X12_placeAt
theorem dX12_questions_0 : decode cX12_questions 0 = .ok (.aload_n 0, 1) := by decide +kernel
theorem dX12_questions_1 : decode cX12_questions 1 = .ok (.iload_n 1, 1) := by decide +kernel
theorem dX12_questions_2 : decode cX12_questions 2 = .ok (.invokevirtual 367, 3) := by decide +kernel
theorem dX12_questions_5 : decode cX12_questions 5 = .ok (.ifCond .eq 15, 3) := by decide +kernel
theorem dX12_questions_8 : decode cX12_questions 8 = .ok (.iload_n 2, 1) := by decide +kernel
theorem dX12_questions_9 : decode cX12_questions 9 = .ok (.i2l, 1) := by decide +kernel
theorem dX12_questions_10 : decode cX12_questions 10 = .ok (.lconst 0, 1) := by decide +kernel
theorem dX12_questions_11 : decode cX12_questions 11 = .ok (.ldc2_w 443, 3) := by decide +kernel
theorem dX12_questions_14 : decode cX12_questions 14 = .ok (.invokestatic 122, 3) := by decide +kernel
theorem dX12_questions_17 : decode cX12_questions 17 = .ok (.ifCond .ne 5, 3) := by decide +kernel
theorem dX12_questions_20 : decode cX12_questions 20 = .ok (.iconst (-1), 1) := by decide +kernel
theorem dX12_questions_21 : decode cX12_questions 21 = .ok (.ireturn, 1) := by decide +kernel
theorem dX12_questions_22 : decode cX12_questions 22 = .ok (.iconst 0, 1) := by decide +kernel
theorem dX12_questions_23 : decode cX12_questions 23 = .ok (.istore_n 3, 1) := by decide +kernel
theorem dX12_questions_24 : decode cX12_questions 24 = .ok (.iload_n 3, 1) := by decide +kernel
theorem dX12_questions_25 : decode cX12_questions 25 = .ok (.sipush 2600, 3) := by decide +kernel
theorem dX12_questions_28 : decode cX12_questions 28 = .ok (.if_icmp .ge 18, 3) := by decide +kernel
theorem dX12_questions_31 : decode cX12_questions 31 = .ok (.aload_n 0, 1) := by decide +kernel
theorem dX12_questions_32 : decode cX12_questions 32 = .ok (.getfield 64, 3) := by decide +kernel
theorem dX12_questions_35 : decode cX12_questions 35 = .ok (.iload_n 3, 1) := by decide +kernel
theorem dX12_questions_36 : decode cX12_questions 36 = .ok (.ldc_w 347, 3) := by decide +kernel
theorem dX12_questions_39 : decode cX12_questions 39 = .ok (.iastore, 1) := by decide +kernel
theorem dX12_questions_40 : decode cX12_questions 40 = .ok (.iinc 3 1, 3) := by decide +kernel
theorem dX12_questions_43 : decode cX12_questions 43 = .ok (.goto (-19), 3) := by decide +kernel
theorem dX12_questions_46 : decode cX12_questions 46 = .ok (.aload_n 0, 1) := by decide +kernel
theorem dX12_questions_47 : decode cX12_questions 47 = .ok (.iconst 0, 1) := by decide +kernel
theorem dX12_questions_48 : decode cX12_questions 48 = .ok (.aload_n 0, 1) := by decide +kernel
theorem dX12_questions_49 : decode cX12_questions 49 = .ok (.iload_n 1, 1) := by decide +kernel
theorem dX12_questions_50 : decode cX12_questions 50 = .ok (.iconst 0, 1) := by decide +kernel
theorem dX12_questions_51 : decode cX12_questions 51 = .ok (.invokevirtual 372, 3) := by decide +kernel
theorem dX12_questions_54 : decode cX12_questions 54 = .ok (.aload_n 0, 1) := by decide +kernel
theorem dX12_questions_55 : decode cX12_questions 55 = .ok (.iload_n 1, 1) := by decide +kernel
theorem dX12_questions_56 : decode cX12_questions 56 = .ok (.invokevirtual 375, 3) := by decide +kernel
theorem dX12_questions_59 : decode cX12_questions 59 = .ok (.iconst 0, 1) := by decide +kernel
theorem dX12_questions_60 : decode cX12_questions 60 = .ok (.invokevirtual 439, 3) := by decide +kernel
theorem dX12_questions_63 : decode cX12_questions 63 = .ok (.ldc_w 347, 3) := by decide +kernel
theorem dX12_questions_66 : decode cX12_questions 66 = .ok (.istore_n 3, 1) := by decide +kernel
theorem dX12_questions_67 : decode cX12_questions 67 = .ok (.iconst 0, 1) := by decide +kernel
theorem dX12_questions_68 : decode cX12_questions 68 = .ok (.istore 4, 2) := by decide +kernel
theorem dX12_questions_70 : decode cX12_questions 70 = .ok (.iload 4, 2) := by decide +kernel
theorem dX12_questions_72 : decode cX12_questions 72 = .ok (.iload_n 2, 1) := by decide +kernel
theorem dX12_questions_73 : decode cX12_questions 73 = .ok (.if_icmp .gt 121, 3) := by decide +kernel
theorem dX12_questions_76 : decode cX12_questions 76 = .ok (.iconst 0, 1) := by decide +kernel
theorem dX12_questions_77 : decode cX12_questions 77 = .ok (.istore 5, 2) := by decide +kernel
theorem dX12_questions_79 : decode cX12_questions 79 = .ok (.iload 5, 2) := by decide +kernel
theorem dX12_questions_81 : decode cX12_questions 81 = .ok (.aload_n 0, 1) := by decide +kernel
theorem dX12_questions_82 : decode cX12_questions 82 = .ok (.getfield 45, 3) := by decide +kernel
theorem dX12_questions_85 : decode cX12_questions 85 = .ok (.iconst 0, 1) := by decide +kernel
theorem dX12_questions_86 : decode cX12_questions 86 = .ok (.iaload, 1) := by decide +kernel
theorem dX12_questions_87 : decode cX12_questions 87 = .ok (.if_icmp .ge 101, 3) := by decide +kernel
theorem dX12_questions_90 : decode cX12_questions 90 = .ok (.iconst 0, 1) := by decide +kernel
theorem dX12_questions_91 : decode cX12_questions 91 = .ok (.istore 6, 2) := by decide +kernel
theorem dX12_questions_93 : decode cX12_questions 93 = .ok (.iload 6, 2) := by decide +kernel
theorem dX12_questions_95 : decode cX12_questions 95 = .ok (.iconst 2, 1) := by decide +kernel
theorem dX12_questions_96 : decode cX12_questions 96 = .ok (.if_icmp .ge 86, 3) := by decide +kernel
theorem dX12_questions_99 : decode cX12_questions 99 = .ok (.aload_n 0, 1) := by decide +kernel
theorem dX12_questions_100 : decode cX12_questions 100 = .ok (.iload_n 1, 1) := by decide +kernel
theorem dX12_questions_101 : decode cX12_questions 101 = .ok (.aload_n 0, 1) := by decide +kernel
theorem dX12_questions_102 : decode cX12_questions 102 = .ok (.iload_n 1, 1) := by decide +kernel
theorem dX12_questions_103 : decode cX12_questions 103 = .ok (.iconst 4, 1) := by decide +kernel
theorem dX12_questions_104 : decode cX12_questions 104 = .ok (.invokevirtual 372, 3) := by decide +kernel
theorem dX12_questions_107 : decode cX12_questions 107 = .ok (.iload 4, 2) := by decide +kernel
theorem dX12_questions_109 : decode cX12_questions 109 = .ok (.iload 5, 2) := by decide +kernel
theorem dX12_questions_111 : decode cX12_questions 111 = .ok (.iload 6, 2) := by decide +kernel
theorem dX12_questions_113 : decode cX12_questions 113 = .ok (.iconst 1, 1) := by decide +kernel
theorem dX12_questions_114 : decode cX12_questions 114 = .ok (.if_icmp .ne 7, 3) := by decide +kernel
theorem dX12_questions_117 : decode cX12_questions 117 = .ok (.iconst 1, 1) := by decide +kernel
theorem dX12_questions_118 : decode cX12_questions 118 = .ok (.goto 4, 3) := by decide +kernel
theorem dX12_questions_121 : decode cX12_questions 121 = .ok (.iconst 0, 1) := by decide +kernel
theorem dX12_questions_122 : decode cX12_questions 122 = .ok (.iload_n 2, 1) := by decide +kernel
theorem dX12_questions_123 : decode cX12_questions 123 = .ok (.invokevirtual 445, 3) := by decide +kernel
theorem dX12_questions_126 : decode cX12_questions 126 = .ok (.aload_n 0, 1) := by decide +kernel
theorem dX12_questions_127 : decode cX12_questions 127 = .ok (.getfield 64, 3) := by decide +kernel
theorem dX12_questions_130 : decode cX12_questions 130 = .ok (.aload_n 0, 1) := by decide +kernel
theorem dX12_questions_131 : decode cX12_questions 131 = .ok (.iload 4, 2) := by decide +kernel
theorem dX12_questions_133 : decode cX12_questions 133 = .ok (.iload 5, 2) := by decide +kernel
theorem dX12_questions_135 : decode cX12_questions 135 = .ok (.iload 6, 2) := by decide +kernel
theorem dX12_questions_137 : decode cX12_questions 137 = .ok (.iconst 1, 1) := by decide +kernel
theorem dX12_questions_138 : decode cX12_questions 138 = .ok (.if_icmp .ne 7, 3) := by decide +kernel
theorem dX12_questions_141 : decode cX12_questions 141 = .ok (.iconst 1, 1) := by decide +kernel
theorem dX12_questions_142 : decode cX12_questions 142 = .ok (.goto 4, 3) := by decide +kernel
theorem dX12_questions_145 : decode cX12_questions 145 = .ok (.iconst 0, 1) := by decide +kernel
theorem dX12_questions_146 : decode cX12_questions 146 = .ok (.invokevirtual 435, 3) := by decide +kernel
theorem dX12_questions_149 : decode cX12_questions 149 = .ok (.iaload, 1) := by decide +kernel
theorem dX12_questions_150 : decode cX12_questions 150 = .ok (.istore 7, 2) := by decide +kernel
theorem dX12_questions_152 : decode cX12_questions 152 = .ok (.iload 5, 2) := by decide +kernel
theorem dX12_questions_154 : decode cX12_questions 154 = .ok (.aload_n 0, 1) := by decide +kernel
theorem dX12_questions_155 : decode cX12_questions 155 = .ok (.iload_n 1, 1) := by decide +kernel
theorem dX12_questions_156 : decode cX12_questions 156 = .ok (.iconst 1, 1) := by decide +kernel
theorem dX12_questions_157 : decode cX12_questions 157 = .ok (.invokevirtual 372, 3) := by decide +kernel
theorem dX12_questions_160 : decode cX12_questions 160 = .ok (.if_icmp .ne 14, 3) := by decide +kernel
theorem dX12_questions_163 : decode cX12_questions 163 = .ok (.iload 7, 2) := by decide +kernel
theorem dX12_questions_165 : decode cX12_questions 165 = .ok (.iload_n 3, 1) := by decide +kernel
theorem dX12_questions_166 : decode cX12_questions 166 = .ok (.if_icmp .ge 8, 3) := by decide +kernel
theorem dX12_questions_169 : decode cX12_questions 169 = .ok (.iload 7, 2) := by decide +kernel
theorem dX12_questions_171 : decode cX12_questions 171 = .ok (.goto 4, 3) := by decide +kernel
theorem dX12_questions_174 : decode cX12_questions 174 = .ok (.iload_n 3, 1) := by decide +kernel
theorem dX12_questions_175 : decode cX12_questions 175 = .ok (.istore_n 3, 1) := by decide +kernel
theorem dX12_questions_176 : decode cX12_questions 176 = .ok (.iinc 6 1, 3) := by decide +kernel
theorem dX12_questions_179 : decode cX12_questions 179 = .ok (.goto (-86), 3) := by decide +kernel
theorem dX12_questions_182 : decode cX12_questions 182 = .ok (.iinc 5 1, 3) := by decide +kernel
theorem dX12_questions_185 : decode cX12_questions 185 = .ok (.goto (-106), 3) := by decide +kernel
theorem dX12_questions_188 : decode cX12_questions 188 = .ok (.iinc 4 1, 3) := by decide +kernel
theorem dX12_questions_191 : decode cX12_questions 191 = .ok (.goto (-121), 3) := by decide +kernel
theorem dX12_questions_194 : decode cX12_questions 194 = .ok (.iload_n 3, 1) := by decide +kernel
theorem dX12_questions_195 : decode cX12_questions 195 = .ok (.ldc_w 347, 3) := by decide +kernel
theorem dX12_questions_198 : decode cX12_questions 198 = .ok (.if_icmp .ne 8, 3) := by decide +kernel
theorem dX12_questions_201 : decode cX12_questions 201 = .ok (.bipush (-2), 2) := by decide +kernel
theorem dX12_questions_203 : decode cX12_questions 203 = .ok (.goto 4, 3) := by decide +kernel
theorem dX12_questions_206 : decode cX12_questions 206 = .ok (.iload_n 3, 1) := by decide +kernel
theorem dX12_questions_207 : decode cX12_questions 207 = .ok (.ireturn, 1) := by decide +kernel
set_option maxRecDepth 20000 in
theorem ggX12_firstOpen_X12_isDayFor : GoodIn wsX12_firstOpen wsX12_isDayFor := goodIn_r _ [6, 7, 8, 9, 5, 10, 11, 12, 13, 14, 15, 16, 17, 18, 19, 20, 21, 22, 23, 28, 29, 30, 31, 32, 33, 34, 35, 36, 37, 38, 39, 40, 41, 42, 43, 44, 45, 46, 47, 48, 49, 50, 51, 52, 53, 54, 55, 56, 57, 58, 59, 60, 61, 62, 63, 64, 65, 66, 67, 68, 69] (by decide +kernel) (by decide +kernel)
set_option maxRecDepth 20000 in
theorem gX12_firstOpen_X12_isDayFor : GoodIn wsX12_firstOpen (wsV RX12 317 RX12 yX12_isDayFor wsX12_isDayFor) := goodIn_app (goodIn_of _ (by decide +kernel)) ggX12_firstOpen_X12_isDayFor
set_option maxRecDepth 20000 in
theorem ggX12_firstOpen_X12_isLifted : GoodIn wsX12_firstOpen wsX12_isLifted := goodIn_r _ [27, 11, 28, 29, 30, 31, 32, 33, 34, 35, 36, 37, 38, 39, 40, 41, 42, 43, 44, 45, 46, 47, 48, 49, 50, 51, 52, 53, 54, 55, 56, 57, 58, 59, 60, 61, 62, 63, 64, 65, 66, 67, 68, 69] (by decide +kernel) (by decide +kernel)
set_option maxRecDepth 20000 in
theorem gX12_firstOpen_X12_isLifted : GoodIn wsX12_firstOpen (wsV RX12 320 RX12 yX12_isLifted wsX12_isLifted) := goodIn_app (goodIn_of _ (by decide +kernel)) ggX12_firstOpen_X12_isLifted
theorem dX12_firstOpen_0 : decode cX12_firstOpen 0 = .ok (.iload_n 3, 1) := by decide +kernel
theorem dX12_firstOpen_1 : decode cX12_firstOpen 1 = .ok (.istore 5, 2) := by decide +kernel
theorem dX12_firstOpen_3 : decode cX12_firstOpen 3 = .ok (.iload 5, 2) := by decide +kernel
theorem dX12_firstOpen_5 : decode cX12_firstOpen 5 = .ok (.iload 4, 2) := by decide +kernel
theorem dX12_firstOpen_7 : decode cX12_firstOpen 7 = .ok (.if_icmp .gt 51, 3) := by decide +kernel
theorem dX12_firstOpen_10 : decode cX12_firstOpen 10 = .ok (.aload_n 0, 1) := by decide +kernel
theorem dX12_firstOpen_11 : decode cX12_firstOpen 11 = .ok (.iload_n 1, 1) := by decide +kernel
theorem dX12_firstOpen_12 : decode cX12_firstOpen 12 = .ok (.iload_n 2, 1) := by decide +kernel
theorem dX12_firstOpen_13 : decode cX12_firstOpen 13 = .ok (.iload 5, 2) := by decide +kernel
theorem dX12_firstOpen_15 : decode cX12_firstOpen 15 = .ok (.bipush 24, 2) := by decide +kernel
theorem dX12_firstOpen_17 : decode cX12_firstOpen 17 = .ok (.idiv, 1) := by decide +kernel
theorem dX12_firstOpen_18 : decode cX12_firstOpen 18 = .ok (.invokevirtual 317, 3) := by decide +kernel
theorem dX12_firstOpen_21 : decode cX12_firstOpen 21 = .ok (.ifCond .ne 18, 3) := by decide +kernel
theorem dX12_firstOpen_24 : decode cX12_firstOpen 24 = .ok (.iload 5, 2) := by decide +kernel
theorem dX12_firstOpen_26 : decode cX12_firstOpen 26 = .ok (.bipush 24, 2) := by decide +kernel
theorem dX12_firstOpen_28 : decode cX12_firstOpen 28 = .ok (.idiv, 1) := by decide +kernel
theorem dX12_firstOpen_29 : decode cX12_firstOpen 29 = .ok (.iconst 1, 1) := by decide +kernel
theorem dX12_firstOpen_30 : decode cX12_firstOpen 30 = .ok (.iadd, 1) := by decide +kernel
theorem dX12_firstOpen_31 : decode cX12_firstOpen 31 = .ok (.bipush 24, 2) := by decide +kernel
theorem dX12_firstOpen_33 : decode cX12_firstOpen 33 = .ok (.imul, 1) := by decide +kernel
theorem dX12_firstOpen_34 : decode cX12_firstOpen 34 = .ok (.istore 5, 2) := by decide +kernel
theorem dX12_firstOpen_36 : decode cX12_firstOpen 36 = .ok (.goto (-33), 3) := by decide +kernel
theorem dX12_firstOpen_39 : decode cX12_firstOpen 39 = .ok (.aload_n 0, 1) := by decide +kernel
theorem dX12_firstOpen_40 : decode cX12_firstOpen 40 = .ok (.iload_n 1, 1) := by decide +kernel
theorem dX12_firstOpen_41 : decode cX12_firstOpen 41 = .ok (.iload 5, 2) := by decide +kernel
theorem dX12_firstOpen_43 : decode cX12_firstOpen 43 = .ok (.invokevirtual 320, 3) := by decide +kernel
theorem dX12_firstOpen_46 : decode cX12_firstOpen 46 = .ok (.ifCond .eq 9, 3) := by decide +kernel
theorem dX12_firstOpen_49 : decode cX12_firstOpen 49 = .ok (.iinc 5 1, 3) := by decide +kernel
theorem dX12_firstOpen_52 : decode cX12_firstOpen 52 = .ok (.goto (-49), 3) := by decide +kernel
theorem dX12_firstOpen_55 : decode cX12_firstOpen 55 = .ok (.iload 5, 2) := by decide +kernel
theorem dX12_firstOpen_57 : decode cX12_firstOpen 57 = .ok (.ireturn, 1) := by decide +kernel
theorem dX12_firstOpen_58 : decode cX12_firstOpen 58 = .ok (.ldc_w 347, 3) := by decide +kernel
theorem dX12_firstOpen_61 : decode cX12_firstOpen 61 = .ok (.ireturn, 1) := by decide +kernel
set_option maxRecDepth 20000 in
theorem ggX12_reaches_X12_isAt : GoodIn wsX12_reaches wsX12_isAt := goodIn_r _ [9, 10, 11, 12, 8, 13, 4, 42, 43, 44, 45, 46, 47, 48, 49, 50, 51, 52, 53, 54, 55, 56, 57, 58, 59, 60, 61, 62, 63, 64, 65, 66, 67, 68, 69, 70, 71, 72, 73, 74, 75, 76, 77, 78, 79, 80, 81, 82, 83] (by decide +kernel) (by decide +kernel)
set_option maxRecDepth 20000 in
theorem gX12_reaches_X12_isAt : GoodIn wsX12_reaches (wsV RX12 314 RX12 yX12_isAt wsX12_isAt) := goodIn_app (goodIn_of _ (by decide +kernel)) ggX12_reaches_X12_isAt
set_option maxRecDepth 20000 in
theorem ggX12_reaches_X12_firstOpen : GoodIn wsX12_reaches wsX12_firstOpen := goodIn_r _ [17, 2, 18, 19, 20, 8, 21, 10, 11, 12, 13, 4, 22, 23, 24, 25, 26, 27, 28, 29, 30, 31, 32, 33, 34, 35, 36, 37, 42, 43, 44, 45, 46, 47, 48, 49, 50, 51, 52, 53, 54, 55, 56, 57, 58, 59, 60, 61, 62, 63, 64, 65, 66, 67, 68, 69, 70, 71, 72, 73, 74, 75, 76, 77, 78, 79, 80, 81, 82, 83] (by decide +kernel) (by decide +kernel)
set_option maxRecDepth 20000 in
theorem gX12_reaches_X12_firstOpen : GoodIn wsX12_reaches (wsV RX12 449 RX12 yX12_firstOpen wsX12_firstOpen) := goodIn_app (goodIn_of _ (by decide +kernel)) ggX12_reaches_X12_firstOpen
set_option maxRecDepth 20000 in
theorem ggX12_reaches_X12_otherOf : GoodIn wsX12_reaches wsX12_otherOf := goodIn_r _ [41, 10, 11, 12, 8, 13, 4, 42, 43, 44, 45, 46, 47, 48, 49, 50, 51, 52, 53, 54, 55, 56, 57, 58, 59, 60, 61, 62, 63, 64, 65, 66, 67, 68, 69, 70, 71, 72, 73, 74, 75, 76, 77, 78, 79, 80, 81, 82, 83] (by decide +kernel) (by decide +kernel)
set_option maxRecDepth 20000 in
theorem gX12_reaches_X12_otherOf : GoodIn wsX12_reaches (wsV RX12 348 RX12 yX12_otherOf wsX12_otherOf) := goodIn_app (goodIn_of _ (by decide +kernel)) ggX12_reaches_X12_otherOf
set_option maxRecDepth 20000 in
theorem ggX12_reaches_X12_streetOf : GoodIn wsX12_reaches wsX12_streetOf := goodIn_r _ [13, 4, 42, 43, 44, 45, 46, 47, 48, 49, 50, 51, 52, 53, 54, 55, 56, 57, 58, 59, 60, 61, 62, 63, 64, 65, 66, 67, 68, 69, 70, 71, 72, 73, 74, 75, 76, 77, 78, 79, 80, 81, 82, 83] (by decide +kernel) (by decide +kernel)
set_option maxRecDepth 20000 in
theorem gX12_reaches_X12_streetOf : GoodIn wsX12_reaches (wsV RX12 300 RX12 yX12_streetOf wsX12_streetOf) := goodIn_app (goodIn_of _ (by decide +kernel)) ggX12_reaches_X12_streetOf
theorem dX12_reaches_0 : decode cX12_reaches 0 = .ok (.iconst 0, 1) := by decide +kernel
theorem dX12_reaches_1 : decode cX12_reaches 1 = .ok (.istore 5, 2) := by decide +kernel
theorem dX12_reaches_3 : decode cX12_reaches 3 = .ok (.iload 5, 2) := by decide +kernel
theorem dX12_reaches_5 : decode cX12_reaches 5 = .ok (.bipush 10, 2) := by decide +kernel
theorem dX12_reaches_7 : decode cX12_reaches 7 = .ok (.if_icmp .ge 37, 3) := by decide +kernel
theorem dX12_reaches_10 : decode cX12_reaches 10 = .ok (.aload_n 0, 1) := by decide +kernel
theorem dX12_reaches_11 : decode cX12_reaches 11 = .ok (.getfield 67, 3) := by decide +kernel
theorem dX12_reaches_14 : decode cX12_reaches 14 = .ok (.iload 5, 2) := by decide +kernel
theorem dX12_reaches_16 : decode cX12_reaches 16 = .ok (.iload 5, 2) := by decide +kernel
theorem dX12_reaches_18 : decode cX12_reaches 18 = .ok (.iload_n 1, 1) := by decide +kernel
theorem dX12_reaches_19 : decode cX12_reaches 19 = .ok (.if_icmp .ne 7, 3) := by decide +kernel
theorem dX12_reaches_22 : decode cX12_reaches 22 = .ok (.iload_n 3, 1) := by decide +kernel
theorem dX12_reaches_23 : decode cX12_reaches 23 = .ok (.goto 6, 3) := by decide +kernel
theorem dX12_reaches_26 : decode cX12_reaches 26 = .ok (.ldc_w 347, 3) := by decide +kernel
theorem dX12_reaches_29 : decode cX12_reaches 29 = .ok (.iastore, 1) := by decide +kernel
theorem dX12_reaches_30 : decode cX12_reaches 30 = .ok (.aload_n 0, 1) := by decide +kernel
theorem dX12_reaches_31 : decode cX12_reaches 31 = .ok (.getfield 70, 3) := by decide +kernel
theorem dX12_reaches_34 : decode cX12_reaches 34 = .ok (.iload 5, 2) := by decide +kernel
theorem dX12_reaches_36 : decode cX12_reaches 36 = .ok (.iconst 0, 1) := by decide +kernel
theorem dX12_reaches_37 : decode cX12_reaches 37 = .ok (.bastore, 1) := by decide +kernel
theorem dX12_reaches_38 : decode cX12_reaches 38 = .ok (.iinc 5 1, 3) := by decide +kernel
theorem dX12_reaches_41 : decode cX12_reaches 41 = .ok (.goto (-38), 3) := by decide +kernel
theorem dX12_reaches_44 : decode cX12_reaches 44 = .ok (.aload_n 0, 1) := by decide +kernel
theorem dX12_reaches_45 : decode cX12_reaches 45 = .ok (.getfield 70, 3) := by decide +kernel
theorem dX12_reaches_48 : decode cX12_reaches 48 = .ok (.iload_n 2, 1) := by decide +kernel
theorem dX12_reaches_49 : decode cX12_reaches 49 = .ok (.baload, 1) := by decide +kernel
theorem dX12_reaches_50 : decode cX12_reaches 50 = .ok (.ifCond .ne 218, 3) := by decide +kernel
theorem dX12_reaches_53 : decode cX12_reaches 53 = .ok (.iconst (-1), 1) := by decide +kernel
theorem dX12_reaches_54 : decode cX12_reaches 54 = .ok (.istore 5, 2) := by decide +kernel
theorem dX12_reaches_56 : decode cX12_reaches 56 = .ok (.iconst 0, 1) := by decide +kernel
theorem dX12_reaches_57 : decode cX12_reaches 57 = .ok (.istore 6, 2) := by decide +kernel
theorem dX12_reaches_59 : decode cX12_reaches 59 = .ok (.iload 6, 2) := by decide +kernel
theorem dX12_reaches_61 : decode cX12_reaches 61 = .ok (.aload_n 0, 1) := by decide +kernel
theorem dX12_reaches_62 : decode cX12_reaches 62 = .ok (.getfield 45, 3) := by decide +kernel
theorem dX12_reaches_65 : decode cX12_reaches 65 = .ok (.iconst 0, 1) := by decide +kernel
theorem dX12_reaches_66 : decode cX12_reaches 66 = .ok (.iaload, 1) := by decide +kernel
theorem dX12_reaches_67 : decode cX12_reaches 67 = .ok (.if_icmp .ge 58, 3) := by decide +kernel
theorem dX12_reaches_70 : decode cX12_reaches 70 = .ok (.aload_n 0, 1) := by decide +kernel
theorem dX12_reaches_71 : decode cX12_reaches 71 = .ok (.getfield 70, 3) := by decide +kernel
theorem dX12_reaches_74 : decode cX12_reaches 74 = .ok (.iload 6, 2) := by decide +kernel
theorem dX12_reaches_76 : decode cX12_reaches 76 = .ok (.baload, 1) := by decide +kernel
theorem dX12_reaches_77 : decode cX12_reaches 77 = .ok (.ifCond .ne 42, 3) := by decide +kernel
theorem dX12_reaches_80 : decode cX12_reaches 80 = .ok (.aload_n 0, 1) := by decide +kernel
theorem dX12_reaches_81 : decode cX12_reaches 81 = .ok (.getfield 67, 3) := by decide +kernel
theorem dX12_reaches_84 : decode cX12_reaches 84 = .ok (.iload 6, 2) := by decide +kernel
theorem dX12_reaches_86 : decode cX12_reaches 86 = .ok (.iaload, 1) := by decide +kernel
theorem dX12_reaches_87 : decode cX12_reaches 87 = .ok (.ldc_w 347, 3) := by decide +kernel
theorem dX12_reaches_90 : decode cX12_reaches 90 = .ok (.if_icmp .ge 29, 3) := by decide +kernel
theorem dX12_reaches_93 : decode cX12_reaches 93 = .ok (.iload 5, 2) := by decide +kernel
theorem dX12_reaches_95 : decode cX12_reaches 95 = .ok (.ifCond .lt 20, 3) := by decide +kernel
theorem dX12_reaches_98 : decode cX12_reaches 98 = .ok (.aload_n 0, 1) := by decide +kernel
theorem dX12_reaches_99 : decode cX12_reaches 99 = .ok (.getfield 67, 3) := by decide +kernel
theorem dX12_reaches_102 : decode cX12_reaches 102 = .ok (.iload 6, 2) := by decide +kernel
theorem dX12_reaches_104 : decode cX12_reaches 104 = .ok (.iaload, 1) := by decide +kernel
theorem dX12_reaches_105 : decode cX12_reaches 105 = .ok (.aload_n 0, 1) := by decide +kernel
theorem dX12_reaches_106 : decode cX12_reaches 106 = .ok (.getfield 67, 3) := by decide +kernel
theorem dX12_reaches_109 : decode cX12_reaches 109 = .ok (.iload 5, 2) := by decide +kernel
theorem dX12_reaches_111 : decode cX12_reaches 111 = .ok (.iaload, 1) := by decide +kernel
theorem dX12_reaches_112 : decode cX12_reaches 112 = .ok (.if_icmp .ge 7, 3) := by decide +kernel
theorem dX12_reaches_115 : decode cX12_reaches 115 = .ok (.iload 6, 2) := by decide +kernel
theorem dX12_reaches_117 : decode cX12_reaches 117 = .ok (.istore 5, 2) := by decide +kernel
theorem dX12_reaches_119 : decode cX12_reaches 119 = .ok (.iinc 6 1, 3) := by decide +kernel
theorem dX12_reaches_122 : decode cX12_reaches 122 = .ok (.goto (-63), 3) := by decide +kernel
theorem dX12_reaches_125 : decode cX12_reaches 125 = .ok (.iload 5, 2) := by decide +kernel
theorem dX12_reaches_127 : decode cX12_reaches 127 = .ok (.ifCond .ge 7, 3) := by decide +kernel
theorem dX12_reaches_130 : decode cX12_reaches 130 = .ok (.ldc_w 347, 3) := by decide +kernel
theorem dX12_reaches_133 : decode cX12_reaches 133 = .ok (.ireturn, 1) := by decide +kernel
theorem dX12_reaches_134 : decode cX12_reaches 134 = .ok (.aload_n 0, 1) := by decide +kernel
theorem dX12_reaches_135 : decode cX12_reaches 135 = .ok (.getfield 70, 3) := by decide +kernel
theorem dX12_reaches_138 : decode cX12_reaches 138 = .ok (.iload 5, 2) := by decide +kernel
theorem dX12_reaches_140 : decode cX12_reaches 140 = .ok (.iconst 1, 1) := by decide +kernel
theorem dX12_reaches_141 : decode cX12_reaches 141 = .ok (.bastore, 1) := by decide +kernel
theorem dX12_reaches_142 : decode cX12_reaches 142 = .ok (.iconst 0, 1) := by decide +kernel
theorem dX12_reaches_143 : decode cX12_reaches 143 = .ok (.istore 6, 2) := by decide +kernel
theorem dX12_reaches_145 : decode cX12_reaches 145 = .ok (.iload 6, 2) := by decide +kernel
theorem dX12_reaches_147 : decode cX12_reaches 147 = .ok (.aload_n 0, 1) := by decide +kernel
theorem dX12_reaches_148 : decode cX12_reaches 148 = .ok (.getfield 45, 3) := by decide +kernel
theorem dX12_reaches_151 : decode cX12_reaches 151 = .ok (.iconst 1, 1) := by decide +kernel
theorem dX12_reaches_152 : decode cX12_reaches 152 = .ok (.iaload, 1) := by decide +kernel
theorem dX12_reaches_153 : decode cX12_reaches 153 = .ok (.if_icmp .ge 112, 3) := by decide +kernel
theorem dX12_reaches_156 : decode cX12_reaches 156 = .ok (.aload_n 0, 1) := by decide +kernel
theorem dX12_reaches_157 : decode cX12_reaches 157 = .ok (.iload 6, 2) := by decide +kernel
theorem dX12_reaches_159 : decode cX12_reaches 159 = .ok (.iload 5, 2) := by decide +kernel
theorem dX12_reaches_161 : decode cX12_reaches 161 = .ok (.invokevirtual 314, 3) := by decide +kernel
theorem dX12_reaches_164 : decode cX12_reaches 164 = .ok (.ifCond .ne 6, 3) := by decide +kernel
theorem dX12_reaches_167 : decode cX12_reaches 167 = .ok (.goto 92, 3) := by decide +kernel
theorem dX12_reaches_170 : decode cX12_reaches 170 = .ok (.aload_n 0, 1) := by decide +kernel
theorem dX12_reaches_171 : decode cX12_reaches 171 = .ok (.iload 6, 2) := by decide +kernel
theorem dX12_reaches_173 : decode cX12_reaches 173 = .ok (.iload 5, 2) := by decide +kernel
theorem dX12_reaches_175 : decode cX12_reaches 175 = .ok (.aload_n 0, 1) := by decide +kernel
theorem dX12_reaches_176 : decode cX12_reaches 176 = .ok (.getfield 67, 3) := by decide +kernel
theorem dX12_reaches_179 : decode cX12_reaches 179 = .ok (.iload 5, 2) := by decide +kernel
theorem dX12_reaches_181 : decode cX12_reaches 181 = .ok (.iaload, 1) := by decide +kernel
theorem dX12_reaches_182 : decode cX12_reaches 182 = .ok (.iload 4, 2) := by decide +kernel
theorem dX12_reaches_184 : decode cX12_reaches 184 = .ok (.invokevirtual 449, 3) := by decide +kernel
theorem dX12_reaches_187 : decode cX12_reaches 187 = .ok (.istore 7, 2) := by decide +kernel
theorem dX12_reaches_189 : decode cX12_reaches 189 = .ok (.aload_n 0, 1) := by decide +kernel
theorem dX12_reaches_190 : decode cX12_reaches 190 = .ok (.iload 6, 2) := by decide +kernel
theorem dX12_reaches_192 : decode cX12_reaches 192 = .ok (.iload 5, 2) := by decide +kernel
theorem dX12_reaches_194 : decode cX12_reaches 194 = .ok (.invokevirtual 348, 3) := by decide +kernel
theorem dX12_reaches_197 : decode cX12_reaches 197 = .ok (.istore 8, 2) := by decide +kernel
theorem dX12_reaches_199 : decode cX12_reaches 199 = .ok (.iload 7, 2) := by decide +kernel
theorem dX12_reaches_201 : decode cX12_reaches 201 = .ok (.ldc_w 347, 3) := by decide +kernel
theorem dX12_reaches_204 : decode cX12_reaches 204 = .ok (.if_icmp .ge 55, 3) := by decide +kernel
theorem dX12_reaches_207 : decode cX12_reaches 207 = .ok (.iload 7, 2) := by decide +kernel
theorem dX12_reaches_209 : decode cX12_reaches 209 = .ok (.aload_n 0, 1) := by decide +kernel
theorem dX12_reaches_210 : decode cX12_reaches 210 = .ok (.iload 6, 2) := by decide +kernel
theorem dX12_reaches_212 : decode cX12_reaches 212 = .ok (.iconst 2, 1) := by decide +kernel
theorem dX12_reaches_213 : decode cX12_reaches 213 = .ok (.invokevirtual 300, 3) := by decide +kernel
theorem dX12_reaches_216 : decode cX12_reaches 216 = .ok (.iadd, 1) := by decide +kernel
theorem dX12_reaches_217 : decode cX12_reaches 217 = .ok (.iload 4, 2) := by decide +kernel
theorem dX12_reaches_219 : decode cX12_reaches 219 = .ok (.if_icmp .gt 40, 3) := by decide +kernel
theorem dX12_reaches_222 : decode cX12_reaches 222 = .ok (.iload 7, 2) := by decide +kernel
theorem dX12_reaches_224 : decode cX12_reaches 224 = .ok (.aload_n 0, 1) := by decide +kernel
theorem dX12_reaches_225 : decode cX12_reaches 225 = .ok (.iload 6, 2) := by decide +kernel
theorem dX12_reaches_227 : decode cX12_reaches 227 = .ok (.iconst 2, 1) := by decide +kernel
theorem dX12_reaches_228 : decode cX12_reaches 228 = .ok (.invokevirtual 300, 3) := by decide +kernel
theorem dX12_reaches_231 : decode cX12_reaches 231 = .ok (.iadd, 1) := by decide +kernel
theorem dX12_reaches_232 : decode cX12_reaches 232 = .ok (.aload_n 0, 1) := by decide +kernel
theorem dX12_reaches_233 : decode cX12_reaches 233 = .ok (.getfield 67, 3) := by decide +kernel
theorem dX12_reaches_236 : decode cX12_reaches 236 = .ok (.iload 8, 2) := by decide +kernel
theorem dX12_reaches_238 : decode cX12_reaches 238 = .ok (.iaload, 1) := by decide +kernel
theorem dX12_reaches_239 : decode cX12_reaches 239 = .ok (.if_icmp .ge 20, 3) := by decide +kernel
theorem dX12_reaches_242 : decode cX12_reaches 242 = .ok (.aload_n 0, 1) := by decide +kernel
theorem dX12_reaches_243 : decode cX12_reaches 243 = .ok (.getfield 67, 3) := by decide +kernel
theorem dX12_reaches_246 : decode cX12_reaches 246 = .ok (.iload 8, 2) := by decide +kernel
theorem dX12_reaches_248 : decode cX12_reaches 248 = .ok (.iload 7, 2) := by decide +kernel
theorem dX12_reaches_250 : decode cX12_reaches 250 = .ok (.aload_n 0, 1) := by decide +kernel
theorem dX12_reaches_251 : decode cX12_reaches 251 = .ok (.iload 6, 2) := by decide +kernel
theorem dX12_reaches_253 : decode cX12_reaches 253 = .ok (.iconst 2, 1) := by decide +kernel
theorem dX12_reaches_254 : decode cX12_reaches 254 = .ok (.invokevirtual 300, 3) := by decide +kernel
theorem dX12_reaches_257 : decode cX12_reaches 257 = .ok (.iadd, 1) := by decide +kernel
theorem dX12_reaches_258 : decode cX12_reaches 258 = .ok (.iastore, 1) := by decide +kernel
theorem dX12_reaches_259 : decode cX12_reaches 259 = .ok (.iinc 6 1, 3) := by decide +kernel
theorem dX12_reaches_262 : decode cX12_reaches 262 = .ok (.goto (-117), 3) := by decide +kernel
theorem dX12_reaches_265 : decode cX12_reaches 265 = .ok (.goto (-221), 3) := by decide +kernel
theorem dX12_reaches_268 : decode cX12_reaches 268 = .ok (.aload_n 0, 1) := by decide +kernel
theorem dX12_reaches_269 : decode cX12_reaches 269 = .ok (.getfield 67, 3) := by decide +kernel
theorem dX12_reaches_272 : decode cX12_reaches 272 = .ok (.iload_n 2, 1) := by decide +kernel
theorem dX12_reaches_273 : decode cX12_reaches 273 = .ok (.iaload, 1) := by decide +kernel
theorem dX12_reaches_274 : decode cX12_reaches 274 = .ok (.ireturn, 1) := by decide +kernel
set_option maxRecDepth 20000 in
theorem ggX12_canLook_X12_isCorner : GoodIn wsX12_canLook wsX12_isCorner := goodIn_r _ [5, 6, 11, 12, 13, 14, 15, 16, 17, 18, 19, 20, 21, 22, 23, 24, 25, 26, 27, 28, 29, 30, 31, 32, 33, 34, 35, 36, 37, 38, 39, 40, 41, 42, 43, 44, 45, 46, 47, 48, 49, 50, 51, 52] (by decide +kernel) (by decide +kernel)
set_option maxRecDepth 20000 in
theorem gX12_canLook_X12_isCorner : GoodIn wsX12_canLook (wsV RX12 328 RX12 yX12_isCorner wsX12_isCorner) := goodIn_app (goodIn_of _ (by decide +kernel)) ggX12_canLook_X12_isCorner
set_option maxRecDepth 20000 in
theorem ggX12_canLook_X12_isHour : GoodIn wsX12_canLook wsX12_isHour := goodIn_r _ [9, 10] (by decide +kernel) (by decide +kernel)
set_option maxRecDepth 20000 in
theorem gX12_canLook_X12_isHour : GoodIn wsX12_canLook (va_wsS RX12 331 yX12_isHour wsX12_isHour) := goodIn_app (goodIn_of _ (by decide +kernel)) ggX12_canLook_X12_isHour
theorem dX12_canLook_0 : decode cX12_canLook 0 = .ok (.aload_n 0, 1) := by decide +kernel
theorem dX12_canLook_1 : decode cX12_canLook 1 = .ok (.iload_n 1, 1) := by decide +kernel
theorem dX12_canLook_2 : decode cX12_canLook 2 = .ok (.invokevirtual 328, 3) := by decide +kernel
theorem dX12_canLook_5 : decode cX12_canLook 5 = .ok (.ifCond .eq 22, 3) := by decide +kernel
theorem dX12_canLook_8 : decode cX12_canLook 8 = .ok (.aload_n 0, 1) := by decide +kernel
theorem dX12_canLook_9 : decode cX12_canLook 9 = .ok (.iload_n 2, 1) := by decide +kernel
theorem dX12_canLook_10 : decode cX12_canLook 10 = .ok (.invokevirtual 328, 3) := by decide +kernel
theorem dX12_canLook_13 : decode cX12_canLook 13 = .ok (.ifCond .eq 14, 3) := by decide +kernel
theorem dX12_canLook_16 : decode cX12_canLook 16 = .ok (.iload_n 3, 1) := by decide +kernel
theorem dX12_canLook_17 : decode cX12_canLook 17 = .ok (.invokestatic 331, 3) := by decide +kernel
theorem dX12_canLook_20 : decode cX12_canLook 20 = .ok (.ifCond .eq 7, 3) := by decide +kernel
theorem dX12_canLook_23 : decode cX12_canLook 23 = .ok (.iconst 1, 1) := by decide +kernel
theorem dX12_canLook_24 : decode cX12_canLook 24 = .ok (.goto 4, 3) := by decide +kernel
theorem dX12_canLook_27 : decode cX12_canLook 27 = .ok (.iconst 0, 1) := by decide +kernel
theorem dX12_canLook_28 : decode cX12_canLook 28 = .ok (.ireturn, 1) := by decide +kernel
set_option maxRecDepth 20000 in
theorem ggX12_soonest_X12_canLook : GoodIn wsX12_soonest wsX12_canLook := goodIn_r _ [6, 7, 8, 9, 5, 10, 11, 12, 13, 14, 15, 58, 59, 60, 61, 62, 63, 64, 65, 66, 67, 68, 69, 70, 71, 72, 73, 74, 75, 76, 77, 78, 79, 80, 81, 82, 83, 84, 85, 86, 87, 88, 89, 90, 91, 92, 93, 94, 95, 96, 97, 98, 99] (by decide +kernel) (by decide +kernel)
set_option maxRecDepth 20000 in
theorem gX12_soonest_X12_canLook : GoodIn wsX12_soonest (wsV RX12 453 RX12 yX12_canLook wsX12_canLook) := goodIn_app (goodIn_of _ (by decide +kernel)) ggX12_soonest_X12_canLook
set_option maxRecDepth 20000 in
theorem ggX12_soonest_X12_reaches : GoodIn wsX12_soonest wsX12_reaches := goodIn_r _ [19, 20, 1, 21, 11, 22, 23, 24, 5, 25, 26, 27, 28, 29, 30, 31, 32, 33, 34, 35, 36, 37, 38, 39, 40, 41, 42, 43, 44, 45, 46, 47, 48, 49, 50, 51, 52, 53, 54, 55, 56, 57, 58, 59, 60, 61, 62, 63, 64, 65, 66, 67, 68, 69, 70, 71, 72, 73, 74, 75, 76, 77, 78, 79, 80, 81, 82, 83, 84, 85, 86, 87, 88, 89, 90, 91, 92, 93, 94, 95, 96, 97, 98, 99] (by decide +kernel) (by decide +kernel)
set_option maxRecDepth 20000 in
theorem gX12_soonest_X12_reaches : GoodIn wsX12_soonest (wsV RX12 456 RX12 yX12_reaches wsX12_reaches) := goodIn_app (goodIn_of _ (by decide +kernel)) ggX12_soonest_X12_reaches
theorem dX12_soonest_0 : decode cX12_soonest 0 = .ok (.aload_n 0, 1) := by decide +kernel
theorem dX12_soonest_1 : decode cX12_soonest 1 = .ok (.iload_n 1, 1) := by decide +kernel
theorem dX12_soonest_2 : decode cX12_soonest 2 = .ok (.iload_n 2, 1) := by decide +kernel
theorem dX12_soonest_3 : decode cX12_soonest 3 = .ok (.iload_n 3, 1) := by decide +kernel
theorem dX12_soonest_4 : decode cX12_soonest 4 = .ok (.invokevirtual 453, 3) := by decide +kernel
theorem dX12_soonest_7 : decode cX12_soonest 7 = .ok (.ifCond .ne 5, 3) := by decide +kernel
theorem dX12_soonest_10 : decode cX12_soonest 10 = .ok (.iconst (-1), 1) := by decide +kernel
theorem dX12_soonest_11 : decode cX12_soonest 11 = .ok (.ireturn, 1) := by decide +kernel
theorem dX12_soonest_12 : decode cX12_soonest 12 = .ok (.aload_n 0, 1) := by decide +kernel
theorem dX12_soonest_13 : decode cX12_soonest 13 = .ok (.iload_n 1, 1) := by decide +kernel
theorem dX12_soonest_14 : decode cX12_soonest 14 = .ok (.iload_n 2, 1) := by decide +kernel
theorem dX12_soonest_15 : decode cX12_soonest 15 = .ok (.iload_n 3, 1) := by decide +kernel
theorem dX12_soonest_16 : decode cX12_soonest 16 = .ok (.iload_n 3, 1) := by decide +kernel
theorem dX12_soonest_17 : decode cX12_soonest 17 = .ok (.sipush 2000, 3) := by decide +kernel
theorem dX12_soonest_20 : decode cX12_soonest 20 = .ok (.iadd, 1) := by decide +kernel
theorem dX12_soonest_21 : decode cX12_soonest 21 = .ok (.invokevirtual 456, 3) := by decide +kernel
theorem dX12_soonest_24 : decode cX12_soonest 24 = .ok (.istore 4, 2) := by decide +kernel
theorem dX12_soonest_26 : decode cX12_soonest 26 = .ok (.iload 4, 2) := by decide +kernel
theorem dX12_soonest_28 : decode cX12_soonest 28 = .ok (.ldc_w 347, 3) := by decide +kernel
theorem dX12_soonest_31 : decode cX12_soonest 31 = .ok (.if_icmp .ne 8, 3) := by decide +kernel
theorem dX12_soonest_34 : decode cX12_soonest 34 = .ok (.bipush (-2), 2) := by decide +kernel
theorem dX12_soonest_36 : decode cX12_soonest 36 = .ok (.goto 5, 3) := by decide +kernel
theorem dX12_soonest_39 : decode cX12_soonest 39 = .ok (.iload 4, 2) := by decide +kernel
theorem dX12_soonest_41 : decode cX12_soonest 41 = .ok (.ireturn, 1) := by decide +kernel
set_option maxRecDepth 20000 in
theorem ggX12_wayFrom_X12_isAt : GoodIn wsX12_wayFrom wsX12_isAt := goodIn_r _ [8, 9, 10, 11, 7, 12, 1, 47, 48, 49, 50, 51, 52, 53, 54, 55, 56, 57, 58, 59, 60, 61, 62, 63, 64, 65, 66, 67, 68, 69, 70, 71, 72, 73, 74, 75, 76, 77, 78, 79, 80, 81, 82, 83, 84, 85, 86, 87, 88] (by decide +kernel) (by decide +kernel)
set_option maxRecDepth 20000 in
theorem gX12_wayFrom_X12_isAt : GoodIn wsX12_wayFrom (wsV RX12 314 RX12 yX12_isAt wsX12_isAt) := goodIn_app (goodIn_of _ (by decide +kernel)) ggX12_wayFrom_X12_isAt
set_option maxRecDepth 20000 in
theorem ggX12_wayFrom_X12_firstOpen : GoodIn wsX12_wayFrom wsX12_firstOpen := goodIn_r _ [16, 3, 17, 18, 19, 7, 20, 9, 10, 11, 12, 1, 21, 22, 23, 24, 25, 26, 27, 28, 29, 30, 31, 32, 33, 34, 35, 36, 47, 48, 49, 50, 51, 52, 53, 54, 55, 56, 57, 58, 59, 60, 61, 62, 63, 64, 65, 66, 67, 68, 69, 70, 71, 72, 73, 74, 75, 76, 77, 78, 79, 80, 81, 82, 83, 84, 85, 86, 87, 88] (by decide +kernel) (by decide +kernel)
set_option maxRecDepth 20000 in
theorem gX12_wayFrom_X12_firstOpen : GoodIn wsX12_wayFrom (wsV RX12 449 RX12 yX12_firstOpen wsX12_firstOpen) := goodIn_app (goodIn_of _ (by decide +kernel)) ggX12_wayFrom_X12_firstOpen
set_option maxRecDepth 20000 in
theorem ggX12_wayFrom_X12_streetOf : GoodIn wsX12_wayFrom wsX12_streetOf := goodIn_r _ [12, 1, 47, 48, 49, 50, 51, 52, 53, 54, 55, 56, 57, 58, 59, 60, 61, 62, 63, 64, 65, 66, 67, 68, 69, 70, 71, 72, 73, 74, 75, 76, 77, 78, 79, 80, 81, 82, 83, 84, 85, 86, 87, 88] (by decide +kernel) (by decide +kernel)
set_option maxRecDepth 20000 in
theorem gX12_wayFrom_X12_streetOf : GoodIn wsX12_wayFrom (wsV RX12 300 RX12 yX12_streetOf wsX12_streetOf) := goodIn_app (goodIn_of _ (by decide +kernel)) ggX12_wayFrom_X12_streetOf
set_option maxRecDepth 20000 in
theorem ggX12_wayFrom_X12_otherOf : GoodIn wsX12_wayFrom wsX12_otherOf := goodIn_r _ [40, 9, 10, 11, 7, 12, 1, 47, 48, 49, 50, 51, 52, 53, 54, 55, 56, 57, 58, 59, 60, 61, 62, 63, 64, 65, 66, 67, 68, 69, 70, 71, 72, 73, 74, 75, 76, 77, 78, 79, 80, 81, 82, 83, 84, 85, 86, 87, 88] (by decide +kernel) (by decide +kernel)
set_option maxRecDepth 20000 in
theorem gX12_wayFrom_X12_otherOf : GoodIn wsX12_wayFrom (wsV RX12 348 RX12 yX12_otherOf wsX12_otherOf) := goodIn_app (goodIn_of _ (by decide +kernel)) ggX12_wayFrom_X12_otherOf
set_option maxRecDepth 20000 in
theorem ggX12_wayFrom_X12_reaches : GoodIn wsX12_wayFrom wsX12_reaches := goodIn_r _ [44, 45, 3, 46, 1, 4, 5, 6, 7, 8, 9, 10, 11, 12, 13, 14, 15, 16, 17, 18, 19, 20, 21, 22, 23, 24, 25, 26, 27, 28, 29, 30, 31, 32, 33, 34, 35, 36, 37, 38, 39, 40, 47, 48, 49, 50, 51, 52, 53, 54, 55, 56, 57, 58, 59, 60, 61, 62, 63, 64, 65, 66, 67, 68, 69, 70, 71, 72, 73, 74, 75, 76, 77, 78, 79, 80, 81, 82, 83, 84, 85, 86, 87, 88] (by decide +kernel) (by decide +kernel)
set_option maxRecDepth 20000 in
theorem gX12_wayFrom_X12_reaches : GoodIn wsX12_wayFrom (wsV RX12 456 RX12 yX12_reaches wsX12_reaches) := goodIn_app (goodIn_of _ (by decide +kernel)) ggX12_wayFrom_X12_reaches
theorem dX12_wayFrom_0 : decode cX12_wayFrom 0 = .ok (.iconst 0, 1) := by decide +kernel
theorem dX12_wayFrom_1 : decode cX12_wayFrom 1 = .ok (.istore 5, 2) := by decide +kernel
theorem dX12_wayFrom_3 : decode cX12_wayFrom 3 = .ok (.iload 5, 2) := by decide +kernel
theorem dX12_wayFrom_5 : decode cX12_wayFrom 5 = .ok (.aload_n 0, 1) := by decide +kernel
theorem dX12_wayFrom_6 : decode cX12_wayFrom 6 = .ok (.getfield 45, 3) := by decide +kernel
theorem dX12_wayFrom_9 : decode cX12_wayFrom 9 = .ok (.iconst 1, 1) := by decide +kernel
theorem dX12_wayFrom_10 : decode cX12_wayFrom 10 = .ok (.iaload, 1) := by decide +kernel
theorem dX12_wayFrom_11 : decode cX12_wayFrom 11 = .ok (.if_icmp .ge 100, 3) := by decide +kernel
theorem dX12_wayFrom_14 : decode cX12_wayFrom 14 = .ok (.aload_n 0, 1) := by decide +kernel
theorem dX12_wayFrom_15 : decode cX12_wayFrom 15 = .ok (.iload 5, 2) := by decide +kernel
theorem dX12_wayFrom_17 : decode cX12_wayFrom 17 = .ok (.iload_n 1, 1) := by decide +kernel
theorem dX12_wayFrom_18 : decode cX12_wayFrom 18 = .ok (.invokevirtual 314, 3) := by decide +kernel
theorem dX12_wayFrom_21 : decode cX12_wayFrom 21 = .ok (.ifCond .ne 6, 3) := by decide +kernel
theorem dX12_wayFrom_24 : decode cX12_wayFrom 24 = .ok (.goto 81, 3) := by decide +kernel
theorem dX12_wayFrom_27 : decode cX12_wayFrom 27 = .ok (.aload_n 0, 1) := by decide +kernel
theorem dX12_wayFrom_28 : decode cX12_wayFrom 28 = .ok (.aload_n 0, 1) := by decide +kernel
theorem dX12_wayFrom_29 : decode cX12_wayFrom 29 = .ok (.iload 5, 2) := by decide +kernel
theorem dX12_wayFrom_31 : decode cX12_wayFrom 31 = .ok (.iload_n 1, 1) := by decide +kernel
theorem dX12_wayFrom_32 : decode cX12_wayFrom 32 = .ok (.iload_n 3, 1) := by decide +kernel
theorem dX12_wayFrom_33 : decode cX12_wayFrom 33 = .ok (.iload 4, 2) := by decide +kernel
theorem dX12_wayFrom_35 : decode cX12_wayFrom 35 = .ok (.invokevirtual 449, 3) := by decide +kernel
theorem dX12_wayFrom_38 : decode cX12_wayFrom 38 = .ok (.putfield 459, 3) := by decide +kernel
theorem dX12_wayFrom_41 : decode cX12_wayFrom 41 = .ok (.aload_n 0, 1) := by decide +kernel
theorem dX12_wayFrom_42 : decode cX12_wayFrom 42 = .ok (.getfield 459, 3) := by decide +kernel
theorem dX12_wayFrom_45 : decode cX12_wayFrom 45 = .ok (.ldc_w 347, 3) := by decide +kernel
theorem dX12_wayFrom_48 : decode cX12_wayFrom 48 = .ok (.if_icmp .eq 57, 3) := by decide +kernel
theorem dX12_wayFrom_51 : decode cX12_wayFrom 51 = .ok (.aload_n 0, 1) := by decide +kernel
theorem dX12_wayFrom_52 : decode cX12_wayFrom 52 = .ok (.getfield 459, 3) := by decide +kernel
theorem dX12_wayFrom_55 : decode cX12_wayFrom 55 = .ok (.aload_n 0, 1) := by decide +kernel
theorem dX12_wayFrom_56 : decode cX12_wayFrom 56 = .ok (.iload 5, 2) := by decide +kernel
theorem dX12_wayFrom_58 : decode cX12_wayFrom 58 = .ok (.iconst 2, 1) := by decide +kernel
theorem dX12_wayFrom_59 : decode cX12_wayFrom 59 = .ok (.invokevirtual 300, 3) := by decide +kernel
theorem dX12_wayFrom_62 : decode cX12_wayFrom 62 = .ok (.iadd, 1) := by decide +kernel
theorem dX12_wayFrom_63 : decode cX12_wayFrom 63 = .ok (.iload 4, 2) := by decide +kernel
theorem dX12_wayFrom_65 : decode cX12_wayFrom 65 = .ok (.if_icmp .le 6, 3) := by decide +kernel
theorem dX12_wayFrom_68 : decode cX12_wayFrom 68 = .ok (.goto 37, 3) := by decide +kernel
theorem dX12_wayFrom_71 : decode cX12_wayFrom 71 = .ok (.aload_n 0, 1) := by decide +kernel
theorem dX12_wayFrom_72 : decode cX12_wayFrom 72 = .ok (.aload_n 0, 1) := by decide +kernel
theorem dX12_wayFrom_73 : decode cX12_wayFrom 73 = .ok (.iload 5, 2) := by decide +kernel
theorem dX12_wayFrom_75 : decode cX12_wayFrom 75 = .ok (.iload_n 1, 1) := by decide +kernel
theorem dX12_wayFrom_76 : decode cX12_wayFrom 76 = .ok (.invokevirtual 348, 3) := by decide +kernel
theorem dX12_wayFrom_79 : decode cX12_wayFrom 79 = .ok (.iload_n 2, 1) := by decide +kernel
theorem dX12_wayFrom_80 : decode cX12_wayFrom 80 = .ok (.aload_n 0, 1) := by decide +kernel
theorem dX12_wayFrom_81 : decode cX12_wayFrom 81 = .ok (.getfield 459, 3) := by decide +kernel
theorem dX12_wayFrom_84 : decode cX12_wayFrom 84 = .ok (.aload_n 0, 1) := by decide +kernel
theorem dX12_wayFrom_85 : decode cX12_wayFrom 85 = .ok (.iload 5, 2) := by decide +kernel
theorem dX12_wayFrom_87 : decode cX12_wayFrom 87 = .ok (.iconst 2, 1) := by decide +kernel
theorem dX12_wayFrom_88 : decode cX12_wayFrom 88 = .ok (.invokevirtual 300, 3) := by decide +kernel
theorem dX12_wayFrom_91 : decode cX12_wayFrom 91 = .ok (.iadd, 1) := by decide +kernel
theorem dX12_wayFrom_92 : decode cX12_wayFrom 92 = .ok (.iload 4, 2) := by decide +kernel
theorem dX12_wayFrom_94 : decode cX12_wayFrom 94 = .ok (.invokevirtual 456, 3) := by decide +kernel
theorem dX12_wayFrom_97 : decode cX12_wayFrom 97 = .ok (.iload 4, 2) := by decide +kernel
theorem dX12_wayFrom_99 : decode cX12_wayFrom 99 = .ok (.if_icmp .ne 6, 3) := by decide +kernel
theorem dX12_wayFrom_102 : decode cX12_wayFrom 102 = .ok (.iload 5, 2) := by decide +kernel
theorem dX12_wayFrom_104 : decode cX12_wayFrom 104 = .ok (.ireturn, 1) := by decide +kernel
theorem dX12_wayFrom_105 : decode cX12_wayFrom 105 = .ok (.iinc 5 1, 3) := by decide +kernel
theorem dX12_wayFrom_108 : decode cX12_wayFrom 108 = .ok (.goto (-105), 3) := by decide +kernel
theorem dX12_wayFrom_111 : decode cX12_wayFrom 111 = .ok (.iconst (-1), 1) := by decide +kernel
theorem dX12_wayFrom_112 : decode cX12_wayFrom 112 = .ok (.ireturn, 1) := by decide +kernel
set_option maxRecDepth 20000 in
theorem ggX12_way_X12_canLook : GoodIn wsX12_way wsX12_canLook := goodIn_r _ [7, 8, 9, 10, 6, 11, 12, 13, 14, 15, 16, 63, 64, 65, 66, 67, 68, 69, 70, 71, 72, 73, 74, 75, 76, 77, 78, 79, 80, 81, 82, 83, 84, 85, 86, 87, 88, 89, 90, 91, 92, 93, 94, 95, 96, 97, 98, 99, 100, 101, 102, 103, 104] (by decide +kernel) (by decide +kernel)
set_option maxRecDepth 20000 in
theorem gX12_way_X12_canLook : GoodIn wsX12_way (wsV RX12 453 RX12 yX12_canLook wsX12_canLook) := goodIn_app (goodIn_of _ (by decide +kernel)) ggX12_way_X12_canLook
set_option maxRecDepth 20000 in
theorem ggX12_way_X12_reaches : GoodIn wsX12_way wsX12_reaches := goodIn_r _ [20, 21, 1, 22, 12, 23, 24, 25, 6, 26, 27, 28, 29, 30, 31, 32, 33, 34, 35, 36, 37, 38, 39, 40, 41, 42, 43, 44, 45, 46, 47, 48, 49, 50, 51, 52, 53, 54, 55, 56, 57, 58, 63, 64, 65, 66, 67, 68, 69, 70, 71, 72, 73, 74, 75, 76, 77, 78, 79, 80, 81, 82, 83, 84, 85, 86, 87, 88, 89, 90, 91, 92, 93, 94, 95, 96, 97, 98, 99, 100, 101, 102, 103, 104] (by decide +kernel) (by decide +kernel)
set_option maxRecDepth 20000 in
theorem gX12_way_X12_reaches : GoodIn wsX12_way (wsV RX12 456 RX12 yX12_reaches wsX12_reaches) := goodIn_app (goodIn_of _ (by decide +kernel)) ggX12_way_X12_reaches
set_option maxRecDepth 20000 in
theorem ggX12_way_X12_wayFrom : GoodIn wsX12_way wsX12_wayFrom := goodIn_r _ [62, 12, 2, 1, 23, 24, 25, 6, 26, 27, 28, 29, 30, 31, 32, 33, 34, 35, 36, 37, 38, 39, 40, 41, 42, 43, 44, 45, 46, 47, 48, 49, 50, 51, 52, 53, 54, 55, 56, 57, 58, 17, 18, 19, 20, 21, 22, 63, 64, 65, 66, 67, 68, 69, 70, 71, 72, 73, 74, 75, 76, 77, 78, 79, 80, 81, 82, 83, 84, 85, 86, 87, 88, 89, 90, 91, 92, 93, 94, 95, 96, 97, 98, 99, 100, 101, 102, 103, 104] (by decide +kernel) (by decide +kernel)
set_option maxRecDepth 20000 in
theorem gX12_way_X12_wayFrom : GoodIn wsX12_way (wsV RX12 462 RX12 yX12_wayFrom wsX12_wayFrom) := goodIn_app (goodIn_of _ (by decide +kernel)) ggX12_way_X12_wayFrom
set_option maxRecDepth 20000 in
theorem ggX12_way_X12_streetOf : GoodIn wsX12_way wsX12_streetOf := goodIn_r _ [30, 12, 63, 64, 65, 66, 67, 68, 69, 70, 71, 72, 73, 74, 75, 76, 77, 78, 79, 80, 81, 82, 83, 84, 85, 86, 87, 88, 89, 90, 91, 92, 93, 94, 95, 96, 97, 98, 99, 100, 101, 102, 103, 104] (by decide +kernel) (by decide +kernel)
set_option maxRecDepth 20000 in
theorem gX12_way_X12_streetOf : GoodIn wsX12_way (wsV RX12 300 RX12 yX12_streetOf wsX12_streetOf) := goodIn_app (goodIn_of _ (by decide +kernel)) ggX12_way_X12_streetOf
set_option maxRecDepth 20000 in
theorem ggX12_way_X12_otherOf : GoodIn wsX12_way wsX12_otherOf := goodIn_r _ [58, 27, 28, 29, 6, 30, 12, 63, 64, 65, 66, 67, 68, 69, 70, 71, 72, 73, 74, 75, 76, 77, 78, 79, 80, 81, 82, 83, 84, 85, 86, 87, 88, 89, 90, 91, 92, 93, 94, 95, 96, 97, 98, 99, 100, 101, 102, 103, 104] (by decide +kernel) (by decide +kernel)
set_option maxRecDepth 20000 in
theorem gX12_way_X12_otherOf : GoodIn wsX12_way (wsV RX12 348 RX12 yX12_otherOf wsX12_otherOf) := goodIn_app (goodIn_of _ (by decide +kernel)) ggX12_way_X12_otherOf
theorem dX12_way_0 : decode cX12_way 0 = .ok (.aload_n 0, 1) := by decide +kernel
theorem dX12_way_1 : decode cX12_way 1 = .ok (.iload_n 1, 1) := by decide +kernel
theorem dX12_way_2 : decode cX12_way 2 = .ok (.iload_n 2, 1) := by decide +kernel
theorem dX12_way_3 : decode cX12_way 3 = .ok (.iload_n 3, 1) := by decide +kernel
theorem dX12_way_4 : decode cX12_way 4 = .ok (.invokevirtual 453, 3) := by decide +kernel
theorem dX12_way_7 : decode cX12_way 7 = .ok (.ifCond .eq 8, 3) := by decide +kernel
theorem dX12_way_10 : decode cX12_way 10 = .ok (.iload 4, 2) := by decide +kernel
theorem dX12_way_12 : decode cX12_way 12 = .ok (.ifCond .ge 5, 3) := by decide +kernel
theorem dX12_way_15 : decode cX12_way 15 = .ok (.iconst (-1), 1) := by decide +kernel
theorem dX12_way_16 : decode cX12_way 16 = .ok (.ireturn, 1) := by decide +kernel
theorem dX12_way_17 : decode cX12_way 17 = .ok (.aload_n 0, 1) := by decide +kernel
theorem dX12_way_18 : decode cX12_way 18 = .ok (.iload_n 1, 1) := by decide +kernel
theorem dX12_way_19 : decode cX12_way 19 = .ok (.iload_n 2, 1) := by decide +kernel
theorem dX12_way_20 : decode cX12_way 20 = .ok (.iload_n 3, 1) := by decide +kernel
theorem dX12_way_21 : decode cX12_way 21 = .ok (.iload_n 3, 1) := by decide +kernel
theorem dX12_way_22 : decode cX12_way 22 = .ok (.sipush 2000, 3) := by decide +kernel
theorem dX12_way_25 : decode cX12_way 25 = .ok (.iadd, 1) := by decide +kernel
theorem dX12_way_26 : decode cX12_way 26 = .ok (.invokevirtual 456, 3) := by decide +kernel
theorem dX12_way_29 : decode cX12_way 29 = .ok (.istore 5, 2) := by decide +kernel
theorem dX12_way_31 : decode cX12_way 31 = .ok (.iload 5, 2) := by decide +kernel
theorem dX12_way_33 : decode cX12_way 33 = .ok (.ldc_w 347, 3) := by decide +kernel
theorem dX12_way_36 : decode cX12_way 36 = .ok (.if_icmp .ne 6, 3) := by decide +kernel
theorem dX12_way_39 : decode cX12_way 39 = .ok (.bipush (-2), 2) := by decide +kernel
theorem dX12_way_41 : decode cX12_way 41 = .ok (.ireturn, 1) := by decide +kernel
theorem dX12_way_42 : decode cX12_way 42 = .ok (.iload_n 1, 1) := by decide +kernel
theorem dX12_way_43 : decode cX12_way 43 = .ok (.istore 6, 2) := by decide +kernel
theorem dX12_way_45 : decode cX12_way 45 = .ok (.iload_n 3, 1) := by decide +kernel
theorem dX12_way_46 : decode cX12_way 46 = .ok (.istore 7, 2) := by decide +kernel
theorem dX12_way_48 : decode cX12_way 48 = .ok (.iconst 0, 1) := by decide +kernel
theorem dX12_way_49 : decode cX12_way 49 = .ok (.istore 8, 2) := by decide +kernel
theorem dX12_way_51 : decode cX12_way 51 = .ok (.iload 6, 2) := by decide +kernel
theorem dX12_way_53 : decode cX12_way 53 = .ok (.iload_n 2, 1) := by decide +kernel
theorem dX12_way_54 : decode cX12_way 54 = .ok (.if_icmp .eq 56, 3) := by decide +kernel
theorem dX12_way_57 : decode cX12_way 57 = .ok (.aload_n 0, 1) := by decide +kernel
theorem dX12_way_58 : decode cX12_way 58 = .ok (.iload 6, 2) := by decide +kernel
theorem dX12_way_60 : decode cX12_way 60 = .ok (.iload_n 2, 1) := by decide +kernel
theorem dX12_way_61 : decode cX12_way 61 = .ok (.iload 7, 2) := by decide +kernel
theorem dX12_way_63 : decode cX12_way 63 = .ok (.iload 5, 2) := by decide +kernel
theorem dX12_way_65 : decode cX12_way 65 = .ok (.invokevirtual 462, 3) := by decide +kernel
theorem dX12_way_68 : decode cX12_way 68 = .ok (.istore 9, 2) := by decide +kernel
theorem dX12_way_70 : decode cX12_way 70 = .ok (.iload 8, 2) := by decide +kernel
theorem dX12_way_72 : decode cX12_way 72 = .ok (.iload 4, 2) := by decide +kernel
theorem dX12_way_74 : decode cX12_way 74 = .ok (.if_icmp .ne 6, 3) := by decide +kernel
theorem dX12_way_77 : decode cX12_way 77 = .ok (.iload 9, 2) := by decide +kernel
theorem dX12_way_79 : decode cX12_way 79 = .ok (.ireturn, 1) := by decide +kernel
theorem dX12_way_80 : decode cX12_way 80 = .ok (.aload_n 0, 1) := by decide +kernel
theorem dX12_way_81 : decode cX12_way 81 = .ok (.getfield 459, 3) := by decide +kernel
theorem dX12_way_84 : decode cX12_way 84 = .ok (.aload_n 0, 1) := by decide +kernel
theorem dX12_way_85 : decode cX12_way 85 = .ok (.iload 9, 2) := by decide +kernel
theorem dX12_way_87 : decode cX12_way 87 = .ok (.iconst 2, 1) := by decide +kernel
theorem dX12_way_88 : decode cX12_way 88 = .ok (.invokevirtual 300, 3) := by decide +kernel
theorem dX12_way_91 : decode cX12_way 91 = .ok (.iadd, 1) := by decide +kernel
theorem dX12_way_92 : decode cX12_way 92 = .ok (.istore 7, 2) := by decide +kernel
theorem dX12_way_94 : decode cX12_way 94 = .ok (.aload_n 0, 1) := by decide +kernel
theorem dX12_way_95 : decode cX12_way 95 = .ok (.iload 9, 2) := by decide +kernel
theorem dX12_way_97 : decode cX12_way 97 = .ok (.iload 6, 2) := by decide +kernel
theorem dX12_way_99 : decode cX12_way 99 = .ok (.invokevirtual 348, 3) := by decide +kernel
theorem dX12_way_102 : decode cX12_way 102 = .ok (.istore 6, 2) := by decide +kernel
theorem dX12_way_104 : decode cX12_way 104 = .ok (.iinc 8 1, 3) := by decide +kernel
theorem dX12_way_107 : decode cX12_way 107 = .ok (.goto (-56), 3) := by decide +kernel
theorem dX12_way_110 : decode cX12_way 110 = .ok (.bipush (-2), 2) := by decide +kernel
theorem dX12_way_112 : decode cX12_way 112 = .ok (.ireturn, 1) := by decide +kernel
set_option maxRecDepth 20000 in
theorem ggX12_cheapOf_X12_streetOf : GoodIn wsX12_cheapOf wsX12_streetOf := goodIn_r _ [5, 6, 7, 8, 9, 10, 11, 12, 13, 14, 15, 16, 17, 18, 19, 20, 21, 22, 23, 24, 25, 26, 27, 28, 29, 30, 31, 32, 33, 34, 35, 36, 37, 38, 39, 40, 41, 42, 43, 44, 45, 46, 47, 48] (by decide +kernel) (by decide +kernel)
set_option maxRecDepth 20000 in
theorem gX12_cheapOf_X12_streetOf : GoodIn wsX12_cheapOf (wsV RX12 300 RX12 yX12_streetOf wsX12_streetOf) := goodIn_app (goodIn_of _ (by decide +kernel)) ggX12_cheapOf_X12_streetOf
theorem dX12_cheapOf_0 : decode cX12_cheapOf 0 = .ok (.iconst 0, 1) := by decide +kernel
theorem dX12_cheapOf_1 : decode cX12_cheapOf 1 = .ok (.istore_n 2, 1) := by decide +kernel
theorem dX12_cheapOf_2 : decode cX12_cheapOf 2 = .ok (.iconst (-1), 1) := by decide +kernel
theorem dX12_cheapOf_3 : decode cX12_cheapOf 3 = .ok (.istore_n 3, 1) := by decide +kernel
theorem dX12_cheapOf_4 : decode cX12_cheapOf 4 = .ok (.iconst 0, 1) := by decide +kernel
theorem dX12_cheapOf_5 : decode cX12_cheapOf 5 = .ok (.istore 4, 2) := by decide +kernel
theorem dX12_cheapOf_7 : decode cX12_cheapOf 7 = .ok (.iload 4, 2) := by decide +kernel
theorem dX12_cheapOf_9 : decode cX12_cheapOf 9 = .ok (.iconst 4, 1) := by decide +kernel
theorem dX12_cheapOf_10 : decode cX12_cheapOf 10 = .ok (.if_icmp .ge 78, 3) := by decide +kernel
theorem dX12_cheapOf_13 : decode cX12_cheapOf 13 = .ok (.iconst 0, 1) := by decide +kernel
theorem dX12_cheapOf_14 : decode cX12_cheapOf 14 = .ok (.istore 5, 2) := by decide +kernel
theorem dX12_cheapOf_16 : decode cX12_cheapOf 16 = .ok (.iconst 0, 1) := by decide +kernel
theorem dX12_cheapOf_17 : decode cX12_cheapOf 17 = .ok (.istore 6, 2) := by decide +kernel
theorem dX12_cheapOf_19 : decode cX12_cheapOf 19 = .ok (.iload 6, 2) := by decide +kernel
theorem dX12_cheapOf_21 : decode cX12_cheapOf 21 = .ok (.bipush 7, 2) := by decide +kernel
theorem dX12_cheapOf_23 : decode cX12_cheapOf 23 = .ok (.if_icmp .ge 33, 3) := by decide +kernel
theorem dX12_cheapOf_26 : decode cX12_cheapOf 26 = .ok (.iload 5, 2) := by decide +kernel
theorem dX12_cheapOf_28 : decode cX12_cheapOf 28 = .ok (.aload_n 0, 1) := by decide +kernel
theorem dX12_cheapOf_29 : decode cX12_cheapOf 29 = .ok (.iload_n 1, 1) := by decide +kernel
theorem dX12_cheapOf_30 : decode cX12_cheapOf 30 = .ok (.iconst 3, 1) := by decide +kernel
theorem dX12_cheapOf_31 : decode cX12_cheapOf 31 = .ok (.iload 6, 2) := by decide +kernel
theorem dX12_cheapOf_33 : decode cX12_cheapOf 33 = .ok (.iadd, 1) := by decide +kernel
theorem dX12_cheapOf_34 : decode cX12_cheapOf 34 = .ok (.invokevirtual 300, 3) := by decide +kernel
theorem dX12_cheapOf_37 : decode cX12_cheapOf 37 = .ok (.iload 4, 2) := by decide +kernel
theorem dX12_cheapOf_39 : decode cX12_cheapOf 39 = .ok (.if_icmp .ne 7, 3) := by decide +kernel
theorem dX12_cheapOf_42 : decode cX12_cheapOf 42 = .ok (.iconst 1, 1) := by decide +kernel
theorem dX12_cheapOf_43 : decode cX12_cheapOf 43 = .ok (.goto 4, 3) := by decide +kernel
theorem dX12_cheapOf_46 : decode cX12_cheapOf 46 = .ok (.iconst 0, 1) := by decide +kernel
theorem dX12_cheapOf_47 : decode cX12_cheapOf 47 = .ok (.iadd, 1) := by decide +kernel
theorem dX12_cheapOf_48 : decode cX12_cheapOf 48 = .ok (.istore 5, 2) := by decide +kernel
theorem dX12_cheapOf_50 : decode cX12_cheapOf 50 = .ok (.iinc 6 1, 3) := by decide +kernel
theorem dX12_cheapOf_53 : decode cX12_cheapOf 53 = .ok (.goto (-34), 3) := by decide +kernel
theorem dX12_cheapOf_56 : decode cX12_cheapOf 56 = .ok (.iload 5, 2) := by decide +kernel
theorem dX12_cheapOf_58 : decode cX12_cheapOf 58 = .ok (.iload_n 3, 1) := by decide +kernel
theorem dX12_cheapOf_59 : decode cX12_cheapOf 59 = .ok (.if_icmp .le 8, 3) := by decide +kernel
theorem dX12_cheapOf_62 : decode cX12_cheapOf 62 = .ok (.iload 4, 2) := by decide +kernel
theorem dX12_cheapOf_64 : decode cX12_cheapOf 64 = .ok (.goto 4, 3) := by decide +kernel
theorem dX12_cheapOf_67 : decode cX12_cheapOf 67 = .ok (.iload_n 2, 1) := by decide +kernel
theorem dX12_cheapOf_68 : decode cX12_cheapOf 68 = .ok (.istore_n 2, 1) := by decide +kernel
theorem dX12_cheapOf_69 : decode cX12_cheapOf 69 = .ok (.iload 5, 2) := by decide +kernel
theorem dX12_cheapOf_71 : decode cX12_cheapOf 71 = .ok (.iload_n 3, 1) := by decide +kernel
theorem dX12_cheapOf_72 : decode cX12_cheapOf 72 = .ok (.if_icmp .le 8, 3) := by decide +kernel
theorem dX12_cheapOf_75 : decode cX12_cheapOf 75 = .ok (.iload 5, 2) := by decide +kernel
theorem dX12_cheapOf_77 : decode cX12_cheapOf 77 = .ok (.goto 4, 3) := by decide +kernel
theorem dX12_cheapOf_80 : decode cX12_cheapOf 80 = .ok (.iload_n 3, 1) := by decide +kernel
theorem dX12_cheapOf_81 : decode cX12_cheapOf 81 = .ok (.istore_n 3, 1) := by decide +kernel
theorem dX12_cheapOf_82 : decode cX12_cheapOf 82 = .ok (.iinc 4 1, 3) := by decide +kernel
theorem dX12_cheapOf_85 : decode cX12_cheapOf 85 = .ok (.goto (-78), 3) := by decide +kernel
theorem dX12_cheapOf_88 : decode cX12_cheapOf 88 = .ok (.iload_n 2, 1) := by decide +kernel
theorem dX12_cheapOf_89 : decode cX12_cheapOf 89 = .ok (.ireturn, 1) := by decide +kernel
set_option maxRecDepth 20000 in
theorem ggX12_cheap_X12_isStreet : GoodIn wsX12_cheap wsX12_isStreet := goodIn_r _ [5, 6, 15, 16, 17, 18, 19, 20, 21, 22, 23, 24, 25, 26, 27, 28, 29, 30, 31, 32, 33, 34, 35, 36, 37, 38, 39, 40, 41, 42, 43, 44, 45, 46, 47, 48, 49, 50, 51, 52, 53, 54, 55, 56] (by decide +kernel) (by decide +kernel)
set_option maxRecDepth 20000 in
theorem gX12_cheap_X12_isStreet : GoodIn wsX12_cheap (wsV RX12 323 RX12 yX12_isStreet wsX12_isStreet) := goodIn_app (goodIn_of _ (by decide +kernel)) ggX12_cheap_X12_isStreet
set_option maxRecDepth 20000 in
theorem ggX12_cheap_X12_cheapOf : GoodIn wsX12_cheap wsX12_cheapOf := goodIn_r _ [10, 11, 12, 13, 4, 14, 6, 15, 16, 17, 18, 19, 20, 21, 22, 23, 24, 25, 26, 27, 28, 29, 30, 31, 32, 33, 34, 35, 36, 37, 38, 39, 40, 41, 42, 43, 44, 45, 46, 47, 48, 49, 50, 51, 52, 53, 54, 55, 56] (by decide +kernel) (by decide +kernel)
set_option maxRecDepth 20000 in
theorem gX12_cheap_X12_cheapOf : GoodIn wsX12_cheap (wsV RX12 465 RX12 yX12_cheapOf wsX12_cheapOf) := goodIn_app (goodIn_of _ (by decide +kernel)) ggX12_cheap_X12_cheapOf
theorem dX12_cheap_0 : decode cX12_cheap 0 = .ok (.aload_n 0, 1) := by decide +kernel
theorem dX12_cheap_1 : decode cX12_cheap 1 = .ok (.iload_n 1, 1) := by decide +kernel
theorem dX12_cheap_2 : decode cX12_cheap 2 = .ok (.invokevirtual 323, 3) := by decide +kernel
theorem dX12_cheap_5 : decode cX12_cheap 5 = .ok (.ifCond .eq 11, 3) := by decide +kernel
