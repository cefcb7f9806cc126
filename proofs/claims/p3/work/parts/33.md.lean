theorem dX12_cheap_8 : decode cX12_cheap 8 = .ok (.aload_n 0, 1) := by decide +kernel
theorem dX12_cheap_9 : decode cX12_cheap 9 = .ok (.iload_n 1, 1) := by decide +kernel
theorem dX12_cheap_10 : decode cX12_cheap 10 = .ok (.invokevirtual 465, 3) := by decide +kernel
theorem dX12_cheap_13 : decode cX12_cheap 13 = .ok (.goto 4, 3) := by decide +kernel
theorem dX12_cheap_16 : decode cX12_cheap 16 = .ok (.iconst (-1), 1) := by decide +kernel
theorem dX12_cheap_17 : decode cX12_cheap 17 = .ok (.ireturn, 1) := by decide +kernel
set_option maxRecDepth 20000 in
theorem ggX12_wrong_X12_isTown : GoodIn wsX12_wrong wsX12_isTown := goodIn_r _ [7, 2, 19, 20, 21, 22, 23, 24, 25, 26, 27, 28, 29, 30, 31, 32, 33, 34, 35, 36, 37, 38, 39, 40, 41, 42, 43, 44, 45, 46, 47, 48, 49, 50, 51, 52, 53, 54, 55, 56, 57, 58, 59, 60] (by decide +kernel) (by decide +kernel)
set_option maxRecDepth 20000 in
theorem gX12_wrong_X12_isTown : GoodIn wsX12_wrong (wsV RX12 337 RX12 yX12_isTown wsX12_isTown) := goodIn_app (goodIn_of _ (by decide +kernel)) ggX12_wrong_X12_isTown
set_option maxRecDepth 20000 in
theorem ggX12_wrong_X12_in : GoodIn wsX12_wrong wsX12_in := goodIn_r _ [10] (by decide +kernel) (by decide +kernel)
set_option maxRecDepth 20000 in
theorem gX12_wrong_X12_in : GoodIn wsX12_wrong (va_wsS RX12 122 yX12_in wsX12_in) := goodIn_app (goodIn_of _ (by decide +kernel)) ggX12_wrong_X12_in
set_option maxRecDepth 20000 in
theorem ggX12_wrong_X12_streetOf : GoodIn wsX12_wrong wsX12_streetOf := goodIn_r _ [14, 2, 19, 20, 21, 22, 23, 24, 25, 26, 27, 28, 29, 30, 31, 32, 33, 34, 35, 36, 37, 38, 39, 40, 41, 42, 43, 44, 45, 46, 47, 48, 49, 50, 51, 52, 53, 54, 55, 56, 57, 58, 59, 60] (by decide +kernel) (by decide +kernel)
set_option maxRecDepth 20000 in
theorem gX12_wrong_X12_streetOf : GoodIn wsX12_wrong (wsV RX12 300 RX12 yX12_streetOf wsX12_streetOf) := goodIn_app (goodIn_of _ (by decide +kernel)) ggX12_wrong_X12_streetOf
set_option maxRecDepth 20000 in
theorem ggX12_wrong_X12_cheapOf : GoodIn wsX12_wrong wsX12_cheapOf := goodIn_r _ [18, 11, 12, 13, 6, 14, 2, 19, 20, 21, 22, 23, 24, 25, 26, 27, 28, 29, 30, 31, 32, 33, 34, 35, 36, 37, 38, 39, 40, 41, 42, 43, 44, 45, 46, 47, 48, 49, 50, 51, 52, 53, 54, 55, 56, 57, 58, 59, 60] (by decide +kernel) (by decide +kernel)
set_option maxRecDepth 20000 in
theorem gX12_wrong_X12_cheapOf : GoodIn wsX12_wrong (wsV RX12 465 RX12 yX12_cheapOf wsX12_cheapOf) := goodIn_app (goodIn_of _ (by decide +kernel)) ggX12_wrong_X12_cheapOf
theorem dX12_wrong_0 : decode cX12_wrong 0 = .ok (.aload_n 0, 1) := by decide +kernel
theorem dX12_wrong_1 : decode cX12_wrong 1 = .ok (.invokevirtual 337, 3) := by decide +kernel
theorem dX12_wrong_4 : decode cX12_wrong 4 = .ok (.ifCond .eq 15, 3) := by decide +kernel
theorem dX12_wrong_7 : decode cX12_wrong 7 = .ok (.iload_n 1, 1) := by decide +kernel
theorem dX12_wrong_8 : decode cX12_wrong 8 = .ok (.i2l, 1) := by decide +kernel
theorem dX12_wrong_9 : decode cX12_wrong 9 = .ok (.lconst 0, 1) := by decide +kernel
theorem dX12_wrong_10 : decode cX12_wrong 10 = .ok (.ldc2_w 370, 3) := by decide +kernel
theorem dX12_wrong_13 : decode cX12_wrong 13 = .ok (.invokestatic 122, 3) := by decide +kernel
theorem dX12_wrong_16 : decode cX12_wrong 16 = .ok (.ifCond .ne 5, 3) := by decide +kernel
theorem dX12_wrong_19 : decode cX12_wrong 19 = .ok (.iconst (-1), 1) := by decide +kernel
theorem dX12_wrong_20 : decode cX12_wrong 20 = .ok (.ireturn, 1) := by decide +kernel
theorem dX12_wrong_21 : decode cX12_wrong 21 = .ok (.iconst 0, 1) := by decide +kernel
theorem dX12_wrong_22 : decode cX12_wrong 22 = .ok (.istore_n 2, 1) := by decide +kernel
theorem dX12_wrong_23 : decode cX12_wrong 23 = .ok (.iconst 0, 1) := by decide +kernel
theorem dX12_wrong_24 : decode cX12_wrong 24 = .ok (.istore_n 3, 1) := by decide +kernel
theorem dX12_wrong_25 : decode cX12_wrong 25 = .ok (.iload_n 3, 1) := by decide +kernel
theorem dX12_wrong_26 : decode cX12_wrong 26 = .ok (.aload_n 0, 1) := by decide +kernel
theorem dX12_wrong_27 : decode cX12_wrong 27 = .ok (.getfield 45, 3) := by decide +kernel
theorem dX12_wrong_30 : decode cX12_wrong 30 = .ok (.iconst 1, 1) := by decide +kernel
theorem dX12_wrong_31 : decode cX12_wrong 31 = .ok (.iaload, 1) := by decide +kernel
theorem dX12_wrong_32 : decode cX12_wrong 32 = .ok (.if_icmp .ge 62, 3) := by decide +kernel
theorem dX12_wrong_35 : decode cX12_wrong 35 = .ok (.iconst 0, 1) := by decide +kernel
theorem dX12_wrong_36 : decode cX12_wrong 36 = .ok (.istore 4, 2) := by decide +kernel
theorem dX12_wrong_38 : decode cX12_wrong 38 = .ok (.iload 4, 2) := by decide +kernel
theorem dX12_wrong_40 : decode cX12_wrong 40 = .ok (.bipush 7, 2) := by decide +kernel
theorem dX12_wrong_42 : decode cX12_wrong 42 = .ok (.if_icmp .ge 46, 3) := by decide +kernel
theorem dX12_wrong_45 : decode cX12_wrong 45 = .ok (.iload_n 2, 1) := by decide +kernel
theorem dX12_wrong_46 : decode cX12_wrong 46 = .ok (.iload_n 1, 1) := by decide +kernel
theorem dX12_wrong_47 : decode cX12_wrong 47 = .ok (.bipush 7, 2) := by decide +kernel
theorem dX12_wrong_49 : decode cX12_wrong 49 = .ok (.if_icmp .eq 9, 3) := by decide +kernel
theorem dX12_wrong_52 : decode cX12_wrong 52 = .ok (.iload_n 1, 1) := by decide +kernel
theorem dX12_wrong_53 : decode cX12_wrong 53 = .ok (.iload 4, 2) := by decide +kernel
theorem dX12_wrong_55 : decode cX12_wrong 55 = .ok (.if_icmp .ne 24, 3) := by decide +kernel
theorem dX12_wrong_58 : decode cX12_wrong 58 = .ok (.aload_n 0, 1) := by decide +kernel
theorem dX12_wrong_59 : decode cX12_wrong 59 = .ok (.iload_n 3, 1) := by decide +kernel
theorem dX12_wrong_60 : decode cX12_wrong 60 = .ok (.iconst 3, 1) := by decide +kernel
theorem dX12_wrong_61 : decode cX12_wrong 61 = .ok (.iload 4, 2) := by decide +kernel
theorem dX12_wrong_63 : decode cX12_wrong 63 = .ok (.iadd, 1) := by decide +kernel
theorem dX12_wrong_64 : decode cX12_wrong 64 = .ok (.invokevirtual 300, 3) := by decide +kernel
theorem dX12_wrong_67 : decode cX12_wrong 67 = .ok (.aload_n 0, 1) := by decide +kernel
theorem dX12_wrong_68 : decode cX12_wrong 68 = .ok (.iload_n 3, 1) := by decide +kernel
theorem dX12_wrong_69 : decode cX12_wrong 69 = .ok (.invokevirtual 465, 3) := by decide +kernel
theorem dX12_wrong_72 : decode cX12_wrong 72 = .ok (.if_icmp .eq 7, 3) := by decide +kernel
theorem dX12_wrong_75 : decode cX12_wrong 75 = .ok (.iconst 1, 1) := by decide +kernel
theorem dX12_wrong_76 : decode cX12_wrong 76 = .ok (.goto 4, 3) := by decide +kernel
theorem dX12_wrong_79 : decode cX12_wrong 79 = .ok (.iconst 0, 1) := by decide +kernel
theorem dX12_wrong_80 : decode cX12_wrong 80 = .ok (.iadd, 1) := by decide +kernel
theorem dX12_wrong_81 : decode cX12_wrong 81 = .ok (.istore_n 2, 1) := by decide +kernel
theorem dX12_wrong_82 : decode cX12_wrong 82 = .ok (.iinc 4 1, 3) := by decide +kernel
theorem dX12_wrong_85 : decode cX12_wrong 85 = .ok (.goto (-47), 3) := by decide +kernel
theorem dX12_wrong_88 : decode cX12_wrong 88 = .ok (.iinc 3 1, 3) := by decide +kernel
theorem dX12_wrong_91 : decode cX12_wrong 91 = .ok (.goto (-66), 3) := by decide +kernel
theorem dX12_wrong_94 : decode cX12_wrong 94 = .ok (.iload_n 2, 1) := by decide +kernel
theorem dX12_wrong_95 : decode cX12_wrong 95 = .ok (.ireturn, 1) := by decide +kernel
set_option maxRecDepth 20000 in
theorem ggX12_errand_X12_isCorner : GoodIn wsX12_errand wsX12_isCorner := goodIn_r _ [6, 1, 7, 8, 9, 10, 11, 12, 13, 14, 15, 16, 17, 18, 19, 20, 21, 22, 23, 24, 25, 26, 27, 28, 29, 30, 31, 32, 33, 34, 35, 36, 37, 38, 39, 40, 41, 42, 43, 44, 45, 46, 47, 48] (by decide +kernel) (by decide +kernel)
set_option maxRecDepth 20000 in
theorem gX12_errand_X12_isCorner : GoodIn wsX12_errand (wsV RX12 328 RX12 yX12_isCorner wsX12_isCorner) := goodIn_app (goodIn_of _ (by decide +kernel)) ggX12_errand_X12_isCorner
theorem dX12_errand_0 : decode cX12_errand 0 = .ok (.iload_n 1, 1) := by decide +kernel
theorem dX12_errand_1 : decode cX12_errand 1 = .ok (.iconst (-1), 1) := by decide +kernel
theorem dX12_errand_2 : decode cX12_errand 2 = .ok (.if_icmp .ne 13, 3) := by decide +kernel
theorem dX12_errand_5 : decode cX12_errand 5 = .ok (.aload_n 0, 1) := by decide +kernel
theorem dX12_errand_6 : decode cX12_errand 6 = .ok (.getfield 45, 3) := by decide +kernel
theorem dX12_errand_9 : decode cX12_errand 9 = .ok (.bipush 6, 2) := by decide +kernel
theorem dX12_errand_11 : decode cX12_errand 11 = .ok (.iconst 0, 1) := by decide +kernel
theorem dX12_errand_12 : decode cX12_errand 12 = .ok (.iastore, 1) := by decide +kernel
theorem dX12_errand_13 : decode cX12_errand 13 = .ok (.iconst 0, 1) := by decide +kernel
theorem dX12_errand_14 : decode cX12_errand 14 = .ok (.ireturn, 1) := by decide +kernel
theorem dX12_errand_15 : decode cX12_errand 15 = .ok (.aload_n 0, 1) := by decide +kernel
theorem dX12_errand_16 : decode cX12_errand 16 = .ok (.iload_n 1, 1) := by decide +kernel
theorem dX12_errand_17 : decode cX12_errand 17 = .ok (.invokevirtual 328, 3) := by decide +kernel
theorem dX12_errand_20 : decode cX12_errand 20 = .ok (.ifCond .eq 28, 3) := by decide +kernel
theorem dX12_errand_23 : decode cX12_errand 23 = .ok (.aload_n 0, 1) := by decide +kernel
theorem dX12_errand_24 : decode cX12_errand 24 = .ok (.iload_n 2, 1) := by decide +kernel
theorem dX12_errand_25 : decode cX12_errand 25 = .ok (.invokevirtual 328, 3) := by decide +kernel
theorem dX12_errand_28 : decode cX12_errand 28 = .ok (.ifCond .eq 20, 3) := by decide +kernel
theorem dX12_errand_31 : decode cX12_errand 31 = .ok (.iload_n 1, 1) := by decide +kernel
theorem dX12_errand_32 : decode cX12_errand 32 = .ok (.iload_n 2, 1) := by decide +kernel
theorem dX12_errand_33 : decode cX12_errand 33 = .ok (.if_icmp .eq 15, 3) := by decide +kernel
theorem dX12_errand_36 : decode cX12_errand 36 = .ok (.aload_n 0, 1) := by decide +kernel
theorem dX12_errand_37 : decode cX12_errand 37 = .ok (.getfield 45, 3) := by decide +kernel
theorem dX12_errand_40 : decode cX12_errand 40 = .ok (.bipush 6, 2) := by decide +kernel
theorem dX12_errand_42 : decode cX12_errand 42 = .ok (.iaload, 1) := by decide +kernel
theorem dX12_errand_43 : decode cX12_errand 43 = .ok (.bipush 6, 2) := by decide +kernel
theorem dX12_errand_45 : decode cX12_errand 45 = .ok (.if_icmp .ne 6, 3) := by decide +kernel
theorem dX12_errand_48 : decode cX12_errand 48 = .ok (.bipush (-2), 2) := by decide +kernel
theorem dX12_errand_50 : decode cX12_errand 50 = .ok (.ireturn, 1) := by decide +kernel
theorem dX12_errand_51 : decode cX12_errand 51 = .ok (.aload_n 0, 1) := by decide +kernel
theorem dX12_errand_52 : decode cX12_errand 52 = .ok (.getfield 45, 3) := by decide +kernel
theorem dX12_errand_55 : decode cX12_errand 55 = .ok (.sipush 252, 3) := by decide +kernel
theorem dX12_errand_58 : decode cX12_errand 58 = .ok (.iconst 2, 1) := by decide +kernel
theorem dX12_errand_59 : decode cX12_errand 59 = .ok (.aload_n 0, 1) := by decide +kernel
theorem dX12_errand_60 : decode cX12_errand 60 = .ok (.getfield 45, 3) := by decide +kernel
theorem dX12_errand_63 : decode cX12_errand 63 = .ok (.bipush 6, 2) := by decide +kernel
theorem dX12_errand_65 : decode cX12_errand 65 = .ok (.iaload, 1) := by decide +kernel
theorem dX12_errand_66 : decode cX12_errand 66 = .ok (.imul, 1) := by decide +kernel
theorem dX12_errand_67 : decode cX12_errand 67 = .ok (.iadd, 1) := by decide +kernel
theorem dX12_errand_68 : decode cX12_errand 68 = .ok (.iload_n 1, 1) := by decide +kernel
theorem dX12_errand_69 : decode cX12_errand 69 = .ok (.iastore, 1) := by decide +kernel
theorem dX12_errand_70 : decode cX12_errand 70 = .ok (.aload_n 0, 1) := by decide +kernel
theorem dX12_errand_71 : decode cX12_errand 71 = .ok (.getfield 45, 3) := by decide +kernel
theorem dX12_errand_74 : decode cX12_errand 74 = .ok (.sipush 252, 3) := by decide +kernel
theorem dX12_errand_77 : decode cX12_errand 77 = .ok (.iconst 2, 1) := by decide +kernel
theorem dX12_errand_78 : decode cX12_errand 78 = .ok (.aload_n 0, 1) := by decide +kernel
theorem dX12_errand_79 : decode cX12_errand 79 = .ok (.getfield 45, 3) := by decide +kernel
theorem dX12_errand_82 : decode cX12_errand 82 = .ok (.bipush 6, 2) := by decide +kernel
theorem dX12_errand_84 : decode cX12_errand 84 = .ok (.iaload, 1) := by decide +kernel
theorem dX12_errand_85 : decode cX12_errand 85 = .ok (.imul, 1) := by decide +kernel
theorem dX12_errand_86 : decode cX12_errand 86 = .ok (.iadd, 1) := by decide +kernel
theorem dX12_errand_87 : decode cX12_errand 87 = .ok (.iconst 1, 1) := by decide +kernel
theorem dX12_errand_88 : decode cX12_errand 88 = .ok (.iadd, 1) := by decide +kernel
theorem dX12_errand_89 : decode cX12_errand 89 = .ok (.iload_n 2, 1) := by decide +kernel
theorem dX12_errand_90 : decode cX12_errand 90 = .ok (.iastore, 1) := by decide +kernel
theorem dX12_errand_91 : decode cX12_errand 91 = .ok (.aload_n 0, 1) := by decide +kernel
theorem dX12_errand_92 : decode cX12_errand 92 = .ok (.getfield 45, 3) := by decide +kernel
theorem dX12_errand_95 : decode cX12_errand 95 = .ok (.bipush 6, 2) := by decide +kernel
theorem dX12_errand_97 : decode cX12_errand 97 = .ok (.dup2, 1) := by decide +kernel
theorem dX12_errand_98 : decode cX12_errand 98 = .ok (.iaload, 1) := by decide +kernel
theorem dX12_errand_99 : decode cX12_errand 99 = .ok (.iconst 1, 1) := by decide +kernel
theorem dX12_errand_100 : decode cX12_errand 100 = .ok (.iadd, 1) := by decide +kernel
theorem dX12_errand_101 : decode cX12_errand 101 = .ok (.iastore, 1) := by decide +kernel
theorem dX12_errand_102 : decode cX12_errand 102 = .ok (.aload_n 0, 1) := by decide +kernel
theorem dX12_errand_103 : decode cX12_errand 103 = .ok (.getfield 45, 3) := by decide +kernel
theorem dX12_errand_106 : decode cX12_errand 106 = .ok (.bipush 6, 2) := by decide +kernel
theorem dX12_errand_108 : decode cX12_errand 108 = .ok (.iaload, 1) := by decide +kernel
theorem dX12_errand_109 : decode cX12_errand 109 = .ok (.ireturn, 1) := by decide +kernel
set_option maxRecDepth 20000 in
theorem ggX12_comesTo_X12_streetOf : GoodIn wsX12_comesTo wsX12_streetOf := goodIn_r _ [6, 1, 10, 11, 12, 13, 14, 15, 16, 17, 18, 19, 20, 21, 22, 23, 24, 25, 26, 27, 28, 29, 30, 31, 32, 33, 34, 35, 36, 37, 38, 39, 40, 41, 42, 43, 44, 45, 46, 47, 48, 49, 50, 51] (by decide +kernel) (by decide +kernel)
set_option maxRecDepth 20000 in
theorem gX12_comesTo_X12_streetOf : GoodIn wsX12_comesTo (wsV RX12 300 RX12 yX12_streetOf wsX12_streetOf) := goodIn_app (goodIn_of _ (by decide +kernel)) ggX12_comesTo_X12_streetOf
set_option maxRecDepth 20000 in
theorem ggX12_comesTo_X12_isOf : GoodIn wsX12_comesTo wsX12_isOf := goodIn_r _ [9] (by decide +kernel) (by decide +kernel)
set_option maxRecDepth 20000 in
theorem gX12_comesTo_X12_isOf : GoodIn wsX12_comesTo (va_wsS RX12 304 yX12_isOf wsX12_isOf) := goodIn_app (goodIn_of _ (by decide +kernel)) ggX12_comesTo_X12_isOf
theorem dX12_comesTo_0 : decode cX12_comesTo 0 = .ok (.iconst 1, 1) := by decide +kernel
theorem dX12_comesTo_1 : decode cX12_comesTo 1 = .ok (.iload_n 3, 1) := by decide +kernel
theorem dX12_comesTo_2 : decode cX12_comesTo 2 = .ok (.ishl, 1) := by decide +kernel
theorem dX12_comesTo_3 : decode cX12_comesTo 3 = .ok (.istore 4, 2) := by decide +kernel
theorem dX12_comesTo_5 : decode cX12_comesTo 5 = .ok (.iconst 0, 1) := by decide +kernel
theorem dX12_comesTo_6 : decode cX12_comesTo 6 = .ok (.istore 5, 2) := by decide +kernel
theorem dX12_comesTo_8 : decode cX12_comesTo 8 = .ok (.iload 4, 2) := by decide +kernel
theorem dX12_comesTo_10 : decode cX12_comesTo 10 = .ok (.iload 5, 2) := by decide +kernel
theorem dX12_comesTo_12 : decode cX12_comesTo 12 = .ok (.if_icmp .eq 104, 3) := by decide +kernel
theorem dX12_comesTo_15 : decode cX12_comesTo 15 = .ok (.iload 4, 2) := by decide +kernel
theorem dX12_comesTo_17 : decode cX12_comesTo 17 = .ok (.istore 5, 2) := by decide +kernel
theorem dX12_comesTo_19 : decode cX12_comesTo 19 = .ok (.iconst 0, 1) := by decide +kernel
theorem dX12_comesTo_20 : decode cX12_comesTo 20 = .ok (.istore 6, 2) := by decide +kernel
theorem dX12_comesTo_22 : decode cX12_comesTo 22 = .ok (.iconst 0, 1) := by decide +kernel
theorem dX12_comesTo_23 : decode cX12_comesTo 23 = .ok (.istore 7, 2) := by decide +kernel
theorem dX12_comesTo_25 : decode cX12_comesTo 25 = .ok (.iload 7, 2) := by decide +kernel
theorem dX12_comesTo_27 : decode cX12_comesTo 27 = .ok (.aload_n 0, 1) := by decide +kernel
theorem dX12_comesTo_28 : decode cX12_comesTo 28 = .ok (.getfield 45, 3) := by decide +kernel
theorem dX12_comesTo_31 : decode cX12_comesTo 31 = .ok (.iconst 1, 1) := by decide +kernel
theorem dX12_comesTo_32 : decode cX12_comesTo 32 = .ok (.iaload, 1) := by decide +kernel
theorem dX12_comesTo_33 : decode cX12_comesTo 33 = .ok (.if_icmp .ge 80, 3) := by decide +kernel
theorem dX12_comesTo_36 : decode cX12_comesTo 36 = .ok (.aload_n 0, 1) := by decide +kernel
theorem dX12_comesTo_37 : decode cX12_comesTo 37 = .ok (.iload 7, 2) := by decide +kernel
theorem dX12_comesTo_39 : decode cX12_comesTo 39 = .ok (.iconst 3, 1) := by decide +kernel
theorem dX12_comesTo_40 : decode cX12_comesTo 40 = .ok (.iload_n 1, 1) := by decide +kernel
theorem dX12_comesTo_41 : decode cX12_comesTo 41 = .ok (.iadd, 1) := by decide +kernel
theorem dX12_comesTo_42 : decode cX12_comesTo 42 = .ok (.invokevirtual 300, 3) := by decide +kernel
theorem dX12_comesTo_45 : decode cX12_comesTo 45 = .ok (.ifCond .ne 6, 3) := by decide +kernel
theorem dX12_comesTo_48 : decode cX12_comesTo 48 = .ok (.goto 59, 3) := by decide +kernel
theorem dX12_comesTo_51 : decode cX12_comesTo 51 = .ok (.iload_n 2, 1) := by decide +kernel
theorem dX12_comesTo_52 : decode cX12_comesTo 52 = .ok (.iload 6, 2) := by decide +kernel
theorem dX12_comesTo_54 : decode cX12_comesTo 54 = .ok (.invokestatic 304, 3) := by decide +kernel
theorem dX12_comesTo_57 : decode cX12_comesTo 57 = .ok (.ifCond .eq 7, 3) := by decide +kernel
theorem dX12_comesTo_60 : decode cX12_comesTo 60 = .ok (.iconst 1, 1) := by decide +kernel
theorem dX12_comesTo_61 : decode cX12_comesTo 61 = .ok (.goto 4, 3) := by decide +kernel
theorem dX12_comesTo_64 : decode cX12_comesTo 64 = .ok (.iconst 0, 1) := by decide +kernel
theorem dX12_comesTo_65 : decode cX12_comesTo 65 = .ok (.istore 8, 2) := by decide +kernel
theorem dX12_comesTo_67 : decode cX12_comesTo 67 = .ok (.iload 4, 2) := by decide +kernel
theorem dX12_comesTo_69 : decode cX12_comesTo 69 = .ok (.iload 4, 2) := by decide +kernel
theorem dX12_comesTo_71 : decode cX12_comesTo 71 = .ok (.aload_n 0, 1) := by decide +kernel
theorem dX12_comesTo_72 : decode cX12_comesTo 72 = .ok (.iload 7, 2) := by decide +kernel
theorem dX12_comesTo_74 : decode cX12_comesTo 74 = .ok (.iload 8, 2) := by decide +kernel
theorem dX12_comesTo_76 : decode cX12_comesTo 76 = .ok (.invokevirtual 300, 3) := by decide +kernel
theorem dX12_comesTo_79 : decode cX12_comesTo 79 = .ok (.invokestatic 304, 3) := by decide +kernel
theorem dX12_comesTo_82 : decode cX12_comesTo 82 = .ok (.ifCond .eq 18, 3) := by decide +kernel
theorem dX12_comesTo_85 : decode cX12_comesTo 85 = .ok (.iconst 1, 1) := by decide +kernel
theorem dX12_comesTo_86 : decode cX12_comesTo 86 = .ok (.aload_n 0, 1) := by decide +kernel
theorem dX12_comesTo_87 : decode cX12_comesTo 87 = .ok (.iload 7, 2) := by decide +kernel
theorem dX12_comesTo_89 : decode cX12_comesTo 89 = .ok (.iconst 1, 1) := by decide +kernel
theorem dX12_comesTo_90 : decode cX12_comesTo 90 = .ok (.iload 8, 2) := by decide +kernel
theorem dX12_comesTo_92 : decode cX12_comesTo 92 = .ok (.isub, 1) := by decide +kernel
theorem dX12_comesTo_93 : decode cX12_comesTo 93 = .ok (.invokevirtual 300, 3) := by decide +kernel
theorem dX12_comesTo_96 : decode cX12_comesTo 96 = .ok (.ishl, 1) := by decide +kernel
theorem dX12_comesTo_97 : decode cX12_comesTo 97 = .ok (.goto 4, 3) := by decide +kernel
theorem dX12_comesTo_100 : decode cX12_comesTo 100 = .ok (.iconst 0, 1) := by decide +kernel
theorem dX12_comesTo_101 : decode cX12_comesTo 101 = .ok (.ior, 1) := by decide +kernel
theorem dX12_comesTo_102 : decode cX12_comesTo 102 = .ok (.istore 4, 2) := by decide +kernel
theorem dX12_comesTo_104 : decode cX12_comesTo 104 = .ok (.iinc 6 1, 3) := by decide +kernel
theorem dX12_comesTo_107 : decode cX12_comesTo 107 = .ok (.iinc 7 1, 3) := by decide +kernel
theorem dX12_comesTo_110 : decode cX12_comesTo 110 = .ok (.goto (-85), 3) := by decide +kernel
theorem dX12_comesTo_113 : decode cX12_comesTo 113 = .ok (.goto (-105), 3) := by decide +kernel
theorem dX12_comesTo_116 : decode cX12_comesTo 116 = .ok (.iload 4, 2) := by decide +kernel
theorem dX12_comesTo_118 : decode cX12_comesTo 118 = .ok (.ireturn, 1) := by decide +kernel
set_option maxRecDepth 20000 in
theorem ggX12_doneBy_X12_comesTo : GoodIn wsX12_doneBy wsX12_comesTo := goodIn_r _ [6, 1, 7, 8, 9, 5, 10, 11, 12, 13, 14, 15, 16, 17, 18, 19, 20, 21, 22, 23, 24, 25, 26, 27, 28, 29, 30, 31, 32, 33, 34, 35, 36, 37, 38, 39, 40, 41, 42, 43, 44, 45, 46, 47, 48, 49, 50, 51, 52, 53, 54, 55] (by decide +kernel) (by decide +kernel)
set_option maxRecDepth 20000 in
theorem gX12_doneBy_X12_comesTo : GoodIn wsX12_doneBy (wsV RX12 468 RX12 yX12_comesTo wsX12_comesTo) := goodIn_app (goodIn_of _ (by decide +kernel)) ggX12_doneBy_X12_comesTo
set_option maxRecDepth 20000 in
theorem ggX12_doneBy_X12_isOf : GoodIn wsX12_doneBy wsX12_isOf := goodIn_r _ [13] (by decide +kernel) (by decide +kernel)
set_option maxRecDepth 20000 in
theorem gX12_doneBy_X12_isOf : GoodIn wsX12_doneBy (va_wsS RX12 304 yX12_isOf wsX12_isOf) := goodIn_app (goodIn_of _ (by decide +kernel)) ggX12_doneBy_X12_isOf
theorem dX12_doneBy_0 : decode cX12_doneBy 0 = .ok (.iconst 0, 1) := by decide +kernel
theorem dX12_doneBy_1 : decode cX12_doneBy 1 = .ok (.istore_n 3, 1) := by decide +kernel
theorem dX12_doneBy_2 : decode cX12_doneBy 2 = .ok (.iconst 0, 1) := by decide +kernel
theorem dX12_doneBy_3 : decode cX12_doneBy 3 = .ok (.istore 4, 2) := by decide +kernel
theorem dX12_doneBy_5 : decode cX12_doneBy 5 = .ok (.iload 4, 2) := by decide +kernel
theorem dX12_doneBy_7 : decode cX12_doneBy 7 = .ok (.aload_n 0, 1) := by decide +kernel
theorem dX12_doneBy_8 : decode cX12_doneBy 8 = .ok (.getfield 45, 3) := by decide +kernel
theorem dX12_doneBy_11 : decode cX12_doneBy 11 = .ok (.bipush 6, 2) := by decide +kernel
theorem dX12_doneBy_13 : decode cX12_doneBy 13 = .ok (.iaload, 1) := by decide +kernel
theorem dX12_doneBy_14 : decode cX12_doneBy 14 = .ok (.if_icmp .ge 60, 3) := by decide +kernel
theorem dX12_doneBy_17 : decode cX12_doneBy 17 = .ok (.iload_n 3, 1) := by decide +kernel
theorem dX12_doneBy_18 : decode cX12_doneBy 18 = .ok (.aload_n 0, 1) := by decide +kernel
theorem dX12_doneBy_19 : decode cX12_doneBy 19 = .ok (.iload_n 1, 1) := by decide +kernel
theorem dX12_doneBy_20 : decode cX12_doneBy 20 = .ok (.iload_n 2, 1) := by decide +kernel
theorem dX12_doneBy_21 : decode cX12_doneBy 21 = .ok (.aload_n 0, 1) := by decide +kernel
theorem dX12_doneBy_22 : decode cX12_doneBy 22 = .ok (.getfield 45, 3) := by decide +kernel
theorem dX12_doneBy_25 : decode cX12_doneBy 25 = .ok (.sipush 252, 3) := by decide +kernel
theorem dX12_doneBy_28 : decode cX12_doneBy 28 = .ok (.iconst 2, 1) := by decide +kernel
theorem dX12_doneBy_29 : decode cX12_doneBy 29 = .ok (.iload 4, 2) := by decide +kernel
theorem dX12_doneBy_31 : decode cX12_doneBy 31 = .ok (.imul, 1) := by decide +kernel
theorem dX12_doneBy_32 : decode cX12_doneBy 32 = .ok (.iadd, 1) := by decide +kernel
theorem dX12_doneBy_33 : decode cX12_doneBy 33 = .ok (.iaload, 1) := by decide +kernel
theorem dX12_doneBy_34 : decode cX12_doneBy 34 = .ok (.invokevirtual 468, 3) := by decide +kernel
theorem dX12_doneBy_37 : decode cX12_doneBy 37 = .ok (.aload_n 0, 1) := by decide +kernel
theorem dX12_doneBy_38 : decode cX12_doneBy 38 = .ok (.getfield 45, 3) := by decide +kernel
theorem dX12_doneBy_41 : decode cX12_doneBy 41 = .ok (.sipush 252, 3) := by decide +kernel
theorem dX12_doneBy_44 : decode cX12_doneBy 44 = .ok (.iconst 2, 1) := by decide +kernel
theorem dX12_doneBy_45 : decode cX12_doneBy 45 = .ok (.iload 4, 2) := by decide +kernel
theorem dX12_doneBy_47 : decode cX12_doneBy 47 = .ok (.imul, 1) := by decide +kernel
theorem dX12_doneBy_48 : decode cX12_doneBy 48 = .ok (.iadd, 1) := by decide +kernel
theorem dX12_doneBy_49 : decode cX12_doneBy 49 = .ok (.iconst 1, 1) := by decide +kernel
theorem dX12_doneBy_50 : decode cX12_doneBy 50 = .ok (.iadd, 1) := by decide +kernel
theorem dX12_doneBy_51 : decode cX12_doneBy 51 = .ok (.iaload, 1) := by decide +kernel
theorem dX12_doneBy_52 : decode cX12_doneBy 52 = .ok (.invokestatic 304, 3) := by decide +kernel
theorem dX12_doneBy_55 : decode cX12_doneBy 55 = .ok (.ifCond .eq 10, 3) := by decide +kernel
theorem dX12_doneBy_58 : decode cX12_doneBy 58 = .ok (.iconst 1, 1) := by decide +kernel
theorem dX12_doneBy_59 : decode cX12_doneBy 59 = .ok (.iload 4, 2) := by decide +kernel
theorem dX12_doneBy_61 : decode cX12_doneBy 61 = .ok (.ishl, 1) := by decide +kernel
theorem dX12_doneBy_62 : decode cX12_doneBy 62 = .ok (.goto 4, 3) := by decide +kernel
theorem dX12_doneBy_65 : decode cX12_doneBy 65 = .ok (.iconst 0, 1) := by decide +kernel
theorem dX12_doneBy_66 : decode cX12_doneBy 66 = .ok (.ior, 1) := by decide +kernel
theorem dX12_doneBy_67 : decode cX12_doneBy 67 = .ok (.istore_n 3, 1) := by decide +kernel
theorem dX12_doneBy_68 : decode cX12_doneBy 68 = .ok (.iinc 4 1, 3) := by decide +kernel
theorem dX12_doneBy_71 : decode cX12_doneBy 71 = .ok (.goto (-66), 3) := by decide +kernel
theorem dX12_doneBy_74 : decode cX12_doneBy 74 = .ok (.iload_n 3, 1) := by decide +kernel
theorem dX12_doneBy_75 : decode cX12_doneBy 75 = .ok (.ireturn, 1) := by decide +kernel
set_option maxRecDepth 20000 in
theorem ggX12_ways_X12_isTown : GoodIn wsX12_ways wsX12_isTown := goodIn_r _ [8, 2, 34, 35, 36, 37, 38, 39, 40, 41, 42, 43, 44, 45, 46, 47, 48, 49, 50, 51, 52, 53, 54, 55, 56, 57, 58, 59, 60, 61, 62, 63, 64, 65, 66, 67, 68, 69, 70, 71, 72, 73, 74, 75] (by decide +kernel) (by decide +kernel)
set_option maxRecDepth 20000 in
theorem gX12_ways_X12_isTown : GoodIn wsX12_ways (wsV RX12 337 RX12 yX12_isTown wsX12_isTown) := goodIn_app (goodIn_of _ (by decide +kernel)) ggX12_ways_X12_isTown
set_option maxRecDepth 20000 in
theorem ggX12_ways_X12_in : GoodIn wsX12_ways wsX12_in := goodIn_r _ [11] (by decide +kernel) (by decide +kernel)
set_option maxRecDepth 20000 in
theorem gX12_ways_X12_in : GoodIn wsX12_ways (va_wsS RX12 122 yX12_in wsX12_in) := goodIn_app (goodIn_of _ (by decide +kernel)) ggX12_ways_X12_in
set_option maxRecDepth 20000 in
theorem ggX12_ways_X12_streetOf : GoodIn wsX12_ways wsX12_streetOf := goodIn_r _ [15, 2, 34, 35, 36, 37, 38, 39, 40, 41, 42, 43, 44, 45, 46, 47, 48, 49, 50, 51, 52, 53, 54, 55, 56, 57, 58, 59, 60, 61, 62, 63, 64, 65, 66, 67, 68, 69, 70, 71, 72, 73, 74, 75] (by decide +kernel) (by decide +kernel)
set_option maxRecDepth 20000 in
theorem gX12_ways_X12_streetOf : GoodIn wsX12_ways (wsV RX12 300 RX12 yX12_streetOf wsX12_streetOf) := goodIn_app (goodIn_of _ (by decide +kernel)) ggX12_ways_X12_streetOf
set_option maxRecDepth 20000 in
theorem ggX12_ways_X12_doneBy : GoodIn wsX12_ways wsX12_doneBy := goodIn_r _ [19, 2, 20, 21, 22, 7, 23, 12, 13, 14, 15, 24, 25, 26, 34, 35, 36, 37, 38, 39, 40, 41, 42, 43, 44, 45, 46, 47, 48, 49, 50, 51, 52, 53, 54, 55, 56, 57, 58, 59, 60, 61, 62, 63, 64, 65, 66, 67, 68, 69, 70, 71, 72, 73, 74, 75] (by decide +kernel) (by decide +kernel)
set_option maxRecDepth 20000 in
theorem gX12_ways_X12_doneBy : GoodIn wsX12_ways (wsV RX12 472 RX12 yX12_doneBy wsX12_doneBy) := goodIn_app (goodIn_of _ (by decide +kernel)) ggX12_ways_X12_doneBy
set_option maxRecDepth 20000 in
theorem ggX12_ways_X12_isClash : GoodIn wsX12_ways wsX12_isClash := goodIn_r _ [30, 3, 34, 35, 36, 37, 38, 39, 40, 41, 42, 43, 44, 45, 46, 47, 48, 49, 50, 51, 52, 53, 54, 55, 56, 57, 58, 59, 60, 61, 62, 63, 64, 65, 66, 67, 68, 69, 70, 71, 72, 73, 74, 75] (by decide +kernel) (by decide +kernel)
set_option maxRecDepth 20000 in
theorem gX12_ways_X12_isClash : GoodIn wsX12_ways (wsV RX12 475 RX12 yX12_isClash wsX12_isClash) := goodIn_app (goodIn_of _ (by decide +kernel)) ggX12_ways_X12_isClash
set_option maxRecDepth 20000 in
theorem ggX12_ways_X12_bits : GoodIn wsX12_ways wsX12_bits := goodIn_r _ [33] (by decide +kernel) (by decide +kernel)
set_option maxRecDepth 20000 in
theorem gX12_ways_X12_bits : GoodIn wsX12_ways (va_wsS RX12 478 yX12_bits wsX12_bits) := goodIn_app (goodIn_of _ (by decide +kernel)) ggX12_ways_X12_bits
theorem dX12_ways_0 : decode cX12_ways 0 = .ok (.aload_n 0, 1) := by decide +kernel
theorem dX12_ways_1 : decode cX12_ways 1 = .ok (.invokevirtual 337, 3) := by decide +kernel
theorem dX12_ways_4 : decode cX12_ways 4 = .ok (.ifCond .eq 25, 3) := by decide +kernel
theorem dX12_ways_7 : decode cX12_ways 7 = .ok (.iload_n 1, 1) := by decide +kernel
theorem dX12_ways_8 : decode cX12_ways 8 = .ok (.i2l, 1) := by decide +kernel
theorem dX12_ways_9 : decode cX12_ways 9 = .ok (.lconst 0, 1) := by decide +kernel
theorem dX12_ways_10 : decode cX12_ways 10 = .ok (.ldc2_w 340, 3) := by decide +kernel
theorem dX12_ways_13 : decode cX12_ways 13 = .ok (.invokestatic 122, 3) := by decide +kernel
theorem dX12_ways_16 : decode cX12_ways 16 = .ok (.ifCond .eq 13, 3) := by decide +kernel
theorem dX12_ways_19 : decode cX12_ways 19 = .ok (.iload_n 2, 1) := by decide +kernel
theorem dX12_ways_20 : decode cX12_ways 20 = .ok (.i2l, 1) := by decide +kernel
theorem dX12_ways_21 : decode cX12_ways 21 = .ok (.lconst 0, 1) := by decide +kernel
theorem dX12_ways_22 : decode cX12_ways 22 = .ok (.lconst 1, 1) := by decide +kernel
theorem dX12_ways_23 : decode cX12_ways 23 = .ok (.invokestatic 122, 3) := by decide +kernel
theorem dX12_ways_26 : decode cX12_ways 26 = .ok (.ifCond .ne 5, 3) := by decide +kernel
theorem dX12_ways_29 : decode cX12_ways 29 = .ok (.iconst (-1), 1) := by decide +kernel
theorem dX12_ways_30 : decode cX12_ways 30 = .ok (.ireturn, 1) := by decide +kernel
theorem dX12_ways_31 : decode cX12_ways 31 = .ok (.iconst 0, 1) := by decide +kernel
theorem dX12_ways_32 : decode cX12_ways 32 = .ok (.istore_n 3, 1) := by decide +kernel
theorem dX12_ways_33 : decode cX12_ways 33 = .ok (.iconst 0, 1) := by decide +kernel
theorem dX12_ways_34 : decode cX12_ways 34 = .ok (.istore 4, 2) := by decide +kernel
theorem dX12_ways_36 : decode cX12_ways 36 = .ok (.iload 4, 2) := by decide +kernel
theorem dX12_ways_38 : decode cX12_ways 38 = .ok (.aload_n 0, 1) := by decide +kernel
theorem dX12_ways_39 : decode cX12_ways 39 = .ok (.getfield 45, 3) := by decide +kernel
theorem dX12_ways_42 : decode cX12_ways 42 = .ok (.iconst 1, 1) := by decide +kernel
theorem dX12_ways_43 : decode cX12_ways 43 = .ok (.iaload, 1) := by decide +kernel
theorem dX12_ways_44 : decode cX12_ways 44 = .ok (.if_icmp .ge 29, 3) := by decide +kernel
theorem dX12_ways_47 : decode cX12_ways 47 = .ok (.iload_n 3, 1) := by decide +kernel
theorem dX12_ways_48 : decode cX12_ways 48 = .ok (.aload_n 0, 1) := by decide +kernel
theorem dX12_ways_49 : decode cX12_ways 49 = .ok (.iload 4, 2) := by decide +kernel
theorem dX12_ways_51 : decode cX12_ways 51 = .ok (.iconst 3, 1) := by decide +kernel
theorem dX12_ways_52 : decode cX12_ways 52 = .ok (.iload_n 1, 1) := by decide +kernel
theorem dX12_ways_53 : decode cX12_ways 53 = .ok (.iadd, 1) := by decide +kernel
theorem dX12_ways_54 : decode cX12_ways 54 = .ok (.invokevirtual 300, 3) := by decide +kernel
theorem dX12_ways_57 : decode cX12_ways 57 = .ok (.ifCond .ne 7, 3) := by decide +kernel
theorem dX12_ways_60 : decode cX12_ways 60 = .ok (.iconst 0, 1) := by decide +kernel
theorem dX12_ways_61 : decode cX12_ways 61 = .ok (.goto 4, 3) := by decide +kernel
theorem dX12_ways_64 : decode cX12_ways 64 = .ok (.iconst 1, 1) := by decide +kernel
theorem dX12_ways_65 : decode cX12_ways 65 = .ok (.iadd, 1) := by decide +kernel
theorem dX12_ways_66 : decode cX12_ways 66 = .ok (.istore_n 3, 1) := by decide +kernel
theorem dX12_ways_67 : decode cX12_ways 67 = .ok (.iinc 4 1, 3) := by decide +kernel
theorem dX12_ways_70 : decode cX12_ways 70 = .ok (.goto (-34), 3) := by decide +kernel
theorem dX12_ways_73 : decode cX12_ways 73 = .ok (.iconst 1, 1) := by decide +kernel
theorem dX12_ways_74 : decode cX12_ways 74 = .ok (.aload_n 0, 1) := by decide +kernel
theorem dX12_ways_75 : decode cX12_ways 75 = .ok (.getfield 45, 3) := by decide +kernel
theorem dX12_ways_78 : decode cX12_ways 78 = .ok (.bipush 6, 2) := by decide +kernel
theorem dX12_ways_80 : decode cX12_ways 80 = .ok (.iaload, 1) := by decide +kernel
theorem dX12_ways_81 : decode cX12_ways 81 = .ok (.ishl, 1) := by decide +kernel
theorem dX12_ways_82 : decode cX12_ways 82 = .ok (.iconst 1, 1) := by decide +kernel
theorem dX12_ways_83 : decode cX12_ways 83 = .ok (.isub, 1) := by decide +kernel
theorem dX12_ways_84 : decode cX12_ways 84 = .ok (.istore 4, 2) := by decide +kernel
theorem dX12_ways_86 : decode cX12_ways 86 = .ok (.iconst 0, 1) := by decide +kernel
theorem dX12_ways_87 : decode cX12_ways 87 = .ok (.istore 5, 2) := by decide +kernel
theorem dX12_ways_89 : decode cX12_ways 89 = .ok (.iload 5, 2) := by decide +kernel
theorem dX12_ways_91 : decode cX12_ways 91 = .ok (.bipush 64, 2) := by decide +kernel
theorem dX12_ways_93 : decode cX12_ways 93 = .ok (.if_icmp .ge 17, 3) := by decide +kernel
theorem dX12_ways_96 : decode cX12_ways 96 = .ok (.aload_n 0, 1) := by decide +kernel
theorem dX12_ways_97 : decode cX12_ways 97 = .ok (.getfield 74, 3) := by decide +kernel
theorem dX12_ways_100 : decode cX12_ways 100 = .ok (.iload 5, 2) := by decide +kernel
theorem dX12_ways_102 : decode cX12_ways 102 = .ok (.iconst 0, 1) := by decide +kernel
theorem dX12_ways_103 : decode cX12_ways 103 = .ok (.bastore, 1) := by decide +kernel
theorem dX12_ways_104 : decode cX12_ways 104 = .ok (.iinc 5 1, 3) := by decide +kernel
theorem dX12_ways_107 : decode cX12_ways 107 = .ok (.goto (-18), 3) := by decide +kernel
theorem dX12_ways_110 : decode cX12_ways 110 = .ok (.iconst 0, 1) := by decide +kernel
theorem dX12_ways_111 : decode cX12_ways 111 = .ok (.istore 5, 2) := by decide +kernel
theorem dX12_ways_113 : decode cX12_ways 113 = .ok (.iload 5, 2) := by decide +kernel
theorem dX12_ways_115 : decode cX12_ways 115 = .ok (.iconst 1, 1) := by decide +kernel
theorem dX12_ways_116 : decode cX12_ways 116 = .ok (.iload_n 3, 1) := by decide +kernel
theorem dX12_ways_117 : decode cX12_ways 117 = .ok (.ishl, 1) := by decide +kernel
theorem dX12_ways_118 : decode cX12_ways 118 = .ok (.if_icmp .ge 44, 3) := by decide +kernel
theorem dX12_ways_121 : decode cX12_ways 121 = .ok (.aload_n 0, 1) := by decide +kernel
theorem dX12_ways_122 : decode cX12_ways 122 = .ok (.iload_n 1, 1) := by decide +kernel
theorem dX12_ways_123 : decode cX12_ways 123 = .ok (.iload 5, 2) := by decide +kernel
theorem dX12_ways_125 : decode cX12_ways 125 = .ok (.invokevirtual 472, 3) := by decide +kernel
theorem dX12_ways_128 : decode cX12_ways 128 = .ok (.istore 6, 2) := by decide +kernel
theorem dX12_ways_130 : decode cX12_ways 130 = .ok (.iload 6, 2) := by decide +kernel
theorem dX12_ways_132 : decode cX12_ways 132 = .ok (.iload 4, 2) := by decide +kernel
theorem dX12_ways_134 : decode cX12_ways 134 = .ok (.if_icmp .ne 14, 3) := by decide +kernel
theorem dX12_ways_137 : decode cX12_ways 137 = .ok (.iload_n 2, 1) := by decide +kernel
theorem dX12_ways_138 : decode cX12_ways 138 = .ok (.ifCond .ne 8, 3) := by decide +kernel
theorem dX12_ways_141 : decode cX12_ways 141 = .ok (.iload 5, 2) := by decide +kernel
theorem dX12_ways_143 : decode cX12_ways 143 = .ok (.goto 4, 3) := by decide +kernel
theorem dX12_ways_146 : decode cX12_ways 146 = .ok (.iconst 0, 1) := by decide +kernel
theorem dX12_ways_147 : decode cX12_ways 147 = .ok (.ireturn, 1) := by decide +kernel
theorem dX12_ways_148 : decode cX12_ways 148 = .ok (.aload_n 0, 1) := by decide +kernel
theorem dX12_ways_149 : decode cX12_ways 149 = .ok (.getfield 74, 3) := by decide +kernel
theorem dX12_ways_152 : decode cX12_ways 152 = .ok (.iload 6, 2) := by decide +kernel
theorem dX12_ways_154 : decode cX12_ways 154 = .ok (.iconst 1, 1) := by decide +kernel
theorem dX12_ways_155 : decode cX12_ways 155 = .ok (.bastore, 1) := by decide +kernel
theorem dX12_ways_156 : decode cX12_ways 156 = .ok (.iinc 5 1, 3) := by decide +kernel
theorem dX12_ways_159 : decode cX12_ways 159 = .ok (.goto (-46), 3) := by decide +kernel
theorem dX12_ways_162 : decode cX12_ways 162 = .ok (.iload_n 2, 1) := by decide +kernel
theorem dX12_ways_163 : decode cX12_ways 163 = .ok (.ifCond .ne 6, 3) := by decide +kernel
theorem dX12_ways_166 : decode cX12_ways 166 = .ok (.bipush (-2), 2) := by decide +kernel
theorem dX12_ways_168 : decode cX12_ways 168 = .ok (.ireturn, 1) := by decide +kernel
theorem dX12_ways_169 : decode cX12_ways 169 = .ok (.iload 4, 2) := by decide +kernel
theorem dX12_ways_171 : decode cX12_ways 171 = .ok (.istore 5, 2) := by decide +kernel
theorem dX12_ways_173 : decode cX12_ways 173 = .ok (.iload 4, 2) := by decide +kernel
theorem dX12_ways_175 : decode cX12_ways 175 = .ok (.istore 6, 2) := by decide +kernel
theorem dX12_ways_177 : decode cX12_ways 177 = .ok (.iload 6, 2) := by decide +kernel
theorem dX12_ways_179 : decode cX12_ways 179 = .ok (.ifCond .le 37, 3) := by decide +kernel
theorem dX12_ways_182 : decode cX12_ways 182 = .ok (.aload_n 0, 1) := by decide +kernel
theorem dX12_ways_183 : decode cX12_ways 183 = .ok (.iload 6, 2) := by decide +kernel
theorem dX12_ways_185 : decode cX12_ways 185 = .ok (.iload 4, 2) := by decide +kernel
theorem dX12_ways_187 : decode cX12_ways 187 = .ok (.invokevirtual 475, 3) := by decide +kernel
theorem dX12_ways_190 : decode cX12_ways 190 = .ok (.ifCond .eq 20, 3) := by decide +kernel
theorem dX12_ways_193 : decode cX12_ways 193 = .ok (.iload 6, 2) := by decide +kernel
theorem dX12_ways_195 : decode cX12_ways 195 = .ok (.invokestatic 478, 3) := by decide +kernel
theorem dX12_ways_198 : decode cX12_ways 198 = .ok (.iload 5, 2) := by decide +kernel
theorem dX12_ways_200 : decode cX12_ways 200 = .ok (.invokestatic 478, 3) := by decide +kernel
theorem dX12_ways_203 : decode cX12_ways 203 = .ok (.if_icmp .gt 7, 3) := by decide +kernel
theorem dX12_ways_206 : decode cX12_ways 206 = .ok (.iload 6, 2) := by decide +kernel
theorem dX12_ways_208 : decode cX12_ways 208 = .ok (.istore 5, 2) := by decide +kernel
theorem dX12_ways_210 : decode cX12_ways 210 = .ok (.iinc 6 (-1), 3) := by decide +kernel
theorem dX12_ways_213 : decode cX12_ways 213 = .ok (.goto (-36), 3) := by decide +kernel
theorem dX12_ways_216 : decode cX12_ways 216 = .ok (.iload 5, 2) := by decide +kernel
theorem dX12_ways_218 : decode cX12_ways 218 = .ok (.ireturn, 1) := by decide +kernel
theorem dX12_isClash_0 : decode cX12_isClash 0 = .ok (.iconst 0, 1) := by decide +kernel
theorem dX12_isClash_1 : decode cX12_isClash 1 = .ok (.istore_n 3, 1) := by decide +kernel
theorem dX12_isClash_2 : decode cX12_isClash 2 = .ok (.iload_n 3, 1) := by decide +kernel
theorem dX12_isClash_3 : decode cX12_isClash 3 = .ok (.iload_n 2, 1) := by decide +kernel
theorem dX12_isClash_4 : decode cX12_isClash 4 = .ok (.if_icmp .gt 27, 3) := by decide +kernel
theorem dX12_isClash_7 : decode cX12_isClash 7 = .ok (.aload_n 0, 1) := by decide +kernel
theorem dX12_isClash_8 : decode cX12_isClash 8 = .ok (.getfield 74, 3) := by decide +kernel
theorem dX12_isClash_11 : decode cX12_isClash 11 = .ok (.iload_n 3, 1) := by decide +kernel
theorem dX12_isClash_12 : decode cX12_isClash 12 = .ok (.baload, 1) := by decide +kernel
theorem dX12_isClash_13 : decode cX12_isClash 13 = .ok (.ifCond .eq 12, 3) := by decide +kernel
theorem dX12_isClash_16 : decode cX12_isClash 16 = .ok (.iload_n 3, 1) := by decide +kernel
theorem dX12_isClash_17 : decode cX12_isClash 17 = .ok (.iload_n 1, 1) := by decide +kernel
theorem dX12_isClash_18 : decode cX12_isClash 18 = .ok (.iand, 1) := by decide +kernel
theorem dX12_isClash_19 : decode cX12_isClash 19 = .ok (.iload_n 1, 1) := by decide +kernel
theorem dX12_isClash_20 : decode cX12_isClash 20 = .ok (.if_icmp .ne 5, 3) := by decide +kernel
theorem dX12_isClash_23 : decode cX12_isClash 23 = .ok (.iconst 0, 1) := by decide +kernel
theorem dX12_isClash_24 : decode cX12_isClash 24 = .ok (.ireturn, 1) := by decide +kernel
theorem dX12_isClash_25 : decode cX12_isClash 25 = .ok (.iinc 3 1, 3) := by decide +kernel
theorem dX12_isClash_28 : decode cX12_isClash 28 = .ok (.goto (-26), 3) := by decide +kernel
theorem dX12_isClash_31 : decode cX12_isClash 31 = .ok (.iconst 1, 1) := by decide +kernel
theorem dX12_isClash_32 : decode cX12_isClash 32 = .ok (.ireturn, 1) := by decide +kernel
set_option maxRecDepth 20000 in
theorem ggX12_sight_X12_isStreet : GoodIn wsX12_sight wsX12_isStreet := goodIn_r _ [7, 1, 11, 12, 13, 14, 15, 16, 17, 18, 19, 20, 21, 22, 23, 24, 25, 26, 27, 28, 29, 30, 31, 32, 33, 34, 35, 36, 37, 38, 39, 40, 41, 42, 43, 44, 45, 46, 47, 48, 49, 50, 51, 52] (by decide +kernel) (by decide +kernel)
set_option maxRecDepth 20000 in
theorem gX12_sight_X12_isStreet : GoodIn wsX12_sight (wsV RX12 323 RX12 yX12_isStreet wsX12_isStreet) := goodIn_app (goodIn_of _ (by decide +kernel)) ggX12_sight_X12_isStreet
set_option maxRecDepth 20000 in
theorem ggX12_sight_X12_in : GoodIn wsX12_sight wsX12_in := goodIn_r _ [10] (by decide +kernel) (by decide +kernel)
set_option maxRecDepth 20000 in
theorem gX12_sight_X12_in : GoodIn wsX12_sight (va_wsS RX12 122 yX12_in wsX12_in) := goodIn_app (goodIn_of _ (by decide +kernel)) ggX12_sight_X12_in
theorem dX12_sight_0 : decode cX12_sight 0 = .ok (.iload_n 1, 1) := by decide +kernel
theorem dX12_sight_1 : decode cX12_sight 1 = .ok (.iconst (-1), 1) := by decide +kernel
theorem dX12_sight_2 : decode cX12_sight 2 = .ok (.if_icmp .ne 13, 3) := by decide +kernel
theorem dX12_sight_5 : decode cX12_sight 5 = .ok (.aload_n 0, 1) := by decide +kernel
theorem dX12_sight_6 : decode cX12_sight 6 = .ok (.getfield 45, 3) := by decide +kernel
theorem dX12_sight_9 : decode cX12_sight 9 = .ok (.bipush 7, 2) := by decide +kernel
theorem dX12_sight_11 : decode cX12_sight 11 = .ok (.iconst 0, 1) := by decide +kernel
theorem dX12_sight_12 : decode cX12_sight 12 = .ok (.iastore, 1) := by decide +kernel
theorem dX12_sight_13 : decode cX12_sight 13 = .ok (.iconst 0, 1) := by decide +kernel
theorem dX12_sight_14 : decode cX12_sight 14 = .ok (.ireturn, 1) := by decide +kernel
theorem dX12_sight_15 : decode cX12_sight 15 = .ok (.aload_n 0, 1) := by decide +kernel
theorem dX12_sight_16 : decode cX12_sight 16 = .ok (.iload_n 1, 1) := by decide +kernel
theorem dX12_sight_17 : decode cX12_sight 17 = .ok (.invokevirtual 323, 3) := by decide +kernel
theorem dX12_sight_20 : decode cX12_sight 20 = .ok (.ifCond .eq 27, 3) := by decide +kernel
theorem dX12_sight_23 : decode cX12_sight 23 = .ok (.iload_n 2, 1) := by decide +kernel
theorem dX12_sight_24 : decode cX12_sight 24 = .ok (.i2l, 1) := by decide +kernel
theorem dX12_sight_25 : decode cX12_sight 25 = .ok (.lconst 0, 1) := by decide +kernel
theorem dX12_sight_26 : decode cX12_sight 26 = .ok (.ldc2_w 345, 3) := by decide +kernel
theorem dX12_sight_29 : decode cX12_sight 29 = .ok (.invokestatic 122, 3) := by decide +kernel
theorem dX12_sight_32 : decode cX12_sight 32 = .ok (.ifCond .eq 15, 3) := by decide +kernel
theorem dX12_sight_35 : decode cX12_sight 35 = .ok (.aload_n 0, 1) := by decide +kernel
theorem dX12_sight_36 : decode cX12_sight 36 = .ok (.getfield 45, 3) := by decide +kernel
theorem dX12_sight_39 : decode cX12_sight 39 = .ok (.bipush 7, 2) := by decide +kernel
theorem dX12_sight_41 : decode cX12_sight 41 = .ok (.iaload, 1) := by decide +kernel
theorem dX12_sight_42 : decode cX12_sight 42 = .ok (.bipush 12, 2) := by decide +kernel
theorem dX12_sight_44 : decode cX12_sight 44 = .ok (.if_icmp .ne 6, 3) := by decide +kernel
theorem dX12_sight_47 : decode cX12_sight 47 = .ok (.bipush (-2), 2) := by decide +kernel
theorem dX12_sight_49 : decode cX12_sight 49 = .ok (.ireturn, 1) := by decide +kernel
theorem dX12_sight_50 : decode cX12_sight 50 = .ok (.aload_n 0, 1) := by decide +kernel
theorem dX12_sight_51 : decode cX12_sight 51 = .ok (.getfield 45, 3) := by decide +kernel
theorem dX12_sight_54 : decode cX12_sight 54 = .ok (.sipush 264, 3) := by decide +kernel
theorem dX12_sight_57 : decode cX12_sight 57 = .ok (.iconst 2, 1) := by decide +kernel
theorem dX12_sight_58 : decode cX12_sight 58 = .ok (.aload_n 0, 1) := by decide +kernel
theorem dX12_sight_59 : decode cX12_sight 59 = .ok (.getfield 45, 3) := by decide +kernel
theorem dX12_sight_62 : decode cX12_sight 62 = .ok (.bipush 7, 2) := by decide +kernel
theorem dX12_sight_64 : decode cX12_sight 64 = .ok (.iaload, 1) := by decide +kernel
theorem dX12_sight_65 : decode cX12_sight 65 = .ok (.imul, 1) := by decide +kernel
theorem dX12_sight_66 : decode cX12_sight 66 = .ok (.iadd, 1) := by decide +kernel
theorem dX12_sight_67 : decode cX12_sight 67 = .ok (.iload_n 1, 1) := by decide +kernel
theorem dX12_sight_68 : decode cX12_sight 68 = .ok (.iastore, 1) := by decide +kernel
theorem dX12_sight_69 : decode cX12_sight 69 = .ok (.aload_n 0, 1) := by decide +kernel
theorem dX12_sight_70 : decode cX12_sight 70 = .ok (.getfield 45, 3) := by decide +kernel
theorem dX12_sight_73 : decode cX12_sight 73 = .ok (.sipush 264, 3) := by decide +kernel
theorem dX12_sight_76 : decode cX12_sight 76 = .ok (.iconst 2, 1) := by decide +kernel
theorem dX12_sight_77 : decode cX12_sight 77 = .ok (.aload_n 0, 1) := by decide +kernel
theorem dX12_sight_78 : decode cX12_sight 78 = .ok (.getfield 45, 3) := by decide +kernel
theorem dX12_sight_81 : decode cX12_sight 81 = .ok (.bipush 7, 2) := by decide +kernel
theorem dX12_sight_83 : decode cX12_sight 83 = .ok (.iaload, 1) := by decide +kernel
theorem dX12_sight_84 : decode cX12_sight 84 = .ok (.imul, 1) := by decide +kernel
theorem dX12_sight_85 : decode cX12_sight 85 = .ok (.iadd, 1) := by decide +kernel
theorem dX12_sight_86 : decode cX12_sight 86 = .ok (.iconst 1, 1) := by decide +kernel
theorem dX12_sight_87 : decode cX12_sight 87 = .ok (.iadd, 1) := by decide +kernel
theorem dX12_sight_88 : decode cX12_sight 88 = .ok (.iload_n 2, 1) := by decide +kernel
theorem dX12_sight_89 : decode cX12_sight 89 = .ok (.iastore, 1) := by decide +kernel
theorem dX12_sight_90 : decode cX12_sight 90 = .ok (.aload_n 0, 1) := by decide +kernel
theorem dX12_sight_91 : decode cX12_sight 91 = .ok (.getfield 45, 3) := by decide +kernel
theorem dX12_sight_94 : decode cX12_sight 94 = .ok (.bipush 7, 2) := by decide +kernel
theorem dX12_sight_96 : decode cX12_sight 96 = .ok (.dup2, 1) := by decide +kernel
theorem dX12_sight_97 : decode cX12_sight 97 = .ok (.iaload, 1) := by decide +kernel
theorem dX12_sight_98 : decode cX12_sight 98 = .ok (.iconst 1, 1) := by decide +kernel
theorem dX12_sight_99 : decode cX12_sight 99 = .ok (.iadd, 1) := by decide +kernel
theorem dX12_sight_100 : decode cX12_sight 100 = .ok (.iastore, 1) := by decide +kernel
theorem dX12_sight_101 : decode cX12_sight 101 = .ok (.aload_n 0, 1) := by decide +kernel
theorem dX12_sight_102 : decode cX12_sight 102 = .ok (.getfield 45, 3) := by decide +kernel
theorem dX12_sight_105 : decode cX12_sight 105 = .ok (.bipush 7, 2) := by decide +kernel
theorem dX12_sight_107 : decode cX12_sight 107 = .ok (.iaload, 1) := by decide +kernel
theorem dX12_sight_108 : decode cX12_sight 108 = .ok (.ireturn, 1) := by decide +kernel
set_option maxRecDepth 20000 in
theorem ggX12_fitting_X12_streetOf : GoodIn wsX12_fitting wsX12_streetOf := goodIn_r _ [6, 1, 7, 8, 9, 10, 11, 12, 13, 14, 15, 16, 17, 18, 19, 20, 21, 22, 23, 24, 25, 26, 27, 28, 29, 30, 31, 32, 33, 34, 35, 36, 37, 38, 39, 40, 41, 42, 43, 44, 45, 46, 47, 48] (by decide +kernel) (by decide +kernel)
set_option maxRecDepth 20000 in
theorem gX12_fitting_X12_streetOf : GoodIn wsX12_fitting (wsV RX12 300 RX12 yX12_streetOf wsX12_streetOf) := goodIn_app (goodIn_of _ (by decide +kernel)) ggX12_fitting_X12_streetOf
theorem dX12_fitting_0 : decode cX12_fitting 0 = .ok (.iconst 0, 1) := by decide +kernel
theorem dX12_fitting_1 : decode cX12_fitting 1 = .ok (.istore_n 1, 1) := by decide +kernel
theorem dX12_fitting_2 : decode cX12_fitting 2 = .ok (.iconst 0, 1) := by decide +kernel
theorem dX12_fitting_3 : decode cX12_fitting 3 = .ok (.istore_n 2, 1) := by decide +kernel
theorem dX12_fitting_4 : decode cX12_fitting 4 = .ok (.iload_n 2, 1) := by decide +kernel
theorem dX12_fitting_5 : decode cX12_fitting 5 = .ok (.bipush 7, 2) := by decide +kernel
theorem dX12_fitting_7 : decode cX12_fitting 7 = .ok (.if_icmp .ge 94, 3) := by decide +kernel
theorem dX12_fitting_10 : decode cX12_fitting 10 = .ok (.iconst 1, 1) := by decide +kernel
theorem dX12_fitting_11 : decode cX12_fitting 11 = .ok (.istore_n 3, 1) := by decide +kernel
theorem dX12_fitting_12 : decode cX12_fitting 12 = .ok (.iconst 0, 1) := by decide +kernel
theorem dX12_fitting_13 : decode cX12_fitting 13 = .ok (.istore 4, 2) := by decide +kernel
theorem dX12_fitting_15 : decode cX12_fitting 15 = .ok (.iload 4, 2) := by decide +kernel
theorem dX12_fitting_17 : decode cX12_fitting 17 = .ok (.aload_n 0, 1) := by decide +kernel
theorem dX12_fitting_18 : decode cX12_fitting 18 = .ok (.getfield 45, 3) := by decide +kernel
theorem dX12_fitting_21 : decode cX12_fitting 21 = .ok (.bipush 7, 2) := by decide +kernel
theorem dX12_fitting_23 : decode cX12_fitting 23 = .ok (.iaload, 1) := by decide +kernel
theorem dX12_fitting_24 : decode cX12_fitting 24 = .ok (.if_icmp .ge 57, 3) := by decide +kernel
theorem dX12_fitting_27 : decode cX12_fitting 27 = .ok (.iload_n 3, 1) := by decide +kernel
theorem dX12_fitting_28 : decode cX12_fitting 28 = .ok (.ifCond .eq 45, 3) := by decide +kernel
theorem dX12_fitting_31 : decode cX12_fitting 31 = .ok (.aload_n 0, 1) := by decide +kernel
theorem dX12_fitting_32 : decode cX12_fitting 32 = .ok (.aload_n 0, 1) := by decide +kernel
theorem dX12_fitting_33 : decode cX12_fitting 33 = .ok (.getfield 45, 3) := by decide +kernel
theorem dX12_fitting_36 : decode cX12_fitting 36 = .ok (.sipush 264, 3) := by decide +kernel
theorem dX12_fitting_39 : decode cX12_fitting 39 = .ok (.iconst 2, 1) := by decide +kernel
theorem dX12_fitting_40 : decode cX12_fitting 40 = .ok (.iload 4, 2) := by decide +kernel
theorem dX12_fitting_42 : decode cX12_fitting 42 = .ok (.imul, 1) := by decide +kernel
theorem dX12_fitting_43 : decode cX12_fitting 43 = .ok (.iadd, 1) := by decide +kernel
theorem dX12_fitting_44 : decode cX12_fitting 44 = .ok (.iaload, 1) := by decide +kernel
theorem dX12_fitting_45 : decode cX12_fitting 45 = .ok (.iconst 3, 1) := by decide +kernel
theorem dX12_fitting_46 : decode cX12_fitting 46 = .ok (.iload_n 2, 1) := by decide +kernel
theorem dX12_fitting_47 : decode cX12_fitting 47 = .ok (.iadd, 1) := by decide +kernel
theorem dX12_fitting_48 : decode cX12_fitting 48 = .ok (.invokevirtual 300, 3) := by decide +kernel
theorem dX12_fitting_51 : decode cX12_fitting 51 = .ok (.aload_n 0, 1) := by decide +kernel
theorem dX12_fitting_52 : decode cX12_fitting 52 = .ok (.getfield 45, 3) := by decide +kernel
theorem dX12_fitting_55 : decode cX12_fitting 55 = .ok (.sipush 264, 3) := by decide +kernel
theorem dX12_fitting_58 : decode cX12_fitting 58 = .ok (.iconst 2, 1) := by decide +kernel
theorem dX12_fitting_59 : decode cX12_fitting 59 = .ok (.iload 4, 2) := by decide +kernel
theorem dX12_fitting_61 : decode cX12_fitting 61 = .ok (.imul, 1) := by decide +kernel
theorem dX12_fitting_62 : decode cX12_fitting 62 = .ok (.iadd, 1) := by decide +kernel
theorem dX12_fitting_63 : decode cX12_fitting 63 = .ok (.iconst 1, 1) := by decide +kernel
theorem dX12_fitting_64 : decode cX12_fitting 64 = .ok (.iadd, 1) := by decide +kernel
theorem dX12_fitting_65 : decode cX12_fitting 65 = .ok (.iaload, 1) := by decide +kernel
theorem dX12_fitting_66 : decode cX12_fitting 66 = .ok (.if_icmp .ne 7, 3) := by decide +kernel
theorem dX12_fitting_69 : decode cX12_fitting 69 = .ok (.iconst 1, 1) := by decide +kernel
theorem dX12_fitting_70 : decode cX12_fitting 70 = .ok (.goto 4, 3) := by decide +kernel
theorem dX12_fitting_73 : decode cX12_fitting 73 = .ok (.iconst 0, 1) := by decide +kernel
theorem dX12_fitting_74 : decode cX12_fitting 74 = .ok (.istore_n 3, 1) := by decide +kernel
theorem dX12_fitting_75 : decode cX12_fitting 75 = .ok (.iinc 4 1, 3) := by decide +kernel
theorem dX12_fitting_78 : decode cX12_fitting 78 = .ok (.goto (-63), 3) := by decide +kernel
theorem dX12_fitting_81 : decode cX12_fitting 81 = .ok (.iload_n 1, 1) := by decide +kernel
theorem dX12_fitting_82 : decode cX12_fitting 82 = .ok (.iload_n 3, 1) := by decide +kernel
theorem dX12_fitting_83 : decode cX12_fitting 83 = .ok (.ifCond .eq 9, 3) := by decide +kernel
theorem dX12_fitting_86 : decode cX12_fitting 86 = .ok (.iconst 1, 1) := by decide +kernel
theorem dX12_fitting_87 : decode cX12_fitting 87 = .ok (.iload_n 2, 1) := by decide +kernel
theorem dX12_fitting_88 : decode cX12_fitting 88 = .ok (.ishl, 1) := by decide +kernel
theorem dX12_fitting_89 : decode cX12_fitting 89 = .ok (.goto 4, 3) := by decide +kernel
theorem dX12_fitting_92 : decode cX12_fitting 92 = .ok (.iconst 0, 1) := by decide +kernel
theorem dX12_fitting_93 : decode cX12_fitting 93 = .ok (.ior, 1) := by decide +kernel
theorem dX12_fitting_94 : decode cX12_fitting 94 = .ok (.istore_n 1, 1) := by decide +kernel
theorem dX12_fitting_95 : decode cX12_fitting 95 = .ok (.iinc 2 1, 3) := by decide +kernel
theorem dX12_fitting_98 : decode cX12_fitting 98 = .ok (.goto (-94), 3) := by decide +kernel
theorem dX12_fitting_101 : decode cX12_fitting 101 = .ok (.iload_n 1, 1) := by decide +kernel
theorem dX12_fitting_102 : decode cX12_fitting 102 = .ok (.ireturn, 1) := by decide +kernel
set_option maxRecDepth 20000 in
theorem ggX12_mostAlike_X12_isOf : GoodIn wsX12_mostAlike wsX12_isOf := goodIn_r _ [4] (by decide +kernel) (by decide +kernel)
set_option maxRecDepth 20000 in
theorem gX12_mostAlike_X12_isOf : GoodIn wsX12_mostAlike (va_wsS RX12 304 yX12_isOf wsX12_isOf) := goodIn_app (goodIn_of _ (by decide +kernel)) ggX12_mostAlike_X12_isOf
set_option maxRecDepth 20000 in
theorem ggX12_mostAlike_X12_streetOf : GoodIn wsX12_mostAlike wsX12_streetOf := goodIn_r _ [8, 9, 10, 11, 12, 13, 14, 15, 16, 17, 18, 19, 20, 21, 22, 23, 24, 25, 26, 27, 28, 29, 30, 31, 32, 33, 34, 35, 36, 37, 38, 39, 40, 41, 42, 43, 44, 45, 46, 47, 48, 49, 50, 51] (by decide +kernel) (by decide +kernel)
set_option maxRecDepth 20000 in
theorem gX12_mostAlike_X12_streetOf : GoodIn wsX12_mostAlike (wsV RX12 300 RX12 yX12_streetOf wsX12_streetOf) := goodIn_app (goodIn_of _ (by decide +kernel)) ggX12_mostAlike_X12_streetOf
theorem dX12_mostAlike_0 : decode cX12_mostAlike 0 = .ok (.iconst 0, 1) := by decide +kernel
theorem dX12_mostAlike_1 : decode cX12_mostAlike 1 = .ok (.istore_n 3, 1) := by decide +kernel
theorem dX12_mostAlike_2 : decode cX12_mostAlike 2 = .ok (.iconst 0, 1) := by decide +kernel
theorem dX12_mostAlike_3 : decode cX12_mostAlike 3 = .ok (.istore 4, 2) := by decide +kernel
theorem dX12_mostAlike_5 : decode cX12_mostAlike 5 = .ok (.iload 4, 2) := by decide +kernel
theorem dX12_mostAlike_7 : decode cX12_mostAlike 7 = .ok (.iconst 4, 1) := by decide +kernel
theorem dX12_mostAlike_8 : decode cX12_mostAlike 8 = .ok (.if_icmp .ge 74, 3) := by decide +kernel
theorem dX12_mostAlike_11 : decode cX12_mostAlike 11 = .ok (.iconst 0, 1) := by decide +kernel
theorem dX12_mostAlike_12 : decode cX12_mostAlike 12 = .ok (.istore 5, 2) := by decide +kernel
theorem dX12_mostAlike_14 : decode cX12_mostAlike 14 = .ok (.iconst 0, 1) := by decide +kernel
theorem dX12_mostAlike_15 : decode cX12_mostAlike 15 = .ok (.istore 6, 2) := by decide +kernel
theorem dX12_mostAlike_17 : decode cX12_mostAlike 17 = .ok (.iload 6, 2) := by decide +kernel
theorem dX12_mostAlike_19 : decode cX12_mostAlike 19 = .ok (.bipush 7, 2) := by decide +kernel
theorem dX12_mostAlike_21 : decode cX12_mostAlike 21 = .ok (.if_icmp .ge 42, 3) := by decide +kernel
theorem dX12_mostAlike_24 : decode cX12_mostAlike 24 = .ok (.iload 5, 2) := by decide +kernel
theorem dX12_mostAlike_26 : decode cX12_mostAlike 26 = .ok (.iload_n 2, 1) := by decide +kernel
theorem dX12_mostAlike_27 : decode cX12_mostAlike 27 = .ok (.iload 6, 2) := by decide +kernel
theorem dX12_mostAlike_29 : decode cX12_mostAlike 29 = .ok (.invokestatic 304, 3) := by decide +kernel
theorem dX12_mostAlike_32 : decode cX12_mostAlike 32 = .ok (.ifCond .eq 21, 3) := by decide +kernel
theorem dX12_mostAlike_35 : decode cX12_mostAlike 35 = .ok (.aload_n 0, 1) := by decide +kernel
theorem dX12_mostAlike_36 : decode cX12_mostAlike 36 = .ok (.iload_n 1, 1) := by decide +kernel
theorem dX12_mostAlike_37 : decode cX12_mostAlike 37 = .ok (.iconst 3, 1) := by decide +kernel
theorem dX12_mostAlike_38 : decode cX12_mostAlike 38 = .ok (.iload 6, 2) := by decide +kernel
theorem dX12_mostAlike_40 : decode cX12_mostAlike 40 = .ok (.iadd, 1) := by decide +kernel
theorem dX12_mostAlike_41 : decode cX12_mostAlike 41 = .ok (.invokevirtual 300, 3) := by decide +kernel
theorem dX12_mostAlike_44 : decode cX12_mostAlike 44 = .ok (.iload 4, 2) := by decide +kernel
theorem dX12_mostAlike_46 : decode cX12_mostAlike 46 = .ok (.if_icmp .ne 7, 3) := by decide +kernel
theorem dX12_mostAlike_49 : decode cX12_mostAlike 49 = .ok (.iconst 1, 1) := by decide +kernel
theorem dX12_mostAlike_50 : decode cX12_mostAlike 50 = .ok (.goto 4, 3) := by decide +kernel
theorem dX12_mostAlike_53 : decode cX12_mostAlike 53 = .ok (.iconst 0, 1) := by decide +kernel
theorem dX12_mostAlike_54 : decode cX12_mostAlike 54 = .ok (.iadd, 1) := by decide +kernel
theorem dX12_mostAlike_55 : decode cX12_mostAlike 55 = .ok (.istore 5, 2) := by decide +kernel
theorem dX12_mostAlike_57 : decode cX12_mostAlike 57 = .ok (.iinc 6 1, 3) := by decide +kernel
theorem dX12_mostAlike_60 : decode cX12_mostAlike 60 = .ok (.goto (-43), 3) := by decide +kernel
theorem dX12_mostAlike_63 : decode cX12_mostAlike 63 = .ok (.iload 5, 2) := by decide +kernel
theorem dX12_mostAlike_65 : decode cX12_mostAlike 65 = .ok (.iload_n 3, 1) := by decide +kernel
theorem dX12_mostAlike_66 : decode cX12_mostAlike 66 = .ok (.if_icmp .le 8, 3) := by decide +kernel
theorem dX12_mostAlike_69 : decode cX12_mostAlike 69 = .ok (.iload 5, 2) := by decide +kernel
theorem dX12_mostAlike_71 : decode cX12_mostAlike 71 = .ok (.goto 4, 3) := by decide +kernel
theorem dX12_mostAlike_74 : decode cX12_mostAlike 74 = .ok (.iload_n 3, 1) := by decide +kernel
theorem dX12_mostAlike_75 : decode cX12_mostAlike 75 = .ok (.istore_n 3, 1) := by decide +kernel
theorem dX12_mostAlike_76 : decode cX12_mostAlike 76 = .ok (.iinc 4 1, 3) := by decide +kernel
theorem dX12_mostAlike_79 : decode cX12_mostAlike 79 = .ok (.goto (-74), 3) := by decide +kernel
theorem dX12_mostAlike_82 : decode cX12_mostAlike 82 = .ok (.iload_n 3, 1) := by decide +kernel
theorem dX12_mostAlike_83 : decode cX12_mostAlike 83 = .ok (.ireturn, 1) := by decide +kernel
set_option maxRecDepth 20000 in
theorem ggX12_weekdays_X12_isTown : GoodIn wsX12_weekdays wsX12_isTown := goodIn_r _ [6, 1, 25, 26, 27, 28, 29, 30, 31, 32, 33, 34, 35, 36, 37, 38, 39, 40, 41, 42, 43, 44, 45, 46, 47, 48, 49, 50, 51, 52, 53, 54, 55, 56, 57, 58, 59, 60, 61, 62, 63, 64, 65, 66] (by decide +kernel) (by decide +kernel)
set_option maxRecDepth 20000 in
theorem gX12_weekdays_X12_isTown : GoodIn wsX12_weekdays (wsV RX12 337 RX12 yX12_isTown wsX12_isTown) := goodIn_app (goodIn_of _ (by decide +kernel)) ggX12_weekdays_X12_isTown
set_option maxRecDepth 20000 in
theorem ggX12_weekdays_X12_in : GoodIn wsX12_weekdays wsX12_in := goodIn_r _ [9] (by decide +kernel) (by decide +kernel)
set_option maxRecDepth 20000 in
theorem gX12_weekdays_X12_in : GoodIn wsX12_weekdays (va_wsS RX12 122 yX12_in wsX12_in) := goodIn_app (goodIn_of _ (by decide +kernel)) ggX12_weekdays_X12_in
set_option maxRecDepth 20000 in
theorem ggX12_weekdays_X12_fitting : GoodIn wsX12_weekdays wsX12_fitting := goodIn_r _ [13, 1, 14, 15, 16, 5, 17, 25, 26, 27, 28, 29, 30, 31, 32, 33, 34, 35, 36, 37, 38, 39, 40, 41, 42, 43, 44, 45, 46, 47, 48, 49, 50, 51, 52, 53, 54, 55, 56, 57, 58, 59, 60, 61, 62, 63, 64, 65, 66] (by decide +kernel) (by decide +kernel)
set_option maxRecDepth 20000 in
theorem gX12_weekdays_X12_fitting : GoodIn wsX12_weekdays (wsV RX12 481 RX12 yX12_fitting wsX12_fitting) := goodIn_app (goodIn_of _ (by decide +kernel)) ggX12_weekdays_X12_fitting
set_option maxRecDepth 20000 in
theorem ggX12_weekdays_X12_mostAlike : GoodIn wsX12_weekdays wsX12_mostAlike := goodIn_r _ [21, 22, 23, 5, 24, 14, 15, 16, 17, 1, 25, 26, 27, 28, 29, 30, 31, 32, 33, 34, 35, 36, 37, 38, 39, 40, 41, 42, 43, 44, 45, 46, 47, 48, 49, 50, 51, 52, 53, 54, 55, 56, 57, 58, 59, 60, 61, 62, 63, 64, 65, 66] (by decide +kernel) (by decide +kernel)
set_option maxRecDepth 20000 in
theorem gX12_weekdays_X12_mostAlike : GoodIn wsX12_weekdays (wsV RX12 484 RX12 yX12_mostAlike wsX12_mostAlike) := goodIn_app (goodIn_of _ (by decide +kernel)) ggX12_weekdays_X12_mostAlike
theorem dX12_weekdays_0 : decode cX12_weekdays 0 = .ok (.aload_n 0, 1) := by decide +kernel
theorem dX12_weekdays_1 : decode cX12_weekdays 1 = .ok (.invokevirtual 337, 3) := by decide +kernel
theorem dX12_weekdays_4 : decode cX12_weekdays 4 = .ok (.ifCond .eq 13, 3) := by decide +kernel
theorem dX12_weekdays_7 : decode cX12_weekdays 7 = .ok (.iload_n 1, 1) := by decide +kernel
theorem dX12_weekdays_8 : decode cX12_weekdays 8 = .ok (.i2l, 1) := by decide +kernel
theorem dX12_weekdays_9 : decode cX12_weekdays 9 = .ok (.lconst 0, 1) := by decide +kernel
theorem dX12_weekdays_10 : decode cX12_weekdays 10 = .ok (.lconst 1, 1) := by decide +kernel
theorem dX12_weekdays_11 : decode cX12_weekdays 11 = .ok (.invokestatic 122, 3) := by decide +kernel
theorem dX12_weekdays_14 : decode cX12_weekdays 14 = .ok (.ifCond .ne 5, 3) := by decide +kernel
theorem dX12_weekdays_17 : decode cX12_weekdays 17 = .ok (.iconst (-1), 1) := by decide +kernel
theorem dX12_weekdays_18 : decode cX12_weekdays 18 = .ok (.ireturn, 1) := by decide +kernel
theorem dX12_weekdays_19 : decode cX12_weekdays 19 = .ok (.aload_n 0, 1) := by decide +kernel
theorem dX12_weekdays_20 : decode cX12_weekdays 20 = .ok (.invokevirtual 481, 3) := by decide +kernel
theorem dX12_weekdays_23 : decode cX12_weekdays 23 = .ok (.istore_n 2, 1) := by decide +kernel
theorem dX12_weekdays_24 : decode cX12_weekdays 24 = .ok (.iload_n 1, 1) := by decide +kernel
theorem dX12_weekdays_25 : decode cX12_weekdays 25 = .ok (.ifCond .ne 5, 3) := by decide +kernel
theorem dX12_weekdays_28 : decode cX12_weekdays 28 = .ok (.iload_n 2, 1) := by decide +kernel
theorem dX12_weekdays_29 : decode cX12_weekdays 29 = .ok (.ireturn, 1) := by decide +kernel
theorem dX12_weekdays_30 : decode cX12_weekdays 30 = .ok (.iload_n 2, 1) := by decide +kernel
theorem dX12_weekdays_31 : decode cX12_weekdays 31 = .ok (.ifCond .eq 12, 3) := by decide +kernel
theorem dX12_weekdays_34 : decode cX12_weekdays 34 = .ok (.aload_n 0, 1) := by decide +kernel
theorem dX12_weekdays_35 : decode cX12_weekdays 35 = .ok (.getfield 45, 3) := by decide +kernel
theorem dX12_weekdays_38 : decode cX12_weekdays 38 = .ok (.iconst 1, 1) := by decide +kernel
theorem dX12_weekdays_39 : decode cX12_weekdays 39 = .ok (.iaload, 1) := by decide +kernel
theorem dX12_weekdays_40 : decode cX12_weekdays 40 = .ok (.ifCond .ne 6, 3) := by decide +kernel
theorem dX12_weekdays_43 : decode cX12_weekdays 43 = .ok (.bipush (-2), 2) := by decide +kernel
theorem dX12_weekdays_45 : decode cX12_weekdays 45 = .ok (.ireturn, 1) := by decide +kernel
theorem dX12_weekdays_46 : decode cX12_weekdays 46 = .ok (.iconst 0, 1) := by decide +kernel
theorem dX12_weekdays_47 : decode cX12_weekdays 47 = .ok (.istore_n 3, 1) := by decide +kernel
theorem dX12_weekdays_48 : decode cX12_weekdays 48 = .ok (.iconst 1, 1) := by decide +kernel
theorem dX12_weekdays_49 : decode cX12_weekdays 49 = .ok (.istore 4, 2) := by decide +kernel
theorem dX12_weekdays_51 : decode cX12_weekdays 51 = .ok (.iload 4, 2) := by decide +kernel
theorem dX12_weekdays_53 : decode cX12_weekdays 53 = .ok (.aload_n 0, 1) := by decide +kernel
theorem dX12_weekdays_54 : decode cX12_weekdays 54 = .ok (.getfield 45, 3) := by decide +kernel
theorem dX12_weekdays_57 : decode cX12_weekdays 57 = .ok (.iconst 1, 1) := by decide +kernel
theorem dX12_weekdays_58 : decode cX12_weekdays 58 = .ok (.iaload, 1) := by decide +kernel
theorem dX12_weekdays_59 : decode cX12_weekdays 59 = .ok (.if_icmp .ge 32, 3) := by decide +kernel
theorem dX12_weekdays_62 : decode cX12_weekdays 62 = .ok (.aload_n 0, 1) := by decide +kernel
theorem dX12_weekdays_63 : decode cX12_weekdays 63 = .ok (.iload 4, 2) := by decide +kernel
theorem dX12_weekdays_65 : decode cX12_weekdays 65 = .ok (.iload_n 2, 1) := by decide +kernel
theorem dX12_weekdays_66 : decode cX12_weekdays 66 = .ok (.invokevirtual 484, 3) := by decide +kernel
theorem dX12_weekdays_69 : decode cX12_weekdays 69 = .ok (.aload_n 0, 1) := by decide +kernel
theorem dX12_weekdays_70 : decode cX12_weekdays 70 = .ok (.iload_n 3, 1) := by decide +kernel
theorem dX12_weekdays_71 : decode cX12_weekdays 71 = .ok (.iload_n 2, 1) := by decide +kernel
theorem dX12_weekdays_72 : decode cX12_weekdays 72 = .ok (.invokevirtual 484, 3) := by decide +kernel
theorem dX12_weekdays_75 : decode cX12_weekdays 75 = .ok (.if_icmp .ge 8, 3) := by decide +kernel
theorem dX12_weekdays_78 : decode cX12_weekdays 78 = .ok (.iload 4, 2) := by decide +kernel
theorem dX12_weekdays_80 : decode cX12_weekdays 80 = .ok (.goto 4, 3) := by decide +kernel
theorem dX12_weekdays_83 : decode cX12_weekdays 83 = .ok (.iload_n 3, 1) := by decide +kernel
theorem dX12_weekdays_84 : decode cX12_weekdays 84 = .ok (.istore_n 3, 1) := by decide +kernel
theorem dX12_weekdays_85 : decode cX12_weekdays 85 = .ok (.iinc 4 1, 3) := by decide +kernel
theorem dX12_weekdays_88 : decode cX12_weekdays 88 = .ok (.goto (-37), 3) := by decide +kernel
theorem dX12_weekdays_91 : decode cX12_weekdays 91 = .ok (.iload_n 3, 1) := by decide +kernel
theorem dX12_weekdays_92 : decode cX12_weekdays 92 = .ok (.ireturn, 1) := by decide +kernel
set_option maxRecDepth 20000 in
theorem ggX12_came_X12_isCorner : GoodIn wsX12_came wsX12_isCorner := goodIn_r _ [6, 1, 7, 8, 9, 10, 11, 12, 13, 14, 15, 16, 17, 18, 19, 20, 21, 22, 23, 24, 25, 26, 27, 28, 29, 30, 31, 32, 33, 34, 35, 36, 37, 38, 39, 40, 41, 42, 43, 44, 45, 46, 47, 48] (by decide +kernel) (by decide +kernel)
set_option maxRecDepth 20000 in
theorem gX12_came_X12_isCorner : GoodIn wsX12_came (wsV RX12 328 RX12 yX12_isCorner wsX12_isCorner) := goodIn_app (goodIn_of _ (by decide +kernel)) ggX12_came_X12_isCorner
theorem dX12_came_0 : decode cX12_came 0 = .ok (.iload_n 1, 1) := by decide +kernel
theorem dX12_came_1 : decode cX12_came 1 = .ok (.iconst (-1), 1) := by decide +kernel
theorem dX12_came_2 : decode cX12_came 2 = .ok (.if_icmp .ne 13, 3) := by decide +kernel
theorem dX12_came_5 : decode cX12_came 5 = .ok (.aload_n 0, 1) := by decide +kernel
theorem dX12_came_6 : decode cX12_came 6 = .ok (.getfield 45, 3) := by decide +kernel
theorem dX12_came_9 : decode cX12_came 9 = .ok (.bipush 8, 2) := by decide +kernel
theorem dX12_came_11 : decode cX12_came 11 = .ok (.iconst 0, 1) := by decide +kernel
theorem dX12_came_12 : decode cX12_came 12 = .ok (.iastore, 1) := by decide +kernel
theorem dX12_came_13 : decode cX12_came 13 = .ok (.iconst 0, 1) := by decide +kernel
theorem dX12_came_14 : decode cX12_came 14 = .ok (.ireturn, 1) := by decide +kernel
theorem dX12_came_15 : decode cX12_came 15 = .ok (.aload_n 0, 1) := by decide +kernel
theorem dX12_came_16 : decode cX12_came 16 = .ok (.iload_n 1, 1) := by decide +kernel
theorem dX12_came_17 : decode cX12_came 17 = .ok (.invokevirtual 328, 3) := by decide +kernel
theorem dX12_came_20 : decode cX12_came 20 = .ok (.ifCond .eq 15, 3) := by decide +kernel
theorem dX12_came_23 : decode cX12_came 23 = .ok (.aload_n 0, 1) := by decide +kernel
theorem dX12_came_24 : decode cX12_came 24 = .ok (.getfield 45, 3) := by decide +kernel
theorem dX12_came_27 : decode cX12_came 27 = .ok (.bipush 8, 2) := by decide +kernel
theorem dX12_came_29 : decode cX12_came 29 = .ok (.iaload, 1) := by decide +kernel
theorem dX12_came_30 : decode cX12_came 30 = .ok (.bipush 8, 2) := by decide +kernel
theorem dX12_came_32 : decode cX12_came 32 = .ok (.if_icmp .ne 6, 3) := by decide +kernel
theorem dX12_came_35 : decode cX12_came 35 = .ok (.bipush (-2), 2) := by decide +kernel
theorem dX12_came_37 : decode cX12_came 37 = .ok (.ireturn, 1) := by decide +kernel
theorem dX12_came_38 : decode cX12_came 38 = .ok (.aload_n 0, 1) := by decide +kernel
theorem dX12_came_39 : decode cX12_came 39 = .ok (.getfield 45, 3) := by decide +kernel
theorem dX12_came_42 : decode cX12_came 42 = .ok (.sipush 288, 3) := by decide +kernel
theorem dX12_came_45 : decode cX12_came 45 = .ok (.aload_n 0, 1) := by decide +kernel
theorem dX12_came_46 : decode cX12_came 46 = .ok (.getfield 45, 3) := by decide +kernel
theorem dX12_came_49 : decode cX12_came 49 = .ok (.bipush 8, 2) := by decide +kernel
theorem dX12_came_51 : decode cX12_came 51 = .ok (.iaload, 1) := by decide +kernel
theorem dX12_came_52 : decode cX12_came 52 = .ok (.iadd, 1) := by decide +kernel
theorem dX12_came_53 : decode cX12_came 53 = .ok (.iload_n 1, 1) := by decide +kernel
theorem dX12_came_54 : decode cX12_came 54 = .ok (.iastore, 1) := by decide +kernel
theorem dX12_came_55 : decode cX12_came 55 = .ok (.aload_n 0, 1) := by decide +kernel
theorem dX12_came_56 : decode cX12_came 56 = .ok (.getfield 45, 3) := by decide +kernel
theorem dX12_came_59 : decode cX12_came 59 = .ok (.bipush 8, 2) := by decide +kernel
theorem dX12_came_61 : decode cX12_came 61 = .ok (.dup2, 1) := by decide +kernel
theorem dX12_came_62 : decode cX12_came 62 = .ok (.iaload, 1) := by decide +kernel
theorem dX12_came_63 : decode cX12_came 63 = .ok (.iconst 1, 1) := by decide +kernel
theorem dX12_came_64 : decode cX12_came 64 = .ok (.iadd, 1) := by decide +kernel
theorem dX12_came_65 : decode cX12_came 65 = .ok (.iastore, 1) := by decide +kernel
theorem dX12_came_66 : decode cX12_came 66 = .ok (.aload_n 0, 1) := by decide +kernel
theorem dX12_came_67 : decode cX12_came 67 = .ok (.getfield 45, 3) := by decide +kernel
theorem dX12_came_70 : decode cX12_came 70 = .ok (.bipush 8, 2) := by decide +kernel
theorem dX12_came_72 : decode cX12_came 72 = .ok (.iaload, 1) := by decide +kernel
theorem dX12_came_73 : decode cX12_came 73 = .ok (.ireturn, 1) := by decide +kernel
set_option maxRecDepth 20000 in
theorem ggX12_sumOf_X12_reaches : GoodIn wsX12_sumOf wsX12_reaches := goodIn_r _ [7, 8, 2, 9, 1, 10, 11, 12, 6, 13, 14, 15, 16, 17, 18, 19, 20, 21, 22, 23, 24, 25, 26, 27, 28, 29, 30, 31, 32, 33, 34, 35, 36, 37, 38, 39, 40, 41, 42, 43, 44, 45, 46, 47, 48, 49, 50, 51, 52, 53, 54, 55, 56, 57, 58, 59, 60, 61, 62, 63, 64, 65, 66, 67, 68, 69, 70, 71, 72, 73, 74, 75, 76, 77, 78, 79, 80, 81, 82, 83, 84, 85, 86, 87] (by decide +kernel) (by decide +kernel)
set_option maxRecDepth 20000 in
theorem gX12_sumOf_X12_reaches : GoodIn wsX12_sumOf (wsV RX12 456 RX12 yX12_reaches wsX12_reaches) := goodIn_app (goodIn_of _ (by decide +kernel)) ggX12_sumOf_X12_reaches
theorem dX12_sumOf_0 : decode cX12_sumOf 0 = .ok (.iconst 0, 1) := by decide +kernel
theorem dX12_sumOf_1 : decode cX12_sumOf 1 = .ok (.istore_n 2, 1) := by decide +kernel
theorem dX12_sumOf_2 : decode cX12_sumOf 2 = .ok (.iconst 0, 1) := by decide +kernel
theorem dX12_sumOf_3 : decode cX12_sumOf 3 = .ok (.istore_n 3, 1) := by decide +kernel
theorem dX12_sumOf_4 : decode cX12_sumOf 4 = .ok (.iload_n 3, 1) := by decide +kernel
theorem dX12_sumOf_5 : decode cX12_sumOf 5 = .ok (.aload_n 0, 1) := by decide +kernel
theorem dX12_sumOf_6 : decode cX12_sumOf 6 = .ok (.getfield 45, 3) := by decide +kernel
theorem dX12_sumOf_9 : decode cX12_sumOf 9 = .ok (.bipush 6, 2) := by decide +kernel
theorem dX12_sumOf_11 : decode cX12_sumOf 11 = .ok (.iaload, 1) := by decide +kernel
theorem dX12_sumOf_12 : decode cX12_sumOf 12 = .ok (.if_icmp .ge 68, 3) := by decide +kernel
theorem dX12_sumOf_15 : decode cX12_sumOf 15 = .ok (.aload_n 0, 1) := by decide +kernel
theorem dX12_sumOf_16 : decode cX12_sumOf 16 = .ok (.aload_n 0, 1) := by decide +kernel
theorem dX12_sumOf_17 : decode cX12_sumOf 17 = .ok (.getfield 45, 3) := by decide +kernel
theorem dX12_sumOf_20 : decode cX12_sumOf 20 = .ok (.sipush 252, 3) := by decide +kernel
theorem dX12_sumOf_23 : decode cX12_sumOf 23 = .ok (.iconst 2, 1) := by decide +kernel
theorem dX12_sumOf_24 : decode cX12_sumOf 24 = .ok (.iload_n 3, 1) := by decide +kernel
theorem dX12_sumOf_25 : decode cX12_sumOf 25 = .ok (.imul, 1) := by decide +kernel
theorem dX12_sumOf_26 : decode cX12_sumOf 26 = .ok (.iadd, 1) := by decide +kernel
theorem dX12_sumOf_27 : decode cX12_sumOf 27 = .ok (.iaload, 1) := by decide +kernel
theorem dX12_sumOf_28 : decode cX12_sumOf 28 = .ok (.aload_n 0, 1) := by decide +kernel
theorem dX12_sumOf_29 : decode cX12_sumOf 29 = .ok (.getfield 45, 3) := by decide +kernel
theorem dX12_sumOf_32 : decode cX12_sumOf 32 = .ok (.sipush 252, 3) := by decide +kernel
theorem dX12_sumOf_35 : decode cX12_sumOf 35 = .ok (.iconst 2, 1) := by decide +kernel
theorem dX12_sumOf_36 : decode cX12_sumOf 36 = .ok (.iload_n 3, 1) := by decide +kernel
theorem dX12_sumOf_37 : decode cX12_sumOf 37 = .ok (.imul, 1) := by decide +kernel
theorem dX12_sumOf_38 : decode cX12_sumOf 38 = .ok (.iadd, 1) := by decide +kernel
theorem dX12_sumOf_39 : decode cX12_sumOf 39 = .ok (.iconst 1, 1) := by decide +kernel
theorem dX12_sumOf_40 : decode cX12_sumOf 40 = .ok (.iadd, 1) := by decide +kernel
theorem dX12_sumOf_41 : decode cX12_sumOf 41 = .ok (.iaload, 1) := by decide +kernel
theorem dX12_sumOf_42 : decode cX12_sumOf 42 = .ok (.iload_n 1, 1) := by decide +kernel
theorem dX12_sumOf_43 : decode cX12_sumOf 43 = .ok (.iload_n 1, 1) := by decide +kernel
theorem dX12_sumOf_44 : decode cX12_sumOf 44 = .ok (.sipush 2000, 3) := by decide +kernel
theorem dX12_sumOf_47 : decode cX12_sumOf 47 = .ok (.iadd, 1) := by decide +kernel
theorem dX12_sumOf_48 : decode cX12_sumOf 48 = .ok (.invokevirtual 456, 3) := by decide +kernel
theorem dX12_sumOf_51 : decode cX12_sumOf 51 = .ok (.istore 4, 2) := by decide +kernel
theorem dX12_sumOf_53 : decode cX12_sumOf 53 = .ok (.iload_n 2, 1) := by decide +kernel
theorem dX12_sumOf_54 : decode cX12_sumOf 54 = .ok (.iload 4, 2) := by decide +kernel
theorem dX12_sumOf_56 : decode cX12_sumOf 56 = .ok (.ldc_w 347, 3) := by decide +kernel
theorem dX12_sumOf_59 : decode cX12_sumOf 59 = .ok (.if_icmp .ne 9, 3) := by decide +kernel
theorem dX12_sumOf_62 : decode cX12_sumOf 62 = .ok (.sipush 2001, 3) := by decide +kernel
theorem dX12_sumOf_65 : decode cX12_sumOf 65 = .ok (.goto 7, 3) := by decide +kernel
theorem dX12_sumOf_68 : decode cX12_sumOf 68 = .ok (.iload 4, 2) := by decide +kernel
theorem dX12_sumOf_70 : decode cX12_sumOf 70 = .ok (.iload_n 1, 1) := by decide +kernel
theorem dX12_sumOf_71 : decode cX12_sumOf 71 = .ok (.isub, 1) := by decide +kernel
theorem dX12_sumOf_72 : decode cX12_sumOf 72 = .ok (.iadd, 1) := by decide +kernel
theorem dX12_sumOf_73 : decode cX12_sumOf 73 = .ok (.istore_n 2, 1) := by decide +kernel
theorem dX12_sumOf_74 : decode cX12_sumOf 74 = .ok (.iinc 3 1, 3) := by decide +kernel
theorem dX12_sumOf_77 : decode cX12_sumOf 77 = .ok (.goto (-73), 3) := by decide +kernel
theorem dX12_sumOf_80 : decode cX12_sumOf 80 = .ok (.iload_n 2, 1) := by decide +kernel
theorem dX12_sumOf_81 : decode cX12_sumOf 81 = .ok (.ireturn, 1) := by decide +kernel
set_option maxRecDepth 20000 in
theorem ggX12_built_X12_isTown : GoodIn wsX12_built wsX12_isTown := goodIn_r _ [8, 3, 63, 64, 65, 66, 67, 68, 69, 70, 71, 72, 73, 74, 75, 76, 77, 78, 79, 80, 81, 82, 83, 84, 85, 86, 87, 88, 89, 90, 91, 92, 93, 94, 95, 96, 97, 98, 99, 100, 101, 102, 103, 104] (by decide +kernel) (by decide +kernel)
set_option maxRecDepth 20000 in
theorem gX12_built_X12_isTown : GoodIn wsX12_built (wsV RX12 337 RX12 yX12_isTown wsX12_isTown) := goodIn_app (goodIn_of _ (by decide +kernel)) ggX12_built_X12_isTown
set_option maxRecDepth 20000 in
theorem ggX12_built_X12_in : GoodIn wsX12_built wsX12_in := goodIn_r _ [11] (by decide +kernel) (by decide +kernel)
set_option maxRecDepth 20000 in
theorem gX12_built_X12_in : GoodIn wsX12_built (va_wsS RX12 122 yX12_in wsX12_in) := goodIn_app (goodIn_of _ (by decide +kernel)) ggX12_built_X12_in
set_option maxRecDepth 20000 in
theorem ggX12_built_X12_isHour : GoodIn wsX12_built wsX12_isHour := goodIn_r _ [14, 15] (by decide +kernel) (by decide +kernel)
set_option maxRecDepth 20000 in
theorem gX12_built_X12_isHour : GoodIn wsX12_built (va_wsS RX12 331 yX12_isHour wsX12_isHour) := goodIn_app (goodIn_of _ (by decide +kernel)) ggX12_built_X12_isHour
set_option maxRecDepth 20000 in
theorem ggX12_built_X12_sumOf : GoodIn wsX12_built wsX12_sumOf := goodIn_r _ [19, 3, 20, 21, 22, 23, 7, 24, 25, 26, 27, 28, 29, 30, 31, 32, 33, 34, 35, 36, 37, 38, 39, 40, 41, 42, 43, 44, 45, 46, 47, 48, 49, 50, 51, 52, 53, 54, 55, 56, 57, 58, 59, 60, 61, 62, 63, 64, 65, 66, 67, 68, 69, 70, 71, 72, 73, 74, 75, 76, 77, 78, 79, 80, 81, 82, 83, 84, 85, 86, 87, 88, 89, 90, 91, 92, 93, 94, 95, 96, 97, 98, 99, 100, 101, 102, 103, 104] (by decide +kernel) (by decide +kernel)
set_option maxRecDepth 20000 in
theorem gX12_built_X12_sumOf : GoodIn wsX12_built (wsV RX12 490 RX12 yX12_sumOf wsX12_sumOf) := goodIn_app (goodIn_of _ (by decide +kernel)) ggX12_built_X12_sumOf
theorem dX12_built_0 : decode cX12_built 0 = .ok (.aload_n 0, 1) := by decide +kernel
theorem dX12_built_1 : decode cX12_built 1 = .ok (.invokevirtual 337, 3) := by decide +kernel
theorem dX12_built_4 : decode cX12_built 4 = .ok (.ifCond .eq 34, 3) := by decide +kernel
theorem dX12_built_7 : decode cX12_built 7 = .ok (.iload_n 1, 1) := by decide +kernel
theorem dX12_built_8 : decode cX12_built 8 = .ok (.i2l, 1) := by decide +kernel
theorem dX12_built_9 : decode cX12_built 9 = .ok (.lconst 1, 1) := by decide +kernel
theorem dX12_built_10 : decode cX12_built 10 = .ok (.ldc2_w 326, 3) := by decide +kernel
theorem dX12_built_13 : decode cX12_built 13 = .ok (.invokestatic 122, 3) := by decide +kernel
theorem dX12_built_16 : decode cX12_built 16 = .ok (.ifCond .eq 22, 3) := by decide +kernel
theorem dX12_built_19 : decode cX12_built 19 = .ok (.iload_n 2, 1) := by decide +kernel
theorem dX12_built_20 : decode cX12_built 20 = .ok (.invokestatic 331, 3) := by decide +kernel
theorem dX12_built_23 : decode cX12_built 23 = .ok (.ifCond .eq 15, 3) := by decide +kernel
theorem dX12_built_26 : decode cX12_built 26 = .ok (.iload_n 3, 1) := by decide +kernel
theorem dX12_built_27 : decode cX12_built 27 = .ok (.i2l, 1) := by decide +kernel
theorem dX12_built_28 : decode cX12_built 28 = .ok (.lconst 0, 1) := by decide +kernel
theorem dX12_built_29 : decode cX12_built 29 = .ok (.ldc2_w 424, 3) := by decide +kernel
theorem dX12_built_32 : decode cX12_built 32 = .ok (.invokestatic 122, 3) := by decide +kernel
theorem dX12_built_35 : decode cX12_built 35 = .ok (.ifCond .ne 5, 3) := by decide +kernel
theorem dX12_built_38 : decode cX12_built 38 = .ok (.iconst (-1), 1) := by decide +kernel
theorem dX12_built_39 : decode cX12_built 39 = .ok (.ireturn, 1) := by decide +kernel
theorem dX12_built_40 : decode cX12_built 40 = .ok (.bipush 10, 2) := by decide +kernel
theorem dX12_built_42 : decode cX12_built 42 = .ok (.bipush 10, 2) := by decide +kernel
theorem dX12_built_44 : decode cX12_built 44 = .ok (.aload_n 0, 1) := by decide +kernel
theorem dX12_built_45 : decode cX12_built 45 = .ok (.getfield 45, 3) := by decide +kernel
theorem dX12_built_48 : decode cX12_built 48 = .ok (.iconst 1, 1) := by decide +kernel
theorem dX12_built_49 : decode cX12_built 49 = .ok (.iaload, 1) := by decide +kernel
theorem dX12_built_50 : decode cX12_built 50 = .ok (.imul, 1) := by decide +kernel
theorem dX12_built_51 : decode cX12_built 51 = .ok (.iadd, 1) := by decide +kernel
theorem dX12_built_52 : decode cX12_built 52 = .ok (.istore 4, 2) := by decide +kernel
theorem dX12_built_54 : decode cX12_built 54 = .ok (.aload_n 0, 1) := by decide +kernel
theorem dX12_built_55 : decode cX12_built 55 = .ok (.getfield 45, 3) := by decide +kernel
theorem dX12_built_58 : decode cX12_built 58 = .ok (.iconst 1, 1) := by decide +kernel
theorem dX12_built_59 : decode cX12_built 59 = .ok (.dup2, 1) := by decide +kernel
theorem dX12_built_60 : decode cX12_built 60 = .ok (.iaload, 1) := by decide +kernel
theorem dX12_built_61 : decode cX12_built 61 = .ok (.iconst 1, 1) := by decide +kernel
theorem dX12_built_62 : decode cX12_built 62 = .ok (.iadd, 1) := by decide +kernel
theorem dX12_built_63 : decode cX12_built 63 = .ok (.iastore, 1) := by decide +kernel
theorem dX12_built_64 : decode cX12_built 64 = .ok (.iconst (-1), 1) := by decide +kernel
theorem dX12_built_65 : decode cX12_built 65 = .ok (.istore 5, 2) := by decide +kernel
theorem dX12_built_67 : decode cX12_built 67 = .ok (.iconst (-1), 1) := by decide +kernel
theorem dX12_built_68 : decode cX12_built 68 = .ok (.istore 6, 2) := by decide +kernel
theorem dX12_built_70 : decode cX12_built 70 = .ok (.iconst 0, 1) := by decide +kernel
theorem dX12_built_71 : decode cX12_built 71 = .ok (.istore 7, 2) := by decide +kernel
theorem dX12_built_73 : decode cX12_built 73 = .ok (.iconst 0, 1) := by decide +kernel
theorem dX12_built_74 : decode cX12_built 74 = .ok (.istore 8, 2) := by decide +kernel
theorem dX12_built_76 : decode cX12_built 76 = .ok (.iload 8, 2) := by decide +kernel
theorem dX12_built_78 : decode cX12_built 78 = .ok (.aload_n 0, 1) := by decide +kernel
theorem dX12_built_79 : decode cX12_built 79 = .ok (.getfield 45, 3) := by decide +kernel
theorem dX12_built_82 : decode cX12_built 82 = .ok (.iconst 0, 1) := by decide +kernel
theorem dX12_built_83 : decode cX12_built 83 = .ok (.iaload, 1) := by decide +kernel
theorem dX12_built_84 : decode cX12_built 84 = .ok (.if_icmp .ge 125, 3) := by decide +kernel
theorem dX12_built_87 : decode cX12_built 87 = .ok (.iload 8, 2) := by decide +kernel
theorem dX12_built_89 : decode cX12_built 89 = .ok (.iconst 1, 1) := by decide +kernel
theorem dX12_built_90 : decode cX12_built 90 = .ok (.iadd, 1) := by decide +kernel
theorem dX12_built_91 : decode cX12_built 91 = .ok (.istore 9, 2) := by decide +kernel
theorem dX12_built_93 : decode cX12_built 93 = .ok (.iload 9, 2) := by decide +kernel
theorem dX12_built_95 : decode cX12_built 95 = .ok (.aload_n 0, 1) := by decide +kernel
theorem dX12_built_96 : decode cX12_built 96 = .ok (.getfield 45, 3) := by decide +kernel
theorem dX12_built_99 : decode cX12_built 99 = .ok (.iconst 0, 1) := by decide +kernel
theorem dX12_built_100 : decode cX12_built 100 = .ok (.iaload, 1) := by decide +kernel
theorem dX12_built_101 : decode cX12_built 101 = .ok (.if_icmp .ge 102, 3) := by decide +kernel
theorem dX12_built_104 : decode cX12_built 104 = .ok (.aload_n 0, 1) := by decide +kernel
theorem dX12_built_105 : decode cX12_built 105 = .ok (.getfield 45, 3) := by decide +kernel
theorem dX12_built_108 : decode cX12_built 108 = .ok (.iload 4, 2) := by decide +kernel
theorem dX12_built_110 : decode cX12_built 110 = .ok (.iload 8, 2) := by decide +kernel
theorem dX12_built_112 : decode cX12_built 112 = .ok (.iastore, 1) := by decide +kernel
theorem dX12_built_113 : decode cX12_built 113 = .ok (.aload_n 0, 1) := by decide +kernel
theorem dX12_built_114 : decode cX12_built 114 = .ok (.getfield 45, 3) := by decide +kernel
theorem dX12_built_117 : decode cX12_built 117 = .ok (.iload 4, 2) := by decide +kernel
theorem dX12_built_119 : decode cX12_built 119 = .ok (.iconst 1, 1) := by decide +kernel
theorem dX12_built_120 : decode cX12_built 120 = .ok (.iadd, 1) := by decide +kernel
theorem dX12_built_121 : decode cX12_built 121 = .ok (.iload 9, 2) := by decide +kernel
theorem dX12_built_123 : decode cX12_built 123 = .ok (.iastore, 1) := by decide +kernel
theorem dX12_built_124 : decode cX12_built 124 = .ok (.aload_n 0, 1) := by decide +kernel
theorem dX12_built_125 : decode cX12_built 125 = .ok (.getfield 45, 3) := by decide +kernel
theorem dX12_built_128 : decode cX12_built 128 = .ok (.iload 4, 2) := by decide +kernel
theorem dX12_built_130 : decode cX12_built 130 = .ok (.iconst 2, 1) := by decide +kernel
theorem dX12_built_131 : decode cX12_built 131 = .ok (.iadd, 1) := by decide +kernel
theorem dX12_built_132 : decode cX12_built 132 = .ok (.iload_n 1, 1) := by decide +kernel
theorem dX12_built_133 : decode cX12_built 133 = .ok (.iastore, 1) := by decide +kernel
theorem dX12_built_134 : decode cX12_built 134 = .ok (.iconst 0, 1) := by decide +kernel
theorem dX12_built_135 : decode cX12_built 135 = .ok (.istore 10, 2) := by decide +kernel
theorem dX12_built_137 : decode cX12_built 137 = .ok (.iload 10, 2) := by decide +kernel
theorem dX12_built_139 : decode cX12_built 139 = .ok (.bipush 7, 2) := by decide +kernel
theorem dX12_built_141 : decode cX12_built 141 = .ok (.if_icmp .ge 22, 3) := by decide +kernel
theorem dX12_built_144 : decode cX12_built 144 = .ok (.aload_n 0, 1) := by decide +kernel
theorem dX12_built_145 : decode cX12_built 145 = .ok (.getfield 45, 3) := by decide +kernel
theorem dX12_built_148 : decode cX12_built 148 = .ok (.iload 4, 2) := by decide +kernel
theorem dX12_built_150 : decode cX12_built 150 = .ok (.iconst 3, 1) := by decide +kernel
theorem dX12_built_151 : decode cX12_built 151 = .ok (.iadd, 1) := by decide +kernel
theorem dX12_built_152 : decode cX12_built 152 = .ok (.iload 10, 2) := by decide +kernel
theorem dX12_built_154 : decode cX12_built 154 = .ok (.iadd, 1) := by decide +kernel
theorem dX12_built_155 : decode cX12_built 155 = .ok (.iconst 3, 1) := by decide +kernel
theorem dX12_built_156 : decode cX12_built 156 = .ok (.iastore, 1) := by decide +kernel
theorem dX12_built_157 : decode cX12_built 157 = .ok (.iinc 10 1, 3) := by decide +kernel
theorem dX12_built_160 : decode cX12_built 160 = .ok (.goto (-23), 3) := by decide +kernel
theorem dX12_built_163 : decode cX12_built 163 = .ok (.aload_n 0, 1) := by decide +kernel
theorem dX12_built_164 : decode cX12_built 164 = .ok (.iload_n 2, 1) := by decide +kernel
theorem dX12_built_165 : decode cX12_built 165 = .ok (.invokevirtual 490, 3) := by decide +kernel
theorem dX12_built_168 : decode cX12_built 168 = .ok (.istore 10, 2) := by decide +kernel
theorem dX12_built_170 : decode cX12_built 170 = .ok (.iload 5, 2) := by decide +kernel
theorem dX12_built_172 : decode cX12_built 172 = .ok (.ifCond .lt 13, 3) := by decide +kernel
theorem dX12_built_175 : decode cX12_built 175 = .ok (.iload 10, 2) := by decide +kernel
theorem dX12_built_177 : decode cX12_built 177 = .ok (.iload 7, 2) := by decide +kernel
theorem dX12_built_179 : decode cX12_built 179 = .ok (.if_icmp .lt 6, 3) := by decide +kernel
theorem dX12_built_182 : decode cX12_built 182 = .ok (.goto 15, 3) := by decide +kernel
theorem dX12_built_185 : decode cX12_built 185 = .ok (.iload 8, 2) := by decide +kernel
theorem dX12_built_187 : decode cX12_built 187 = .ok (.istore 5, 2) := by decide +kernel
theorem dX12_built_189 : decode cX12_built 189 = .ok (.iload 9, 2) := by decide +kernel
theorem dX12_built_191 : decode cX12_built 191 = .ok (.istore 6, 2) := by decide +kernel
theorem dX12_built_193 : decode cX12_built 193 = .ok (.iload 10, 2) := by decide +kernel
theorem dX12_built_195 : decode cX12_built 195 = .ok (.istore 7, 2) := by decide +kernel
theorem dX12_built_197 : decode cX12_built 197 = .ok (.iinc 9 1, 3) := by decide +kernel
theorem dX12_built_200 : decode cX12_built 200 = .ok (.goto (-107), 3) := by decide +kernel
theorem dX12_built_203 : decode cX12_built 203 = .ok (.iinc 8 1, 3) := by decide +kernel
theorem dX12_built_206 : decode cX12_built 206 = .ok (.goto (-130), 3) := by decide +kernel
theorem dX12_built_209 : decode cX12_built 209 = .ok (.aload_n 0, 1) := by decide +kernel
theorem dX12_built_210 : decode cX12_built 210 = .ok (.getfield 45, 3) := by decide +kernel
theorem dX12_built_213 : decode cX12_built 213 = .ok (.iconst 1, 1) := by decide +kernel
theorem dX12_built_214 : decode cX12_built 214 = .ok (.dup2, 1) := by decide +kernel
theorem dX12_built_215 : decode cX12_built 215 = .ok (.iaload, 1) := by decide +kernel
theorem dX12_built_216 : decode cX12_built 216 = .ok (.iconst 1, 1) := by decide +kernel
theorem dX12_built_217 : decode cX12_built 217 = .ok (.isub, 1) := by decide +kernel
theorem dX12_built_218 : decode cX12_built 218 = .ok (.iastore, 1) := by decide +kernel
theorem dX12_built_219 : decode cX12_built 219 = .ok (.iload_n 3, 1) := by decide +kernel
theorem dX12_built_220 : decode cX12_built 220 = .ok (.ifCond .ne 8, 3) := by decide +kernel
theorem dX12_built_223 : decode cX12_built 223 = .ok (.iload 5, 2) := by decide +kernel
theorem dX12_built_225 : decode cX12_built 225 = .ok (.goto 15, 3) := by decide +kernel
theorem dX12_built_228 : decode cX12_built 228 = .ok (.iload_n 3, 1) := by decide +kernel
theorem dX12_built_229 : decode cX12_built 229 = .ok (.iconst 1, 1) := by decide +kernel
theorem dX12_built_230 : decode cX12_built 230 = .ok (.if_icmp .ne 8, 3) := by decide +kernel
theorem dX12_built_233 : decode cX12_built 233 = .ok (.iload 6, 2) := by decide +kernel
theorem dX12_built_235 : decode cX12_built 235 = .ok (.goto 5, 3) := by decide +kernel
theorem dX12_built_238 : decode cX12_built 238 = .ok (.iload 7, 2) := by decide +kernel
theorem dX12_built_240 : decode cX12_built 240 = .ok (.ireturn, 1) := by decide +kernel
theorem dX12_seed_0 : decode cX12_seed 0 = .ok (.iload_n 1, 1) := by decide +kernel
theorem dX12_seed_1 : decode cX12_seed 1 = .ok (.ifCond .ge 5, 3) := by decide +kernel
theorem dX12_seed_4 : decode cX12_seed 4 = .ok (.iconst (-1), 1) := by decide +kernel
theorem dX12_seed_5 : decode cX12_seed 5 = .ok (.ireturn, 1) := by decide +kernel
theorem dX12_seed_6 : decode cX12_seed 6 = .ok (.aload_n 0, 1) := by decide +kernel
theorem dX12_seed_7 : decode cX12_seed 7 = .ok (.getfield 45, 3) := by decide +kernel
theorem dX12_seed_10 : decode cX12_seed 10 = .ok (.bipush 9, 2) := by decide +kernel
theorem dX12_seed_12 : decode cX12_seed 12 = .ok (.iaload, 1) := by decide +kernel
theorem dX12_seed_13 : decode cX12_seed 13 = .ok (.istore_n 2, 1) := by decide +kernel
theorem dX12_seed_14 : decode cX12_seed 14 = .ok (.aload_n 0, 1) := by decide +kernel
theorem dX12_seed_15 : decode cX12_seed 15 = .ok (.getfield 45, 3) := by decide +kernel
theorem dX12_seed_18 : decode cX12_seed 18 = .ok (.bipush 9, 2) := by decide +kernel
theorem dX12_seed_20 : decode cX12_seed 20 = .ok (.iload_n 1, 1) := by decide +kernel
theorem dX12_seed_21 : decode cX12_seed 21 = .ok (.iastore, 1) := by decide +kernel
theorem dX12_seed_22 : decode cX12_seed 22 = .ok (.iload_n 2, 1) := by decide +kernel
theorem dX12_seed_23 : decode cX12_seed 23 = .ok (.ireturn, 1) := by decide +kernel
theorem dX12_count_0 : decode cX12_count 0 = .ok (.iload_n 1, 1) := by decide +kernel
theorem dX12_count_1 : decode cX12_count 1 = .ok (.tableswitch 89 0 11 #[63, 63, 63, 63, 70, 75, 75, 75, 75, 75, 75, 84], 63) := by decide +kernel
theorem dX12_count_64 : decode cX12_count 64 = .ok (.aload_n 0, 1) := by decide +kernel
theorem dX12_count_65 : decode cX12_count 65 = .ok (.getfield 45, 3) := by decide +kernel
theorem dX12_count_68 : decode cX12_count 68 = .ok (.iload_n 1, 1) := by decide +kernel
theorem dX12_count_69 : decode cX12_count 69 = .ok (.iaload, 1) := by decide +kernel
theorem dX12_count_70 : decode cX12_count 70 = .ok (.ireturn, 1) := by decide +kernel
theorem dX12_count_71 : decode cX12_count 71 = .ok (.aload_n 0, 1) := by decide +kernel
theorem dX12_count_72 : decode cX12_count 72 = .ok (.getfield 279, 3) := by decide +kernel
theorem dX12_count_75 : decode cX12_count 75 = .ok (.ireturn, 1) := by decide +kernel
theorem dX12_count_76 : decode cX12_count 76 = .ok (.aload_n 0, 1) := by decide +kernel
theorem dX12_count_77 : decode cX12_count 77 = .ok (.getfield 45, 3) := by decide +kernel
theorem dX12_count_80 : decode cX12_count 80 = .ok (.iload_n 1, 1) := by decide +kernel
theorem dX12_count_81 : decode cX12_count 81 = .ok (.iconst 1, 1) := by decide +kernel
theorem dX12_count_82 : decode cX12_count 82 = .ok (.isub, 1) := by decide +kernel
theorem dX12_count_83 : decode cX12_count 83 = .ok (.iaload, 1) := by decide +kernel
theorem dX12_count_84 : decode cX12_count 84 = .ok (.ireturn, 1) := by decide +kernel
theorem dX12_count_85 : decode cX12_count 85 = .ok (.aload_n 0, 1) := by decide +kernel
theorem dX12_count_86 : decode cX12_count 86 = .ok (.getfield 83, 3) := by decide +kernel
theorem dX12_count_89 : decode cX12_count 89 = .ok (.ireturn, 1) := by decide +kernel
theorem dX12_count_90 : decode cX12_count 90 = .ok (.iconst (-1), 1) := by decide +kernel
theorem dX12_count_91 : decode cX12_count 91 = .ok (.ireturn, 1) := by decide +kernel
set_option maxRecDepth 20000 in
theorem ggX12_image_X12_in : GoodIn wsX12_image wsX12_in := goodIn_r _ [8] (by decide +kernel) (by decide +kernel)
set_option maxRecDepth 20000 in
theorem gX12_image_X12_in : GoodIn wsX12_image (va_wsS RX12 122 yX12_in wsX12_in) := goodIn_app (goodIn_of _ (by decide +kernel)) ggX12_image_X12_in
theorem dX12_image_0 : decode cX12_image 0 = .ok (.iload_n 1, 1) := by decide +kernel
theorem dX12_image_1 : decode cX12_image 1 = .ok (.i2l, 1) := by decide +kernel
theorem dX12_image_2 : decode cX12_image 2 = .ok (.lconst 0, 1) := by decide +kernel
theorem dX12_image_3 : decode cX12_image 3 = .ok (.ldc2_w 345, 3) := by decide +kernel
theorem dX12_image_6 : decode cX12_image 6 = .ok (.invokestatic 122, 3) := by decide +kernel
theorem dX12_image_9 : decode cX12_image 9 = .ok (.ifCond .ne 5, 3) := by decide +kernel
theorem dX12_image_12 : decode cX12_image 12 = .ok (.iconst (-1), 1) := by decide +kernel
theorem dX12_image_13 : decode cX12_image 13 = .ok (.ireturn, 1) := by decide +kernel
theorem dX12_image_14 : decode cX12_image 14 = .ok (.aload_n 0, 1) := by decide +kernel
theorem dX12_image_15 : decode cX12_image 15 = .ok (.getfield 80, 3) := by decide +kernel
theorem dX12_image_18 : decode cX12_image 18 = .ok (.iload_n 1, 1) := by decide +kernel
theorem dX12_image_19 : decode cX12_image 19 = .ok (.iconst 1, 1) := by decide +kernel
theorem dX12_image_20 : decode cX12_image 20 = .ok (.bastore, 1) := by decide +kernel
theorem dX12_image_21 : decode cX12_image 21 = .ok (.iconst 0, 1) := by decide +kernel
theorem dX12_image_22 : decode cX12_image 22 = .ok (.istore_n 2, 1) := by decide +kernel
theorem dX12_image_23 : decode cX12_image 23 = .ok (.iload_n 2, 1) := by decide +kernel
theorem dX12_image_24 : decode cX12_image 24 = .ok (.sipush 296, 3) := by decide +kernel
theorem dX12_image_27 : decode cX12_image 27 = .ok (.if_icmp .ge 27, 3) := by decide +kernel
theorem dX12_image_30 : decode cX12_image 30 = .ok (.aload_n 0, 1) := by decide +kernel
theorem dX12_image_31 : decode cX12_image 31 = .ok (.getfield 77, 3) := by decide +kernel
theorem dX12_image_34 : decode cX12_image 34 = .ok (.sipush 296, 3) := by decide +kernel
theorem dX12_image_37 : decode cX12_image 37 = .ok (.iload_n 1, 1) := by decide +kernel
theorem dX12_image_38 : decode cX12_image 38 = .ok (.imul, 1) := by decide +kernel
theorem dX12_image_39 : decode cX12_image 39 = .ok (.iload_n 2, 1) := by decide +kernel
theorem dX12_image_40 : decode cX12_image 40 = .ok (.iadd, 1) := by decide +kernel
theorem dX12_image_41 : decode cX12_image 41 = .ok (.aload_n 0, 1) := by decide +kernel
theorem dX12_image_42 : decode cX12_image 42 = .ok (.getfield 45, 3) := by decide +kernel
theorem dX12_image_45 : decode cX12_image 45 = .ok (.iload_n 2, 1) := by decide +kernel
theorem dX12_image_46 : decode cX12_image 46 = .ok (.iaload, 1) := by decide +kernel
theorem dX12_image_47 : decode cX12_image 47 = .ok (.iastore, 1) := by decide +kernel
theorem dX12_image_48 : decode cX12_image 48 = .ok (.iinc 2 1, 3) := by decide +kernel
theorem dX12_image_51 : decode cX12_image 51 = .ok (.goto (-28), 3) := by decide +kernel
theorem dX12_image_54 : decode cX12_image 54 = .ok (.aload_n 0, 1) := by decide +kernel
theorem dX12_image_55 : decode cX12_image 55 = .ok (.getfield 45, 3) := by decide +kernel
theorem dX12_image_58 : decode cX12_image 58 = .ok (.iconst 5, 1) := by decide +kernel
theorem dX12_image_59 : decode cX12_image 59 = .ok (.iaload, 1) := by decide +kernel
theorem dX12_image_60 : decode cX12_image 60 = .ok (.ireturn, 1) := by decide +kernel
set_option maxRecDepth 20000 in
theorem ggX12_back_X12_in : GoodIn wsX12_back wsX12_in := goodIn_r _ [8] (by decide +kernel) (by decide +kernel)
set_option maxRecDepth 20000 in
theorem gX12_back_X12_in : GoodIn wsX12_back (va_wsS RX12 122 yX12_in wsX12_in) := goodIn_app (goodIn_of _ (by decide +kernel)) ggX12_back_X12_in
theorem dX12_back_0 : decode cX12_back 0 = .ok (.iload_n 1, 1) := by decide +kernel
theorem dX12_back_1 : decode cX12_back 1 = .ok (.i2l, 1) := by decide +kernel
theorem dX12_back_2 : decode cX12_back 2 = .ok (.lconst 0, 1) := by decide +kernel
theorem dX12_back_3 : decode cX12_back 3 = .ok (.ldc2_w 345, 3) := by decide +kernel
theorem dX12_back_6 : decode cX12_back 6 = .ok (.invokestatic 122, 3) := by decide +kernel
theorem dX12_back_9 : decode cX12_back 9 = .ok (.ifCond .eq 12, 3) := by decide +kernel
theorem dX12_back_12 : decode cX12_back 12 = .ok (.aload_n 0, 1) := by decide +kernel
theorem dX12_back_13 : decode cX12_back 13 = .ok (.getfield 80, 3) := by decide +kernel
theorem dX12_back_16 : decode cX12_back 16 = .ok (.iload_n 1, 1) := by decide +kernel
theorem dX12_back_17 : decode cX12_back 17 = .ok (.baload, 1) := by decide +kernel
theorem dX12_back_18 : decode cX12_back 18 = .ok (.ifCond .ne 5, 3) := by decide +kernel
theorem dX12_back_21 : decode cX12_back 21 = .ok (.iconst (-1), 1) := by decide +kernel
theorem dX12_back_22 : decode cX12_back 22 = .ok (.ireturn, 1) := by decide +kernel
theorem dX12_back_23 : decode cX12_back 23 = .ok (.iconst 0, 1) := by decide +kernel
theorem dX12_back_24 : decode cX12_back 24 = .ok (.istore_n 2, 1) := by decide +kernel
theorem dX12_back_25 : decode cX12_back 25 = .ok (.iload_n 2, 1) := by decide +kernel
theorem dX12_back_26 : decode cX12_back 26 = .ok (.sipush 296, 3) := by decide +kernel
theorem dX12_back_29 : decode cX12_back 29 = .ok (.if_icmp .ge 27, 3) := by decide +kernel
theorem dX12_back_32 : decode cX12_back 32 = .ok (.aload_n 0, 1) := by decide +kernel
theorem dX12_back_33 : decode cX12_back 33 = .ok (.getfield 45, 3) := by decide +kernel
theorem dX12_back_36 : decode cX12_back 36 = .ok (.iload_n 2, 1) := by decide +kernel
theorem dX12_back_37 : decode cX12_back 37 = .ok (.aload_n 0, 1) := by decide +kernel
theorem dX12_back_38 : decode cX12_back 38 = .ok (.getfield 77, 3) := by decide +kernel
theorem dX12_back_41 : decode cX12_back 41 = .ok (.sipush 296, 3) := by decide +kernel
theorem dX12_back_44 : decode cX12_back 44 = .ok (.iload_n 1, 1) := by decide +kernel
theorem dX12_back_45 : decode cX12_back 45 = .ok (.imul, 1) := by decide +kernel
theorem dX12_back_46 : decode cX12_back 46 = .ok (.iload_n 2, 1) := by decide +kernel
theorem dX12_back_47 : decode cX12_back 47 = .ok (.iadd, 1) := by decide +kernel
theorem dX12_back_48 : decode cX12_back 48 = .ok (.iaload, 1) := by decide +kernel
theorem dX12_back_49 : decode cX12_back 49 = .ok (.iastore, 1) := by decide +kernel
theorem dX12_back_50 : decode cX12_back 50 = .ok (.iinc 2 1, 3) := by decide +kernel
theorem dX12_back_53 : decode cX12_back 53 = .ok (.goto (-28), 3) := by decide +kernel
theorem dX12_back_56 : decode cX12_back 56 = .ok (.aload_n 0, 1) := by decide +kernel
theorem dX12_back_57 : decode cX12_back 57 = .ok (.getfield 45, 3) := by decide +kernel
theorem dX12_back_60 : decode cX12_back 60 = .ok (.iconst 5, 1) := by decide +kernel
theorem dX12_back_61 : decode cX12_back 61 = .ok (.iaload, 1) := by decide +kernel
theorem dX12_back_62 : decode cX12_back 62 = .ok (.ireturn, 1) := by decide +kernel
