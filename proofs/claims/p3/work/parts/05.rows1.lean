theorem dX3_readValue_0 : decode cX3_readValue 0 = .ok (.aload_n 0, 1) := by decide +kernel
theorem dX3_readValue_1 : decode cX3_readValue 1 = .ok (.getfield 9, 3) := by decide +kernel
theorem dX3_readValue_4 : decode cX3_readValue 4 = .ok (.invokevirtual 54, 3) := by decide +kernel
theorem dX3_readValue_7 : decode cX3_readValue 7 = .ok (.ifCond .eq 4, 3) := by decide +kernel
theorem dX3_readValue_10 : decode cX3_readValue 10 = .ok (.return_, 1) := by decide +kernel
theorem dX3_readValue_11 : decode cX3_readValue 11 = .ok (.aload_n 0, 1) := by decide +kernel
theorem dX3_readValue_12 : decode cX3_readValue 12 = .ok (.getfield 9, 3) := by decide +kernel
theorem dX3_readValue_15 : decode cX3_readValue 15 = .ok (.invokevirtual 98, 3) := by decide +kernel
theorem dX3_readValue_18 : decode cX3_readValue 18 = .ok (.invokestatic 116, 3) := by decide +kernel
theorem dX3_readValue_21 : decode cX3_readValue 21 = .ok (.ifCond .eq 26, 3) := by decide +kernel
theorem dX3_readValue_24 : decode cX3_readValue 24 = .ok (.aload_n 0, 1) := by decide +kernel
theorem dX3_readValue_25 : decode cX3_readValue 25 = .ok (.getfield 15, 3) := by decide +kernel
theorem dX3_readValue_28 : decode cX3_readValue 28 = .ok (.bipush 32, 2) := by decide +kernel
theorem dX3_readValue_30 : decode cX3_readValue 30 = .ok (.aload_n 0, 1) := by decide +kernel
theorem dX3_readValue_31 : decode cX3_readValue 31 = .ok (.getfield 9, 3) := by decide +kernel
theorem dX3_readValue_34 : decode cX3_readValue 34 = .ok (.iconst 0, 1) := by decide +kernel
theorem dX3_readValue_35 : decode cX3_readValue 35 = .ok (.ldc 119, 2) := by decide +kernel
theorem dX3_readValue_37 : decode cX3_readValue 37 = .ok (.invokevirtual 120, 3) := by decide +kernel
theorem dX3_readValue_40 : decode cX3_readValue 40 = .ok (.iadd, 1) := by decide +kernel
theorem dX3_readValue_41 : decode cX3_readValue 41 = .ok (.invokevirtual 74, 3) := by decide +kernel
theorem dX3_readValue_44 : decode cX3_readValue 44 = .ok (.goto 19, 3) := by decide +kernel
theorem dX3_readValue_47 : decode cX3_readValue 47 = .ok (.aload_n 0, 1) := by decide +kernel
theorem dX3_readValue_48 : decode cX3_readValue 48 = .ok (.getfield 15, 3) := by decide +kernel
theorem dX3_readValue_51 : decode cX3_readValue 51 = .ok (.aload_n 0, 1) := by decide +kernel
theorem dX3_readValue_52 : decode cX3_readValue 52 = .ok (.getfield 9, 3) := by decide +kernel
theorem dX3_readValue_55 : decode cX3_readValue 55 = .ok (.ldc 124, 2) := by decide +kernel
theorem dX3_readValue_57 : decode cX3_readValue 57 = .ok (.invokevirtual 35, 3) := by decide +kernel
theorem dX3_readValue_60 : decode cX3_readValue 60 = .ok (.invokevirtual 74, 3) := by decide +kernel
theorem dX3_readValue_63 : decode cX3_readValue 63 = .ok (.aload_n 0, 1) := by decide +kernel
theorem dX3_readValue_64 : decode cX3_readValue 64 = .ok (.invokevirtual 101, 3) := by decide +kernel
theorem dX3_readValue_67 : decode cX3_readValue 67 = .ok (.return_, 1) := by decide +kernel
theorem dX4_init_0 : decode cX4_init 0 = .ok (.aload_n 0, 1) := by decide +kernel
theorem dX4_init_1 : decode cX4_init 1 = .ok (.invokespecial 3, 3) := by decide +kernel
theorem dX4_init_4 : decode cX4_init 4 = .ok (.aload_n 0, 1) := by decide +kernel
theorem dX4_init_5 : decode cX4_init 5 = .ok (.bipush 10, 2) := by decide +kernel
theorem dX4_init_7 : decode cX4_init 7 = .ok (.newarray .int, 2) := by decide +kernel
theorem dX4_init_9 : decode cX4_init 9 = .ok (.putfield 9, 3) := by decide +kernel
theorem dX4_init_12 : decode cX4_init 12 = .ok (.aload_n 0, 1) := by decide +kernel
theorem dX4_init_13 : decode cX4_init 13 = .ok (.bipush 10, 2) := by decide +kernel
theorem dX4_init_15 : decode cX4_init 15 = .ok (.newarray .boolean, 2) := by decide +kernel
theorem dX4_init_17 : decode cX4_init 17 = .ok (.putfield 15, 3) := by decide +kernel
theorem dX4_init_20 : decode cX4_init 20 = .ok (.aload_n 0, 1) := by decide +kernel
theorem dX4_init_21 : decode cX4_init 21 = .ok (.aload_n 1, 1) := by decide +kernel
theorem dX4_init_22 : decode cX4_init 22 = .ok (.putfield 19, 3) := by decide +kernel
theorem dX4_init_25 : decode cX4_init 25 = .ok (.aload_n 0, 1) := by decide +kernel
theorem dX4_init_26 : decode cX4_init 26 = .ok (.aload_n 1, 1) := by decide +kernel
theorem dX4_init_27 : decode cX4_init 27 = .ok (.getfield 23, 3) := by decide +kernel
theorem dX4_init_30 : decode cX4_init 30 = .ok (.putfield 29, 3) := by decide +kernel
theorem dX4_init_33 : decode cX4_init 33 = .ok (.return_, 1) := by decide +kernel
set_option maxRecDepth 20000 in
theorem ggX4_firstArrival_X4_clear : GoodIn wsX4_firstArrival wsX4_clear := goodIn_r _ [9, 1, 4, 48, 49, 50, 51] (by decide +kernel) (by decide +kernel)
set_option maxRecDepth 20000 in
theorem gX4_firstArrival_X4_clear : GoodIn wsX4_firstArrival (wsV RX4 30 RX4 yX4_clear wsX4_clear) := goodIn_app (goodIn_of _ (by decide +kernel)) ggX4_firstArrival_X4_clear
set_option maxRecDepth 20000 in
theorem ggX4_firstArrival_X4_earliestUnsettled : GoodIn wsX4_firstArrival wsX4_earliestUnsettled := goodIn_r _ [13, 2, 3, 4, 1, 48, 49, 50, 51, 52, 53, 54, 55, 56, 57, 58, 59, 60, 61, 62, 63] (by decide +kernel) (by decide +kernel)
set_option maxRecDepth 20000 in
theorem gX4_firstArrival_X4_earliestUnsettled : GoodIn wsX4_firstArrival (wsV RX4 39 RX4 yX4_earliestUnsettled wsX4_earliestUnsettled) := goodIn_app (goodIn_of _ (by decide +kernel)) ggX4_firstArrival_X4_earliestUnsettled
set_option maxRecDepth 20000 in
theorem ggX4_firstArrival_X4_reachBy : GoodIn wsX4_firstArrival wsX4_reachBy := goodIn_r _ [17, 2, 4, 18, 1, 19, 20, 21, 22, 23, 24, 25, 26, 27, 28, 29, 30, 31, 32, 33, 34, 35, 36, 37, 38, 39, 40, 41, 42, 43, 44, 45, 46, 47, 48, 49, 50, 51, 52, 53, 54, 55, 56, 57, 58, 59, 60, 61, 62, 63] (by decide +kernel) (by decide +kernel)
set_option maxRecDepth 20000 in
theorem gX4_firstArrival_X4_reachBy : GoodIn wsX4_firstArrival (wsV RX4 43 RX4 yX4_reachBy wsX4_reachBy) := goodIn_app (goodIn_of _ (by decide +kernel)) ggX4_firstArrival_X4_reachBy
theorem dX4_firstArrival_0 : decode cX4_firstArrival 0 = .ok (.aload_n 0, 1) := by decide +kernel
theorem dX4_firstArrival_1 : decode cX4_firstArrival 1 = .ok (.invokevirtual 30, 3) := by decide +kernel
theorem dX4_firstArrival_4 : decode cX4_firstArrival 4 = .ok (.aload_n 0, 1) := by decide +kernel
theorem dX4_firstArrival_5 : decode cX4_firstArrival 5 = .ok (.getfield 9, 3) := by decide +kernel
theorem dX4_firstArrival_8 : decode cX4_firstArrival 8 = .ok (.iload_n 2, 1) := by decide +kernel
theorem dX4_firstArrival_9 : decode cX4_firstArrival 9 = .ok (.iload 4, 2) := by decide +kernel
theorem dX4_firstArrival_11 : decode cX4_firstArrival 11 = .ok (.iastore, 1) := by decide +kernel
theorem dX4_firstArrival_12 : decode cX4_firstArrival 12 = .ok (.iconst 0, 1) := by decide +kernel
theorem dX4_firstArrival_13 : decode cX4_firstArrival 13 = .ok (.istore 5, 2) := by decide +kernel
theorem dX4_firstArrival_15 : decode cX4_firstArrival 15 = .ok (.iload 5, 2) := by decide +kernel
theorem dX4_firstArrival_17 : decode cX4_firstArrival 17 = .ok (.aload_n 0, 1) := by decide +kernel
theorem dX4_firstArrival_18 : decode cX4_firstArrival 18 = .ok (.getfield 29, 3) := by decide +kernel
theorem dX4_firstArrival_21 : decode cX4_firstArrival 21 = .ok (.getfield 33, 3) := by decide +kernel
theorem dX4_firstArrival_24 : decode cX4_firstArrival 24 = .ok (.if_icmp .ge 73, 3) := by decide +kernel
theorem dX4_firstArrival_27 : decode cX4_firstArrival 27 = .ok (.aload_n 0, 1) := by decide +kernel
theorem dX4_firstArrival_28 : decode cX4_firstArrival 28 = .ok (.invokevirtual 39, 3) := by decide +kernel
theorem dX4_firstArrival_31 : decode cX4_firstArrival 31 = .ok (.istore 6, 2) := by decide +kernel
theorem dX4_firstArrival_33 : decode cX4_firstArrival 33 = .ok (.iload 6, 2) := by decide +kernel
theorem dX4_firstArrival_35 : decode cX4_firstArrival 35 = .ok (.iconst (-1), 1) := by decide +kernel
theorem dX4_firstArrival_36 : decode cX4_firstArrival 36 = .ok (.if_icmp .ne 5, 3) := by decide +kernel
theorem dX4_firstArrival_39 : decode cX4_firstArrival 39 = .ok (.iconst (-1), 1) := by decide +kernel
theorem dX4_firstArrival_40 : decode cX4_firstArrival 40 = .ok (.ireturn, 1) := by decide +kernel
theorem dX4_firstArrival_41 : decode cX4_firstArrival 41 = .ok (.iload 6, 2) := by decide +kernel
theorem dX4_firstArrival_43 : decode cX4_firstArrival 43 = .ok (.iload_n 3, 1) := by decide +kernel
theorem dX4_firstArrival_44 : decode cX4_firstArrival 44 = .ok (.if_icmp .ne 10, 3) := by decide +kernel
theorem dX4_firstArrival_47 : decode cX4_firstArrival 47 = .ok (.aload_n 0, 1) := by decide +kernel
theorem dX4_firstArrival_48 : decode cX4_firstArrival 48 = .ok (.getfield 9, 3) := by decide +kernel
theorem dX4_firstArrival_51 : decode cX4_firstArrival 51 = .ok (.iload_n 3, 1) := by decide +kernel
theorem dX4_firstArrival_52 : decode cX4_firstArrival 52 = .ok (.iaload, 1) := by decide +kernel
theorem dX4_firstArrival_53 : decode cX4_firstArrival 53 = .ok (.ireturn, 1) := by decide +kernel
theorem dX4_firstArrival_54 : decode cX4_firstArrival 54 = .ok (.aload_n 0, 1) := by decide +kernel
theorem dX4_firstArrival_55 : decode cX4_firstArrival 55 = .ok (.getfield 15, 3) := by decide +kernel
theorem dX4_firstArrival_58 : decode cX4_firstArrival 58 = .ok (.iload 6, 2) := by decide +kernel
theorem dX4_firstArrival_60 : decode cX4_firstArrival 60 = .ok (.iconst 1, 1) := by decide +kernel
theorem dX4_firstArrival_61 : decode cX4_firstArrival 61 = .ok (.bastore, 1) := by decide +kernel
theorem dX4_firstArrival_62 : decode cX4_firstArrival 62 = .ok (.iconst 0, 1) := by decide +kernel
theorem dX4_firstArrival_63 : decode cX4_firstArrival 63 = .ok (.istore 7, 2) := by decide +kernel
theorem dX4_firstArrival_65 : decode cX4_firstArrival 65 = .ok (.iload 7, 2) := by decide +kernel
theorem dX4_firstArrival_67 : decode cX4_firstArrival 67 = .ok (.iload_n 1, 1) := by decide +kernel
theorem dX4_firstArrival_68 : decode cX4_firstArrival 68 = .ok (.if_icmp .ge 23, 3) := by decide +kernel
theorem dX4_firstArrival_71 : decode cX4_firstArrival 71 = .ok (.aload_n 0, 1) := by decide +kernel
theorem dX4_firstArrival_72 : decode cX4_firstArrival 72 = .ok (.iload 7, 2) := by decide +kernel
theorem dX4_firstArrival_74 : decode cX4_firstArrival 74 = .ok (.iload 6, 2) := by decide +kernel
theorem dX4_firstArrival_76 : decode cX4_firstArrival 76 = .ok (.iload 4, 2) := by decide +kernel
theorem dX4_firstArrival_78 : decode cX4_firstArrival 78 = .ok (.sipush 2000, 3) := by decide +kernel
theorem dX4_firstArrival_81 : decode cX4_firstArrival 81 = .ok (.iadd, 1) := by decide +kernel
theorem dX4_firstArrival_82 : decode cX4_firstArrival 82 = .ok (.invokevirtual 43, 3) := by decide +kernel
theorem dX4_firstArrival_85 : decode cX4_firstArrival 85 = .ok (.iinc 7 1, 3) := by decide +kernel
theorem dX4_firstArrival_88 : decode cX4_firstArrival 88 = .ok (.goto (-23), 3) := by decide +kernel
theorem dX4_firstArrival_91 : decode cX4_firstArrival 91 = .ok (.iinc 5 1, 3) := by decide +kernel
theorem dX4_firstArrival_94 : decode cX4_firstArrival 94 = .ok (.goto (-79), 3) := by decide +kernel
theorem dX4_firstArrival_97 : decode cX4_firstArrival 97 = .ok (.iconst (-1), 1) := by decide +kernel
theorem dX4_firstArrival_98 : decode cX4_firstArrival 98 = .ok (.ireturn, 1) := by decide +kernel
theorem dX4_clear_0 : decode cX4_clear 0 = .ok (.iconst 0, 1) := by decide +kernel
theorem dX4_clear_1 : decode cX4_clear 1 = .ok (.istore_n 1, 1) := by decide +kernel
theorem dX4_clear_2 : decode cX4_clear 2 = .ok (.iload_n 1, 1) := by decide +kernel
theorem dX4_clear_3 : decode cX4_clear 3 = .ok (.bipush 10, 2) := by decide +kernel
theorem dX4_clear_5 : decode cX4_clear 5 = .ok (.if_icmp .ge 23, 3) := by decide +kernel
theorem dX4_clear_8 : decode cX4_clear 8 = .ok (.aload_n 0, 1) := by decide +kernel
theorem dX4_clear_9 : decode cX4_clear 9 = .ok (.getfield 9, 3) := by decide +kernel
theorem dX4_clear_12 : decode cX4_clear 12 = .ok (.iload_n 1, 1) := by decide +kernel
theorem dX4_clear_13 : decode cX4_clear 13 = .ok (.iconst (-1), 1) := by decide +kernel
theorem dX4_clear_14 : decode cX4_clear 14 = .ok (.iastore, 1) := by decide +kernel
theorem dX4_clear_15 : decode cX4_clear 15 = .ok (.aload_n 0, 1) := by decide +kernel
theorem dX4_clear_16 : decode cX4_clear 16 = .ok (.getfield 15, 3) := by decide +kernel
theorem dX4_clear_19 : decode cX4_clear 19 = .ok (.iload_n 1, 1) := by decide +kernel
theorem dX4_clear_20 : decode cX4_clear 20 = .ok (.iconst 0, 1) := by decide +kernel
theorem dX4_clear_21 : decode cX4_clear 21 = .ok (.bastore, 1) := by decide +kernel
theorem dX4_clear_22 : decode cX4_clear 22 = .ok (.iinc 1 1, 3) := by decide +kernel
theorem dX4_clear_25 : decode cX4_clear 25 = .ok (.goto (-23), 3) := by decide +kernel
theorem dX4_clear_28 : decode cX4_clear 28 = .ok (.return_, 1) := by decide +kernel
theorem dX4_earliestUnsettled_0 : decode cX4_earliestUnsettled 0 = .ok (.iconst (-1), 1) := by decide +kernel
theorem dX4_earliestUnsettled_1 : decode cX4_earliestUnsettled 1 = .ok (.istore_n 1, 1) := by decide +kernel
theorem dX4_earliestUnsettled_2 : decode cX4_earliestUnsettled 2 = .ok (.iconst 0, 1) := by decide +kernel
theorem dX4_earliestUnsettled_3 : decode cX4_earliestUnsettled 3 = .ok (.istore_n 2, 1) := by decide +kernel
theorem dX4_earliestUnsettled_4 : decode cX4_earliestUnsettled 4 = .ok (.iload_n 2, 1) := by decide +kernel
theorem dX4_earliestUnsettled_5 : decode cX4_earliestUnsettled 5 = .ok (.aload_n 0, 1) := by decide +kernel
theorem dX4_earliestUnsettled_6 : decode cX4_earliestUnsettled 6 = .ok (.getfield 29, 3) := by decide +kernel
theorem dX4_earliestUnsettled_9 : decode cX4_earliestUnsettled 9 = .ok (.getfield 33, 3) := by decide +kernel
theorem dX4_earliestUnsettled_12 : decode cX4_earliestUnsettled 12 = .ok (.if_icmp .ge 50, 3) := by decide +kernel
theorem dX4_earliestUnsettled_15 : decode cX4_earliestUnsettled 15 = .ok (.aload_n 0, 1) := by decide +kernel
theorem dX4_earliestUnsettled_16 : decode cX4_earliestUnsettled 16 = .ok (.getfield 15, 3) := by decide +kernel
theorem dX4_earliestUnsettled_19 : decode cX4_earliestUnsettled 19 = .ok (.iload_n 2, 1) := by decide +kernel
theorem dX4_earliestUnsettled_20 : decode cX4_earliestUnsettled 20 = .ok (.baload, 1) := by decide +kernel
theorem dX4_earliestUnsettled_21 : decode cX4_earliestUnsettled 21 = .ok (.ifCond .ne 35, 3) := by decide +kernel
theorem dX4_earliestUnsettled_24 : decode cX4_earliestUnsettled 24 = .ok (.aload_n 0, 1) := by decide +kernel
theorem dX4_earliestUnsettled_25 : decode cX4_earliestUnsettled 25 = .ok (.getfield 9, 3) := by decide +kernel
theorem dX4_earliestUnsettled_28 : decode cX4_earliestUnsettled 28 = .ok (.iload_n 2, 1) := by decide +kernel
theorem dX4_earliestUnsettled_29 : decode cX4_earliestUnsettled 29 = .ok (.iaload, 1) := by decide +kernel
theorem dX4_earliestUnsettled_30 : decode cX4_earliestUnsettled 30 = .ok (.iconst (-1), 1) := by decide +kernel
theorem dX4_earliestUnsettled_31 : decode cX4_earliestUnsettled 31 = .ok (.if_icmp .eq 25, 3) := by decide +kernel
theorem dX4_earliestUnsettled_34 : decode cX4_earliestUnsettled 34 = .ok (.iload_n 1, 1) := by decide +kernel
theorem dX4_earliestUnsettled_35 : decode cX4_earliestUnsettled 35 = .ok (.iconst (-1), 1) := by decide +kernel
theorem dX4_earliestUnsettled_36 : decode cX4_earliestUnsettled 36 = .ok (.if_icmp .eq 18, 3) := by decide +kernel
theorem dX4_earliestUnsettled_39 : decode cX4_earliestUnsettled 39 = .ok (.aload_n 0, 1) := by decide +kernel
theorem dX4_earliestUnsettled_40 : decode cX4_earliestUnsettled 40 = .ok (.getfield 9, 3) := by decide +kernel
theorem dX4_earliestUnsettled_43 : decode cX4_earliestUnsettled 43 = .ok (.iload_n 2, 1) := by decide +kernel
theorem dX4_earliestUnsettled_44 : decode cX4_earliestUnsettled 44 = .ok (.iaload, 1) := by decide +kernel
theorem dX4_earliestUnsettled_45 : decode cX4_earliestUnsettled 45 = .ok (.aload_n 0, 1) := by decide +kernel
theorem dX4_earliestUnsettled_46 : decode cX4_earliestUnsettled 46 = .ok (.getfield 9, 3) := by decide +kernel
theorem dX4_earliestUnsettled_49 : decode cX4_earliestUnsettled 49 = .ok (.iload_n 1, 1) := by decide +kernel
theorem dX4_earliestUnsettled_50 : decode cX4_earliestUnsettled 50 = .ok (.iaload, 1) := by decide +kernel
theorem dX4_earliestUnsettled_51 : decode cX4_earliestUnsettled 51 = .ok (.if_icmp .ge 5, 3) := by decide +kernel
theorem dX4_earliestUnsettled_54 : decode cX4_earliestUnsettled 54 = .ok (.iload_n 2, 1) := by decide +kernel
theorem dX4_earliestUnsettled_55 : decode cX4_earliestUnsettled 55 = .ok (.istore_n 1, 1) := by decide +kernel
theorem dX4_earliestUnsettled_56 : decode cX4_earliestUnsettled 56 = .ok (.iinc 2 1, 3) := by decide +kernel
theorem dX4_earliestUnsettled_59 : decode cX4_earliestUnsettled 59 = .ok (.goto (-55), 3) := by decide +kernel
theorem dX4_earliestUnsettled_62 : decode cX4_earliestUnsettled 62 = .ok (.iload_n 1, 1) := by decide +kernel
theorem dX4_earliestUnsettled_63 : decode cX4_earliestUnsettled 63 = .ok (.ireturn, 1) := by decide +kernel
set_option maxRecDepth 20000 in
theorem ggX4_reachBy_X7_sideOf : GoodIn wsX4_reachBy wsX7_sideOf := goodIn_r _ [9, 10, 38, 39, 40, 41, 42, 43, 44, 45, 46, 47, 48, 49] (by decide +kernel) (by decide +kernel)
set_option maxRecDepth 20000 in
theorem gX4_reachBy_X7_sideOf : GoodIn wsX4_reachBy (wsV RX4 47 RX7 yX7_sideOf wsX7_sideOf) := goodIn_app (goodIn_of _ (by decide +kernel)) ggX4_reachBy_X7_sideOf
set_option maxRecDepth 20000 in
theorem ggX4_reachBy_X7_cornerAcross : GoodIn wsX4_reachBy wsX7_cornerAcross := goodIn_r _ [14, 10, 38, 39, 40, 41, 42, 43, 44, 45, 46, 47, 48, 49] (by decide +kernel) (by decide +kernel)
set_option maxRecDepth 20000 in
theorem gX4_reachBy_X7_cornerAcross : GoodIn wsX4_reachBy (wsV RX4 51 RX7 yX7_cornerAcross wsX7_cornerAcross) := goodIn_app (goodIn_of _ (by decide +kernel)) ggX4_reachBy_X7_cornerAcross
set_option maxRecDepth 20000 in
theorem ggX4_reachBy_X7_firstOpen : GoodIn wsX4_reachBy wsX7_firstOpen := goodIn_r _ [18, 19, 20, 21, 8, 22, 23, 24, 25, 26, 27, 28, 29, 30, 31, 32, 33, 38, 39, 40, 41, 42, 43, 44, 45, 46, 47, 48, 49] (by decide +kernel) (by decide +kernel)
set_option maxRecDepth 20000 in
theorem gX4_reachBy_X7_firstOpen : GoodIn wsX4_reachBy (wsV RX4 57 RX7 yX7_firstOpen wsX7_firstOpen) := goodIn_app (goodIn_of _ (by decide +kernel)) ggX4_reachBy_X7_firstOpen
theorem dX4_reachBy_0 : decode cX4_reachBy 0 = .ok (.aload_n 0, 1) := by decide +kernel
theorem dX4_reachBy_1 : decode cX4_reachBy 1 = .ok (.getfield 29, 3) := by decide +kernel
theorem dX4_reachBy_4 : decode cX4_reachBy 4 = .ok (.iload_n 1, 1) := by decide +kernel
theorem dX4_reachBy_5 : decode cX4_reachBy 5 = .ok (.iload_n 2, 1) := by decide +kernel
theorem dX4_reachBy_6 : decode cX4_reachBy 6 = .ok (.invokevirtual 47, 3) := by decide +kernel
theorem dX4_reachBy_9 : decode cX4_reachBy 9 = .ok (.istore 4, 2) := by decide +kernel
theorem dX4_reachBy_11 : decode cX4_reachBy 11 = .ok (.iload 4, 2) := by decide +kernel
theorem dX4_reachBy_13 : decode cX4_reachBy 13 = .ok (.iconst (-1), 1) := by decide +kernel
theorem dX4_reachBy_14 : decode cX4_reachBy 14 = .ok (.if_icmp .eq 21, 3) := by decide +kernel
theorem dX4_reachBy_17 : decode cX4_reachBy 17 = .ok (.aload_n 0, 1) := by decide +kernel
theorem dX4_reachBy_18 : decode cX4_reachBy 18 = .ok (.getfield 15, 3) := by decide +kernel
theorem dX4_reachBy_21 : decode cX4_reachBy 21 = .ok (.aload_n 0, 1) := by decide +kernel
theorem dX4_reachBy_22 : decode cX4_reachBy 22 = .ok (.getfield 29, 3) := by decide +kernel
theorem dX4_reachBy_25 : decode cX4_reachBy 25 = .ok (.iload_n 1, 1) := by decide +kernel
theorem dX4_reachBy_26 : decode cX4_reachBy 26 = .ok (.iload 4, 2) := by decide +kernel
theorem dX4_reachBy_28 : decode cX4_reachBy 28 = .ok (.invokevirtual 51, 3) := by decide +kernel
theorem dX4_reachBy_31 : decode cX4_reachBy 31 = .ok (.baload, 1) := by decide +kernel
theorem dX4_reachBy_32 : decode cX4_reachBy 32 = .ok (.ifCond .eq 4, 3) := by decide +kernel
theorem dX4_reachBy_35 : decode cX4_reachBy 35 = .ok (.return_, 1) := by decide +kernel
theorem dX4_reachBy_36 : decode cX4_reachBy 36 = .ok (.aload_n 0, 1) := by decide +kernel
theorem dX4_reachBy_37 : decode cX4_reachBy 37 = .ok (.getfield 29, 3) := by decide +kernel
theorem dX4_reachBy_40 : decode cX4_reachBy 40 = .ok (.iload_n 1, 1) := by decide +kernel
theorem dX4_reachBy_41 : decode cX4_reachBy 41 = .ok (.iload 4, 2) := by decide +kernel
theorem dX4_reachBy_43 : decode cX4_reachBy 43 = .ok (.invokevirtual 51, 3) := by decide +kernel
theorem dX4_reachBy_46 : decode cX4_reachBy 46 = .ok (.istore 5, 2) := by decide +kernel
theorem dX4_reachBy_48 : decode cX4_reachBy 48 = .ok (.aload_n 0, 1) := by decide +kernel
theorem dX4_reachBy_49 : decode cX4_reachBy 49 = .ok (.getfield 29, 3) := by decide +kernel
theorem dX4_reachBy_52 : decode cX4_reachBy 52 = .ok (.getfield 54, 3) := by decide +kernel
theorem dX4_reachBy_55 : decode cX4_reachBy 55 = .ok (.iload_n 1, 1) := by decide +kernel
theorem dX4_reachBy_56 : decode cX4_reachBy 56 = .ok (.iaload, 1) := by decide +kernel
theorem dX4_reachBy_57 : decode cX4_reachBy 57 = .ok (.istore 6, 2) := by decide +kernel
theorem dX4_reachBy_59 : decode cX4_reachBy 59 = .ok (.aload_n 0, 1) := by decide +kernel
theorem dX4_reachBy_60 : decode cX4_reachBy 60 = .ok (.getfield 29, 3) := by decide +kernel
theorem dX4_reachBy_63 : decode cX4_reachBy 63 = .ok (.iload_n 1, 1) := by decide +kernel
theorem dX4_reachBy_64 : decode cX4_reachBy 64 = .ok (.iload 4, 2) := by decide +kernel
theorem dX4_reachBy_66 : decode cX4_reachBy 66 = .ok (.aload_n 0, 1) := by decide +kernel
theorem dX4_reachBy_67 : decode cX4_reachBy 67 = .ok (.getfield 9, 3) := by decide +kernel
theorem dX4_reachBy_70 : decode cX4_reachBy 70 = .ok (.iload_n 2, 1) := by decide +kernel
theorem dX4_reachBy_71 : decode cX4_reachBy 71 = .ok (.iaload, 1) := by decide +kernel
theorem dX4_reachBy_72 : decode cX4_reachBy 72 = .ok (.iload_n 3, 1) := by decide +kernel
theorem dX4_reachBy_73 : decode cX4_reachBy 73 = .ok (.iload 6, 2) := by decide +kernel
theorem dX4_reachBy_75 : decode cX4_reachBy 75 = .ok (.isub, 1) := by decide +kernel
theorem dX4_reachBy_76 : decode cX4_reachBy 76 = .ok (.invokevirtual 57, 3) := by decide +kernel
theorem dX4_reachBy_79 : decode cX4_reachBy 79 = .ok (.istore 7, 2) := by decide +kernel
theorem dX4_reachBy_81 : decode cX4_reachBy 81 = .ok (.iload 7, 2) := by decide +kernel
theorem dX4_reachBy_83 : decode cX4_reachBy 83 = .ok (.iconst (-1), 1) := by decide +kernel
theorem dX4_reachBy_84 : decode cX4_reachBy 84 = .ok (.if_icmp .eq 41, 3) := by decide +kernel
theorem dX4_reachBy_87 : decode cX4_reachBy 87 = .ok (.aload_n 0, 1) := by decide +kernel
theorem dX4_reachBy_88 : decode cX4_reachBy 88 = .ok (.getfield 9, 3) := by decide +kernel
theorem dX4_reachBy_91 : decode cX4_reachBy 91 = .ok (.iload 5, 2) := by decide +kernel
theorem dX4_reachBy_93 : decode cX4_reachBy 93 = .ok (.iaload, 1) := by decide +kernel
theorem dX4_reachBy_94 : decode cX4_reachBy 94 = .ok (.iconst (-1), 1) := by decide +kernel
theorem dX4_reachBy_95 : decode cX4_reachBy 95 = .ok (.if_icmp .eq 18, 3) := by decide +kernel
theorem dX4_reachBy_98 : decode cX4_reachBy 98 = .ok (.iload 7, 2) := by decide +kernel
theorem dX4_reachBy_100 : decode cX4_reachBy 100 = .ok (.iload 6, 2) := by decide +kernel
theorem dX4_reachBy_102 : decode cX4_reachBy 102 = .ok (.iadd, 1) := by decide +kernel
theorem dX4_reachBy_103 : decode cX4_reachBy 103 = .ok (.aload_n 0, 1) := by decide +kernel
theorem dX4_reachBy_104 : decode cX4_reachBy 104 = .ok (.getfield 9, 3) := by decide +kernel
theorem dX4_reachBy_107 : decode cX4_reachBy 107 = .ok (.iload 5, 2) := by decide +kernel
theorem dX4_reachBy_109 : decode cX4_reachBy 109 = .ok (.iaload, 1) := by decide +kernel
theorem dX4_reachBy_110 : decode cX4_reachBy 110 = .ok (.if_icmp .ge 15, 3) := by decide +kernel
theorem dX4_reachBy_113 : decode cX4_reachBy 113 = .ok (.aload_n 0, 1) := by decide +kernel
theorem dX4_reachBy_114 : decode cX4_reachBy 114 = .ok (.getfield 9, 3) := by decide +kernel
theorem dX4_reachBy_117 : decode cX4_reachBy 117 = .ok (.iload 5, 2) := by decide +kernel
theorem dX4_reachBy_119 : decode cX4_reachBy 119 = .ok (.iload 7, 2) := by decide +kernel
theorem dX4_reachBy_121 : decode cX4_reachBy 121 = .ok (.iload 6, 2) := by decide +kernel
theorem dX4_reachBy_123 : decode cX4_reachBy 123 = .ok (.iadd, 1) := by decide +kernel
theorem dX4_reachBy_124 : decode cX4_reachBy 124 = .ok (.iastore, 1) := by decide +kernel
theorem dX4_reachBy_125 : decode cX4_reachBy 125 = .ok (.return_, 1) := by decide +kernel
set_option maxRecDepth 20000 in
theorem ggX4_streetOnWay_X4_firstArrival : GoodIn wsX4_streetOnWay wsX4_firstArrival := goodIn_r _ [8, 9, 1, 10, 11, 12, 13, 14, 7, 15, 16, 17, 18, 19, 20, 21, 22, 23, 3, 24, 25, 26, 27, 28, 29, 30, 31, 32, 33, 34, 35, 36, 37, 38, 39, 40, 41, 42, 43, 44, 45, 46, 47, 48, 49, 50, 51, 52, 77, 78, 79, 80, 81, 82, 83, 84, 85, 86, 87, 88, 89, 90, 91, 92] (by decide +kernel) (by decide +kernel)
set_option maxRecDepth 20000 in
theorem gX4_streetOnWay_X4_firstArrival : GoodIn wsX4_streetOnWay (wsV RX4 64 RX4 yX4_firstArrival wsX4_firstArrival) := goodIn_app (goodIn_of _ (by decide +kernel)) ggX4_streetOnWay_X4_firstArrival
set_option maxRecDepth 20000 in
theorem ggX4_streetOnWay_X4_findLatest : GoodIn wsX4_streetOnWay wsX4_findLatest := goodIn_r _ [56, 9, 1, 10, 11, 2, 12, 13, 14, 7, 15, 57, 58, 59, 60, 61, 62, 63, 64, 3, 65, 66, 67, 68, 24, 25, 26, 27, 28, 29, 30, 31, 32, 33, 69, 70, 71, 72, 38, 39, 40, 41, 42, 43, 44, 45, 46, 47, 48, 49, 50, 51, 52, 77, 78, 79, 80, 81, 82, 83, 84, 85, 86, 87, 88, 89, 90, 91, 92] (by decide +kernel) (by decide +kernel)
set_option maxRecDepth 20000 in
theorem gX4_streetOnWay_X4_findLatest : GoodIn wsX4_streetOnWay (wsV RX4 67 RX4 yX4_findLatest wsX4_findLatest) := goodIn_app (goodIn_of _ (by decide +kernel)) ggX4_streetOnWay_X4_findLatest
set_option maxRecDepth 20000 in
theorem ggX4_streetOnWay_X4_leastStreet : GoodIn wsX4_streetOnWay wsX4_leastStreet := goodIn_r _ [76, 1, 2, 9, 3, 24, 25, 26, 27, 28, 29, 30, 31, 32, 33, 34, 35, 36, 37, 38, 39, 40, 41, 42, 43, 44, 45, 46, 47, 48, 49, 50, 51, 52, 77, 78, 79, 80, 81, 82, 83, 84, 85, 86, 87, 88, 89, 90, 91, 92] (by decide +kernel) (by decide +kernel)
set_option maxRecDepth 20000 in
theorem gX4_streetOnWay_X4_leastStreet : GoodIn wsX4_streetOnWay (wsV RX4 70 RX4 yX4_leastStreet wsX4_leastStreet) := goodIn_app (goodIn_of _ (by decide +kernel)) ggX4_streetOnWay_X4_leastStreet
set_option maxRecDepth 20000 in
theorem ggX4_streetOnWay_X7_sideOf : GoodIn wsX4_streetOnWay wsX7_sideOf := goodIn_r _ [28, 29, 81, 82, 83, 84, 85, 86, 87, 88, 89, 90, 91, 92] (by decide +kernel) (by decide +kernel)
set_option maxRecDepth 20000 in
theorem gX4_streetOnWay_X7_sideOf : GoodIn wsX4_streetOnWay (wsV RX4 47 RX7 yX7_sideOf wsX7_sideOf) := goodIn_app (goodIn_of _ (by decide +kernel)) ggX4_streetOnWay_X7_sideOf
set_option maxRecDepth 20000 in
theorem ggX4_streetOnWay_X7_firstOpen : GoodIn wsX4_streetOnWay wsX7_firstOpen := goodIn_r _ [37, 38, 39, 40, 27, 41, 42, 43, 44, 45, 46, 47, 48, 49, 50, 51, 52, 81, 82, 83, 84, 85, 86, 87, 88, 89, 90, 91, 92] (by decide +kernel) (by decide +kernel)
set_option maxRecDepth 20000 in
theorem gX4_streetOnWay_X7_firstOpen : GoodIn wsX4_streetOnWay (wsV RX4 57 RX7 yX7_firstOpen wsX7_firstOpen) := goodIn_app (goodIn_of _ (by decide +kernel)) ggX4_streetOnWay_X7_firstOpen
set_option maxRecDepth 20000 in
theorem ggX4_streetOnWay_X7_cornerAcross : GoodIn wsX4_streetOnWay wsX7_cornerAcross := goodIn_r _ [33, 29, 81, 82, 83, 84, 85, 86, 87, 88, 89, 90, 91, 92] (by decide +kernel) (by decide +kernel)
set_option maxRecDepth 20000 in
theorem gX4_streetOnWay_X7_cornerAcross : GoodIn wsX4_streetOnWay (wsV RX4 51 RX7 yX7_cornerAcross wsX7_cornerAcross) := goodIn_app (goodIn_of _ (by decide +kernel)) ggX4_streetOnWay_X7_cornerAcross
theorem dX4_streetOnWay_0 : decode cX4_streetOnWay 0 = .ok (.aload_n 0, 1) := by decide +kernel
theorem dX4_streetOnWay_1 : decode cX4_streetOnWay 1 = .ok (.aload_n 0, 1) := by decide +kernel
theorem dX4_streetOnWay_2 : decode cX4_streetOnWay 2 = .ok (.getfield 29, 3) := by decide +kernel
theorem dX4_streetOnWay_5 : decode cX4_streetOnWay 5 = .ok (.getfield 61, 3) := by decide +kernel
theorem dX4_streetOnWay_8 : decode cX4_streetOnWay 8 = .ok (.iload_n 1, 1) := by decide +kernel
theorem dX4_streetOnWay_9 : decode cX4_streetOnWay 9 = .ok (.iload_n 2, 1) := by decide +kernel
theorem dX4_streetOnWay_10 : decode cX4_streetOnWay 10 = .ok (.iload_n 3, 1) := by decide +kernel
theorem dX4_streetOnWay_11 : decode cX4_streetOnWay 11 = .ok (.invokevirtual 64, 3) := by decide +kernel
theorem dX4_streetOnWay_14 : decode cX4_streetOnWay 14 = .ok (.istore 5, 2) := by decide +kernel
theorem dX4_streetOnWay_16 : decode cX4_streetOnWay 16 = .ok (.iload 5, 2) := by decide +kernel
theorem dX4_streetOnWay_18 : decode cX4_streetOnWay 18 = .ok (.iconst (-1), 1) := by decide +kernel
theorem dX4_streetOnWay_19 : decode cX4_streetOnWay 19 = .ok (.if_icmp .ne 5, 3) := by decide +kernel
theorem dX4_streetOnWay_22 : decode cX4_streetOnWay 22 = .ok (.iconst (-1), 1) := by decide +kernel
theorem dX4_streetOnWay_23 : decode cX4_streetOnWay 23 = .ok (.ireturn, 1) := by decide +kernel
theorem dX4_streetOnWay_24 : decode cX4_streetOnWay 24 = .ok (.aload_n 0, 1) := by decide +kernel
theorem dX4_streetOnWay_25 : decode cX4_streetOnWay 25 = .ok (.iload_n 2, 1) := by decide +kernel
theorem dX4_streetOnWay_26 : decode cX4_streetOnWay 26 = .ok (.iload_n 3, 1) := by decide +kernel
theorem dX4_streetOnWay_27 : decode cX4_streetOnWay 27 = .ok (.iload 5, 2) := by decide +kernel
theorem dX4_streetOnWay_29 : decode cX4_streetOnWay 29 = .ok (.invokevirtual 67, 3) := by decide +kernel
theorem dX4_streetOnWay_32 : decode cX4_streetOnWay 32 = .ok (.iload_n 1, 1) := by decide +kernel
theorem dX4_streetOnWay_33 : decode cX4_streetOnWay 33 = .ok (.istore 6, 2) := by decide +kernel
theorem dX4_streetOnWay_35 : decode cX4_streetOnWay 35 = .ok (.iload_n 3, 1) := by decide +kernel
theorem dX4_streetOnWay_36 : decode cX4_streetOnWay 36 = .ok (.istore 7, 2) := by decide +kernel
theorem dX4_streetOnWay_38 : decode cX4_streetOnWay 38 = .ok (.iconst 0, 1) := by decide +kernel
theorem dX4_streetOnWay_39 : decode cX4_streetOnWay 39 = .ok (.istore 8, 2) := by decide +kernel
theorem dX4_streetOnWay_41 : decode cX4_streetOnWay 41 = .ok (.iload 8, 2) := by decide +kernel
theorem dX4_streetOnWay_43 : decode cX4_streetOnWay 43 = .ok (.iload 4, 2) := by decide +kernel
theorem dX4_streetOnWay_45 : decode cX4_streetOnWay 45 = .ok (.if_icmp .gt 103, 3) := by decide +kernel
theorem dX4_streetOnWay_48 : decode cX4_streetOnWay 48 = .ok (.iload 8, 2) := by decide +kernel
theorem dX4_streetOnWay_50 : decode cX4_streetOnWay 50 = .ok (.sipush 2000, 3) := by decide +kernel
theorem dX4_streetOnWay_53 : decode cX4_streetOnWay 53 = .ok (.if_icmp .gt 95, 3) := by decide +kernel
theorem dX4_streetOnWay_56 : decode cX4_streetOnWay 56 = .ok (.iload 6, 2) := by decide +kernel
theorem dX4_streetOnWay_58 : decode cX4_streetOnWay 58 = .ok (.iload_n 2, 1) := by decide +kernel
theorem dX4_streetOnWay_59 : decode cX4_streetOnWay 59 = .ok (.if_icmp .eq 89, 3) := by decide +kernel
theorem dX4_streetOnWay_62 : decode cX4_streetOnWay 62 = .ok (.aload_n 0, 1) := by decide +kernel
theorem dX4_streetOnWay_63 : decode cX4_streetOnWay 63 = .ok (.iload 6, 2) := by decide +kernel
theorem dX4_streetOnWay_65 : decode cX4_streetOnWay 65 = .ok (.iload 7, 2) := by decide +kernel
theorem dX4_streetOnWay_67 : decode cX4_streetOnWay 67 = .ok (.invokevirtual 70, 3) := by decide +kernel
theorem dX4_streetOnWay_70 : decode cX4_streetOnWay 70 = .ok (.istore 9, 2) := by decide +kernel
theorem dX4_streetOnWay_72 : decode cX4_streetOnWay 72 = .ok (.iload 9, 2) := by decide +kernel
theorem dX4_streetOnWay_74 : decode cX4_streetOnWay 74 = .ok (.iconst (-1), 1) := by decide +kernel
theorem dX4_streetOnWay_75 : decode cX4_streetOnWay 75 = .ok (.if_icmp .eq 10, 3) := by decide +kernel
theorem dX4_streetOnWay_78 : decode cX4_streetOnWay 78 = .ok (.iload 8, 2) := by decide +kernel
theorem dX4_streetOnWay_80 : decode cX4_streetOnWay 80 = .ok (.iload 4, 2) := by decide +kernel
theorem dX4_streetOnWay_82 : decode cX4_streetOnWay 82 = .ok (.if_icmp .ne 6, 3) := by decide +kernel
theorem dX4_streetOnWay_85 : decode cX4_streetOnWay 85 = .ok (.iload 9, 2) := by decide +kernel
theorem dX4_streetOnWay_87 : decode cX4_streetOnWay 87 = .ok (.ireturn, 1) := by decide +kernel
theorem dX4_streetOnWay_88 : decode cX4_streetOnWay 88 = .ok (.aload_n 0, 1) := by decide +kernel
theorem dX4_streetOnWay_89 : decode cX4_streetOnWay 89 = .ok (.getfield 29, 3) := by decide +kernel
theorem dX4_streetOnWay_92 : decode cX4_streetOnWay 92 = .ok (.iload 9, 2) := by decide +kernel
theorem dX4_streetOnWay_94 : decode cX4_streetOnWay 94 = .ok (.iload 6, 2) := by decide +kernel
theorem dX4_streetOnWay_96 : decode cX4_streetOnWay 96 = .ok (.invokevirtual 47, 3) := by decide +kernel
theorem dX4_streetOnWay_99 : decode cX4_streetOnWay 99 = .ok (.istore 10, 2) := by decide +kernel
theorem dX4_streetOnWay_101 : decode cX4_streetOnWay 101 = .ok (.aload_n 0, 1) := by decide +kernel
theorem dX4_streetOnWay_102 : decode cX4_streetOnWay 102 = .ok (.getfield 29, 3) := by decide +kernel
theorem dX4_streetOnWay_105 : decode cX4_streetOnWay 105 = .ok (.iload 9, 2) := by decide +kernel
theorem dX4_streetOnWay_107 : decode cX4_streetOnWay 107 = .ok (.iload 10, 2) := by decide +kernel
theorem dX4_streetOnWay_109 : decode cX4_streetOnWay 109 = .ok (.iload 7, 2) := by decide +kernel
theorem dX4_streetOnWay_111 : decode cX4_streetOnWay 111 = .ok (.iload 5, 2) := by decide +kernel
theorem dX4_streetOnWay_113 : decode cX4_streetOnWay 113 = .ok (.invokevirtual 57, 3) := by decide +kernel
theorem dX4_streetOnWay_116 : decode cX4_streetOnWay 116 = .ok (.aload_n 0, 1) := by decide +kernel
theorem dX4_streetOnWay_117 : decode cX4_streetOnWay 117 = .ok (.getfield 29, 3) := by decide +kernel
theorem dX4_streetOnWay_120 : decode cX4_streetOnWay 120 = .ok (.getfield 54, 3) := by decide +kernel
theorem dX4_streetOnWay_123 : decode cX4_streetOnWay 123 = .ok (.iload 9, 2) := by decide +kernel
theorem dX4_streetOnWay_125 : decode cX4_streetOnWay 125 = .ok (.iaload, 1) := by decide +kernel
theorem dX4_streetOnWay_126 : decode cX4_streetOnWay 126 = .ok (.iadd, 1) := by decide +kernel
theorem dX4_streetOnWay_127 : decode cX4_streetOnWay 127 = .ok (.istore 7, 2) := by decide +kernel
theorem dX4_streetOnWay_129 : decode cX4_streetOnWay 129 = .ok (.aload_n 0, 1) := by decide +kernel
theorem dX4_streetOnWay_130 : decode cX4_streetOnWay 130 = .ok (.getfield 29, 3) := by decide +kernel
theorem dX4_streetOnWay_133 : decode cX4_streetOnWay 133 = .ok (.iload 9, 2) := by decide +kernel
theorem dX4_streetOnWay_135 : decode cX4_streetOnWay 135 = .ok (.iload 10, 2) := by decide +kernel
theorem dX4_streetOnWay_137 : decode cX4_streetOnWay 137 = .ok (.invokevirtual 51, 3) := by decide +kernel
theorem dX4_streetOnWay_140 : decode cX4_streetOnWay 140 = .ok (.istore 6, 2) := by decide +kernel
theorem dX4_streetOnWay_142 : decode cX4_streetOnWay 142 = .ok (.iinc 8 1, 3) := by decide +kernel
theorem dX4_streetOnWay_145 : decode cX4_streetOnWay 145 = .ok (.goto (-104), 3) := by decide +kernel
theorem dX4_streetOnWay_148 : decode cX4_streetOnWay 148 = .ok (.iconst (-1), 1) := by decide +kernel
theorem dX4_streetOnWay_149 : decode cX4_streetOnWay 149 = .ok (.ireturn, 1) := by decide +kernel
set_option maxRecDepth 20000 in
theorem ggX4_findLatest_X4_clear : GoodIn wsX4_findLatest wsX4_clear := goodIn_r _ [10, 1, 4, 53, 54, 55, 56] (by decide +kernel) (by decide +kernel)
set_option maxRecDepth 20000 in
theorem gX4_findLatest_X4_clear : GoodIn wsX4_findLatest (wsV RX4 30 RX4 yX4_clear wsX4_clear) := goodIn_app (goodIn_of _ (by decide +kernel)) ggX4_findLatest_X4_clear
set_option maxRecDepth 20000 in
theorem ggX4_findLatest_X4_latestUnsettled : GoodIn wsX4_findLatest wsX4_latestUnsettled := goodIn_r _ [14, 2, 3, 4, 1, 53, 54, 55, 56, 57, 58, 59, 60, 61, 62, 63, 64, 65, 66, 67, 68] (by decide +kernel) (by decide +kernel)
set_option maxRecDepth 20000 in
theorem gX4_findLatest_X4_latestUnsettled : GoodIn wsX4_findLatest (wsV RX4 73 RX4 yX4_latestUnsettled wsX4_latestUnsettled) := goodIn_app (goodIn_of _ (by decide +kernel)) ggX4_findLatest_X4_latestUnsettled
set_option maxRecDepth 20000 in
theorem ggX4_findLatest_X4_leaveBy : GoodIn wsX4_findLatest wsX4_leaveBy := goodIn_r _ [18, 2, 1, 19, 20, 21, 22, 23, 24, 25, 26, 27, 28, 29, 30, 31, 32, 33, 34, 35, 36, 37, 38, 39, 40, 41, 42, 43, 44, 45, 46, 47, 48, 49, 50, 51, 52, 53, 54, 55, 56, 57, 58, 59, 60, 61, 62, 63, 64, 65, 66, 67, 68] (by decide +kernel) (by decide +kernel)
set_option maxRecDepth 20000 in
theorem gX4_findLatest_X4_leaveBy : GoodIn wsX4_findLatest (wsV RX4 76 RX4 yX4_leaveBy wsX4_leaveBy) := goodIn_app (goodIn_of _ (by decide +kernel)) ggX4_findLatest_X4_leaveBy
theorem dX4_findLatest_0 : decode cX4_findLatest 0 = .ok (.aload_n 0, 1) := by decide +kernel
theorem dX4_findLatest_1 : decode cX4_findLatest 1 = .ok (.invokevirtual 30, 3) := by decide +kernel
theorem dX4_findLatest_4 : decode cX4_findLatest 4 = .ok (.aload_n 0, 1) := by decide +kernel
theorem dX4_findLatest_5 : decode cX4_findLatest 5 = .ok (.getfield 9, 3) := by decide +kernel
theorem dX4_findLatest_8 : decode cX4_findLatest 8 = .ok (.iload_n 1, 1) := by decide +kernel
theorem dX4_findLatest_9 : decode cX4_findLatest 9 = .ok (.iload_n 3, 1) := by decide +kernel
theorem dX4_findLatest_10 : decode cX4_findLatest 10 = .ok (.iastore, 1) := by decide +kernel
theorem dX4_findLatest_11 : decode cX4_findLatest 11 = .ok (.iconst 0, 1) := by decide +kernel
theorem dX4_findLatest_12 : decode cX4_findLatest 12 = .ok (.istore 4, 2) := by decide +kernel
theorem dX4_findLatest_14 : decode cX4_findLatest 14 = .ok (.iload 4, 2) := by decide +kernel
theorem dX4_findLatest_16 : decode cX4_findLatest 16 = .ok (.aload_n 0, 1) := by decide +kernel
theorem dX4_findLatest_17 : decode cX4_findLatest 17 = .ok (.getfield 29, 3) := by decide +kernel
theorem dX4_findLatest_20 : decode cX4_findLatest 20 = .ok (.getfield 33, 3) := by decide +kernel
theorem dX4_findLatest_23 : decode cX4_findLatest 23 = .ok (.if_icmp .ge 60, 3) := by decide +kernel
theorem dX4_findLatest_26 : decode cX4_findLatest 26 = .ok (.aload_n 0, 1) := by decide +kernel
theorem dX4_findLatest_27 : decode cX4_findLatest 27 = .ok (.invokevirtual 73, 3) := by decide +kernel
theorem dX4_findLatest_30 : decode cX4_findLatest 30 = .ok (.istore 5, 2) := by decide +kernel
theorem dX4_findLatest_32 : decode cX4_findLatest 32 = .ok (.iload 5, 2) := by decide +kernel
theorem dX4_findLatest_34 : decode cX4_findLatest 34 = .ok (.iconst (-1), 1) := by decide +kernel
theorem dX4_findLatest_35 : decode cX4_findLatest 35 = .ok (.if_icmp .ne 4, 3) := by decide +kernel
theorem dX4_findLatest_38 : decode cX4_findLatest 38 = .ok (.return_, 1) := by decide +kernel
theorem dX4_findLatest_39 : decode cX4_findLatest 39 = .ok (.aload_n 0, 1) := by decide +kernel
theorem dX4_findLatest_40 : decode cX4_findLatest 40 = .ok (.getfield 15, 3) := by decide +kernel
theorem dX4_findLatest_43 : decode cX4_findLatest 43 = .ok (.iload 5, 2) := by decide +kernel
theorem dX4_findLatest_45 : decode cX4_findLatest 45 = .ok (.iconst 1, 1) := by decide +kernel
theorem dX4_findLatest_46 : decode cX4_findLatest 46 = .ok (.bastore, 1) := by decide +kernel
theorem dX4_findLatest_47 : decode cX4_findLatest 47 = .ok (.iconst 0, 1) := by decide +kernel
theorem dX4_findLatest_48 : decode cX4_findLatest 48 = .ok (.istore 6, 2) := by decide +kernel
theorem dX4_findLatest_50 : decode cX4_findLatest 50 = .ok (.iload 6, 2) := by decide +kernel
theorem dX4_findLatest_52 : decode cX4_findLatest 52 = .ok (.aload_n 0, 1) := by decide +kernel
theorem dX4_findLatest_53 : decode cX4_findLatest 53 = .ok (.getfield 29, 3) := by decide +kernel
theorem dX4_findLatest_56 : decode cX4_findLatest 56 = .ok (.getfield 61, 3) := by decide +kernel
theorem dX4_findLatest_59 : decode cX4_findLatest 59 = .ok (.if_icmp .ge 18, 3) := by decide +kernel
theorem dX4_findLatest_62 : decode cX4_findLatest 62 = .ok (.aload_n 0, 1) := by decide +kernel
theorem dX4_findLatest_63 : decode cX4_findLatest 63 = .ok (.iload 6, 2) := by decide +kernel
theorem dX4_findLatest_65 : decode cX4_findLatest 65 = .ok (.iload 5, 2) := by decide +kernel
theorem dX4_findLatest_67 : decode cX4_findLatest 67 = .ok (.iload_n 2, 1) := by decide +kernel
theorem dX4_findLatest_68 : decode cX4_findLatest 68 = .ok (.invokevirtual 76, 3) := by decide +kernel
theorem dX4_findLatest_71 : decode cX4_findLatest 71 = .ok (.iinc 6 1, 3) := by decide +kernel
theorem dX4_findLatest_74 : decode cX4_findLatest 74 = .ok (.goto (-24), 3) := by decide +kernel
theorem dX4_findLatest_77 : decode cX4_findLatest 77 = .ok (.iinc 4 1, 3) := by decide +kernel
theorem dX4_findLatest_80 : decode cX4_findLatest 80 = .ok (.goto (-66), 3) := by decide +kernel
theorem dX4_findLatest_83 : decode cX4_findLatest 83 = .ok (.return_, 1) := by decide +kernel
theorem dX4_latestUnsettled_0 : decode cX4_latestUnsettled 0 = .ok (.iconst (-1), 1) := by decide +kernel
theorem dX4_latestUnsettled_1 : decode cX4_latestUnsettled 1 = .ok (.istore_n 1, 1) := by decide +kernel
theorem dX4_latestUnsettled_2 : decode cX4_latestUnsettled 2 = .ok (.iconst 0, 1) := by decide +kernel
theorem dX4_latestUnsettled_3 : decode cX4_latestUnsettled 3 = .ok (.istore_n 2, 1) := by decide +kernel
theorem dX4_latestUnsettled_4 : decode cX4_latestUnsettled 4 = .ok (.iload_n 2, 1) := by decide +kernel
theorem dX4_latestUnsettled_5 : decode cX4_latestUnsettled 5 = .ok (.aload_n 0, 1) := by decide +kernel
theorem dX4_latestUnsettled_6 : decode cX4_latestUnsettled 6 = .ok (.getfield 29, 3) := by decide +kernel
theorem dX4_latestUnsettled_9 : decode cX4_latestUnsettled 9 = .ok (.getfield 33, 3) := by decide +kernel
theorem dX4_latestUnsettled_12 : decode cX4_latestUnsettled 12 = .ok (.if_icmp .ge 50, 3) := by decide +kernel
theorem dX4_latestUnsettled_15 : decode cX4_latestUnsettled 15 = .ok (.aload_n 0, 1) := by decide +kernel
theorem dX4_latestUnsettled_16 : decode cX4_latestUnsettled 16 = .ok (.getfield 15, 3) := by decide +kernel
theorem dX4_latestUnsettled_19 : decode cX4_latestUnsettled 19 = .ok (.iload_n 2, 1) := by decide +kernel
theorem dX4_latestUnsettled_20 : decode cX4_latestUnsettled 20 = .ok (.baload, 1) := by decide +kernel
theorem dX4_latestUnsettled_21 : decode cX4_latestUnsettled 21 = .ok (.ifCond .ne 35, 3) := by decide +kernel
theorem dX4_latestUnsettled_24 : decode cX4_latestUnsettled 24 = .ok (.aload_n 0, 1) := by decide +kernel
theorem dX4_latestUnsettled_25 : decode cX4_latestUnsettled 25 = .ok (.getfield 9, 3) := by decide +kernel
theorem dX4_latestUnsettled_28 : decode cX4_latestUnsettled 28 = .ok (.iload_n 2, 1) := by decide +kernel
theorem dX4_latestUnsettled_29 : decode cX4_latestUnsettled 29 = .ok (.iaload, 1) := by decide +kernel
theorem dX4_latestUnsettled_30 : decode cX4_latestUnsettled 30 = .ok (.iconst (-1), 1) := by decide +kernel
theorem dX4_latestUnsettled_31 : decode cX4_latestUnsettled 31 = .ok (.if_icmp .eq 25, 3) := by decide +kernel
theorem dX4_latestUnsettled_34 : decode cX4_latestUnsettled 34 = .ok (.iload_n 1, 1) := by decide +kernel
theorem dX4_latestUnsettled_35 : decode cX4_latestUnsettled 35 = .ok (.iconst (-1), 1) := by decide +kernel
theorem dX4_latestUnsettled_36 : decode cX4_latestUnsettled 36 = .ok (.if_icmp .eq 18, 3) := by decide +kernel
theorem dX4_latestUnsettled_39 : decode cX4_latestUnsettled 39 = .ok (.aload_n 0, 1) := by decide +kernel
theorem dX4_latestUnsettled_40 : decode cX4_latestUnsettled 40 = .ok (.getfield 9, 3) := by decide +kernel
theorem dX4_latestUnsettled_43 : decode cX4_latestUnsettled 43 = .ok (.iload_n 2, 1) := by decide +kernel
theorem dX4_latestUnsettled_44 : decode cX4_latestUnsettled 44 = .ok (.iaload, 1) := by decide +kernel
theorem dX4_latestUnsettled_45 : decode cX4_latestUnsettled 45 = .ok (.aload_n 0, 1) := by decide +kernel
theorem dX4_latestUnsettled_46 : decode cX4_latestUnsettled 46 = .ok (.getfield 9, 3) := by decide +kernel
theorem dX4_latestUnsettled_49 : decode cX4_latestUnsettled 49 = .ok (.iload_n 1, 1) := by decide +kernel
theorem dX4_latestUnsettled_50 : decode cX4_latestUnsettled 50 = .ok (.iaload, 1) := by decide +kernel
theorem dX4_latestUnsettled_51 : decode cX4_latestUnsettled 51 = .ok (.if_icmp .le 5, 3) := by decide +kernel
theorem dX4_latestUnsettled_54 : decode cX4_latestUnsettled 54 = .ok (.iload_n 2, 1) := by decide +kernel
theorem dX4_latestUnsettled_55 : decode cX4_latestUnsettled 55 = .ok (.istore_n 1, 1) := by decide +kernel
theorem dX4_latestUnsettled_56 : decode cX4_latestUnsettled 56 = .ok (.iinc 2 1, 3) := by decide +kernel
theorem dX4_latestUnsettled_59 : decode cX4_latestUnsettled 59 = .ok (.goto (-55), 3) := by decide +kernel
theorem dX4_latestUnsettled_62 : decode cX4_latestUnsettled 62 = .ok (.iload_n 1, 1) := by decide +kernel
theorem dX4_latestUnsettled_63 : decode cX4_latestUnsettled 63 = .ok (.ireturn, 1) := by decide +kernel
set_option maxRecDepth 20000 in
theorem ggX4_leaveBy_X7_sideOf : GoodIn wsX4_leaveBy wsX7_sideOf := goodIn_r _ [12, 13, 41, 42, 43, 44, 45, 46, 47, 48, 49, 50, 51, 52] (by decide +kernel) (by decide +kernel)
set_option maxRecDepth 20000 in
theorem gX4_leaveBy_X7_sideOf : GoodIn wsX4_leaveBy (wsV RX4 47 RX7 yX7_sideOf wsX7_sideOf) := goodIn_app (goodIn_of _ (by decide +kernel)) ggX4_leaveBy_X7_sideOf
set_option maxRecDepth 20000 in
theorem ggX4_leaveBy_X7_cornerAcross : GoodIn wsX4_leaveBy wsX7_cornerAcross := goodIn_r _ [17, 13, 41, 42, 43, 44, 45, 46, 47, 48, 49, 50, 51, 52] (by decide +kernel) (by decide +kernel)
set_option maxRecDepth 20000 in
theorem gX4_leaveBy_X7_cornerAcross : GoodIn wsX4_leaveBy (wsV RX4 51 RX7 yX7_cornerAcross wsX7_cornerAcross) := goodIn_app (goodIn_of _ (by decide +kernel)) ggX4_leaveBy_X7_cornerAcross
set_option maxRecDepth 20000 in
theorem ggX4_leaveBy_X7_lastOpen : GoodIn wsX4_leaveBy wsX7_lastOpen := goodIn_r _ [21, 22, 23, 24, 11, 25, 26, 27, 28, 29, 30, 31, 32, 33, 34, 35, 36, 41, 42, 43, 44, 45, 46, 47, 48, 49, 50, 51, 52] (by decide +kernel) (by decide +kernel)
set_option maxRecDepth 20000 in
theorem gX4_leaveBy_X7_lastOpen : GoodIn wsX4_leaveBy (wsV RX4 79 RX7 yX7_lastOpen wsX7_lastOpen) := goodIn_app (goodIn_of _ (by decide +kernel)) ggX4_leaveBy_X7_lastOpen
theorem dX4_leaveBy_0 : decode cX4_leaveBy 0 = .ok (.aload_n 0, 1) := by decide +kernel
theorem dX4_leaveBy_1 : decode cX4_leaveBy 1 = .ok (.getfield 29, 3) := by decide +kernel
theorem dX4_leaveBy_4 : decode cX4_leaveBy 4 = .ok (.iload_n 1, 1) := by decide +kernel
theorem dX4_leaveBy_5 : decode cX4_leaveBy 5 = .ok (.iload_n 2, 1) := by decide +kernel
theorem dX4_leaveBy_6 : decode cX4_leaveBy 6 = .ok (.invokevirtual 47, 3) := by decide +kernel
theorem dX4_leaveBy_9 : decode cX4_leaveBy 9 = .ok (.istore 4, 2) := by decide +kernel
theorem dX4_leaveBy_11 : decode cX4_leaveBy 11 = .ok (.iload 4, 2) := by decide +kernel
theorem dX4_leaveBy_13 : decode cX4_leaveBy 13 = .ok (.iconst (-1), 1) := by decide +kernel
theorem dX4_leaveBy_14 : decode cX4_leaveBy 14 = .ok (.if_icmp .ne 4, 3) := by decide +kernel
theorem dX4_leaveBy_17 : decode cX4_leaveBy 17 = .ok (.return_, 1) := by decide +kernel
theorem dX4_leaveBy_18 : decode cX4_leaveBy 18 = .ok (.aload_n 0, 1) := by decide +kernel
theorem dX4_leaveBy_19 : decode cX4_leaveBy 19 = .ok (.getfield 29, 3) := by decide +kernel
theorem dX4_leaveBy_22 : decode cX4_leaveBy 22 = .ok (.iload_n 1, 1) := by decide +kernel
theorem dX4_leaveBy_23 : decode cX4_leaveBy 23 = .ok (.iload 4, 2) := by decide +kernel
theorem dX4_leaveBy_25 : decode cX4_leaveBy 25 = .ok (.invokevirtual 51, 3) := by decide +kernel
theorem dX4_leaveBy_28 : decode cX4_leaveBy 28 = .ok (.istore 5, 2) := by decide +kernel
theorem dX4_leaveBy_30 : decode cX4_leaveBy 30 = .ok (.aload_n 0, 1) := by decide +kernel
theorem dX4_leaveBy_31 : decode cX4_leaveBy 31 = .ok (.getfield 9, 3) := by decide +kernel
theorem dX4_leaveBy_34 : decode cX4_leaveBy 34 = .ok (.iload_n 2, 1) := by decide +kernel
theorem dX4_leaveBy_35 : decode cX4_leaveBy 35 = .ok (.iaload, 1) := by decide +kernel
theorem dX4_leaveBy_36 : decode cX4_leaveBy 36 = .ok (.aload_n 0, 1) := by decide +kernel
theorem dX4_leaveBy_37 : decode cX4_leaveBy 37 = .ok (.getfield 29, 3) := by decide +kernel
theorem dX4_leaveBy_40 : decode cX4_leaveBy 40 = .ok (.getfield 54, 3) := by decide +kernel
theorem dX4_leaveBy_43 : decode cX4_leaveBy 43 = .ok (.iload_n 1, 1) := by decide +kernel
theorem dX4_leaveBy_44 : decode cX4_leaveBy 44 = .ok (.iaload, 1) := by decide +kernel
theorem dX4_leaveBy_45 : decode cX4_leaveBy 45 = .ok (.isub, 1) := by decide +kernel
theorem dX4_leaveBy_46 : decode cX4_leaveBy 46 = .ok (.istore 6, 2) := by decide +kernel
theorem dX4_leaveBy_48 : decode cX4_leaveBy 48 = .ok (.aload_n 0, 1) := by decide +kernel
theorem dX4_leaveBy_49 : decode cX4_leaveBy 49 = .ok (.getfield 9, 3) := by decide +kernel
theorem dX4_leaveBy_52 : decode cX4_leaveBy 52 = .ok (.iload 5, 2) := by decide +kernel
theorem dX4_leaveBy_54 : decode cX4_leaveBy 54 = .ok (.aload_n 0, 1) := by decide +kernel
theorem dX4_leaveBy_55 : decode cX4_leaveBy 55 = .ok (.getfield 9, 3) := by decide +kernel
theorem dX4_leaveBy_58 : decode cX4_leaveBy 58 = .ok (.iload 5, 2) := by decide +kernel
theorem dX4_leaveBy_60 : decode cX4_leaveBy 60 = .ok (.iaload, 1) := by decide +kernel
theorem dX4_leaveBy_61 : decode cX4_leaveBy 61 = .ok (.aload_n 0, 1) := by decide +kernel
theorem dX4_leaveBy_62 : decode cX4_leaveBy 62 = .ok (.getfield 29, 3) := by decide +kernel
theorem dX4_leaveBy_65 : decode cX4_leaveBy 65 = .ok (.iload_n 1, 1) := by decide +kernel
theorem dX4_leaveBy_66 : decode cX4_leaveBy 66 = .ok (.iconst 1, 1) := by decide +kernel
theorem dX4_leaveBy_67 : decode cX4_leaveBy 67 = .ok (.iload 4, 2) := by decide +kernel
theorem dX4_leaveBy_69 : decode cX4_leaveBy 69 = .ok (.isub, 1) := by decide +kernel
theorem dX4_leaveBy_70 : decode cX4_leaveBy 70 = .ok (.iload_n 3, 1) := by decide +kernel
theorem dX4_leaveBy_71 : decode cX4_leaveBy 71 = .ok (.iload 6, 2) := by decide +kernel
theorem dX4_leaveBy_73 : decode cX4_leaveBy 73 = .ok (.invokevirtual 79, 3) := by decide +kernel
theorem dX4_leaveBy_76 : decode cX4_leaveBy 76 = .ok (.invokestatic 82, 3) := by decide +kernel
theorem dX4_leaveBy_79 : decode cX4_leaveBy 79 = .ok (.iastore, 1) := by decide +kernel
theorem dX4_leaveBy_80 : decode cX4_leaveBy 80 = .ok (.return_, 1) := by decide +kernel
set_option maxRecDepth 20000 in
theorem ggX4_leastStreet_X7_sideOf : GoodIn wsX4_leastStreet wsX7_sideOf := goodIn_r _ [9, 10, 38, 39, 40, 41, 42, 43, 44, 45, 46, 47, 48, 49] (by decide +kernel) (by decide +kernel)
set_option maxRecDepth 20000 in
theorem gX4_leastStreet_X7_sideOf : GoodIn wsX4_leastStreet (wsV RX4 47 RX7 yX7_sideOf wsX7_sideOf) := goodIn_app (goodIn_of _ (by decide +kernel)) ggX4_leastStreet_X7_sideOf
set_option maxRecDepth 20000 in
theorem ggX4_leastStreet_X7_cornerAcross : GoodIn wsX4_leastStreet wsX7_cornerAcross := goodIn_r _ [14, 10, 38, 39, 40, 41, 42, 43, 44, 45, 46, 47, 48, 49] (by decide +kernel) (by decide +kernel)
set_option maxRecDepth 20000 in
theorem gX4_leastStreet_X7_cornerAcross : GoodIn wsX4_leastStreet (wsV RX4 51 RX7 yX7_cornerAcross wsX7_cornerAcross) := goodIn_app (goodIn_of _ (by decide +kernel)) ggX4_leastStreet_X7_cornerAcross
set_option maxRecDepth 20000 in
theorem ggX4_leastStreet_X7_firstOpen : GoodIn wsX4_leastStreet wsX7_firstOpen := goodIn_r _ [18, 19, 20, 21, 8, 22, 23, 24, 25, 26, 27, 28, 29, 30, 31, 32, 33, 38, 39, 40, 41, 42, 43, 44, 45, 46, 47, 48, 49] (by decide +kernel) (by decide +kernel)
set_option maxRecDepth 20000 in
theorem gX4_leastStreet_X7_firstOpen : GoodIn wsX4_leastStreet (wsV RX4 57 RX7 yX7_firstOpen wsX7_firstOpen) := goodIn_app (goodIn_of _ (by decide +kernel)) ggX4_leastStreet_X7_firstOpen
theorem dX4_leastStreet_0 : decode cX4_leastStreet 0 = .ok (.iconst 0, 1) := by decide +kernel
theorem dX4_leastStreet_1 : decode cX4_leastStreet 1 = .ok (.istore_n 3, 1) := by decide +kernel
theorem dX4_leastStreet_2 : decode cX4_leastStreet 2 = .ok (.iload_n 3, 1) := by decide +kernel
theorem dX4_leastStreet_3 : decode cX4_leastStreet 3 = .ok (.aload_n 0, 1) := by decide +kernel
theorem dX4_leastStreet_4 : decode cX4_leastStreet 4 = .ok (.getfield 29, 3) := by decide +kernel
theorem dX4_leastStreet_7 : decode cX4_leastStreet 7 = .ok (.getfield 61, 3) := by decide +kernel
theorem dX4_leastStreet_10 : decode cX4_leastStreet 10 = .ok (.if_icmp .ge 78, 3) := by decide +kernel
theorem dX4_leastStreet_13 : decode cX4_leastStreet 13 = .ok (.aload_n 0, 1) := by decide +kernel
theorem dX4_leastStreet_14 : decode cX4_leastStreet 14 = .ok (.getfield 29, 3) := by decide +kernel
theorem dX4_leastStreet_17 : decode cX4_leastStreet 17 = .ok (.iload_n 3, 1) := by decide +kernel
theorem dX4_leastStreet_18 : decode cX4_leastStreet 18 = .ok (.iload_n 1, 1) := by decide +kernel
theorem dX4_leastStreet_19 : decode cX4_leastStreet 19 = .ok (.invokevirtual 47, 3) := by decide +kernel
theorem dX4_leastStreet_22 : decode cX4_leastStreet 22 = .ok (.istore 4, 2) := by decide +kernel
theorem dX4_leastStreet_24 : decode cX4_leastStreet 24 = .ok (.iload 4, 2) := by decide +kernel
theorem dX4_leastStreet_26 : decode cX4_leastStreet 26 = .ok (.iconst (-1), 1) := by decide +kernel
theorem dX4_leastStreet_27 : decode cX4_leastStreet 27 = .ok (.if_icmp .eq 55, 3) := by decide +kernel
theorem dX4_leastStreet_30 : decode cX4_leastStreet 30 = .ok (.aload_n 0, 1) := by decide +kernel
theorem dX4_leastStreet_31 : decode cX4_leastStreet 31 = .ok (.getfield 9, 3) := by decide +kernel
theorem dX4_leastStreet_34 : decode cX4_leastStreet 34 = .ok (.aload_n 0, 1) := by decide +kernel
theorem dX4_leastStreet_35 : decode cX4_leastStreet 35 = .ok (.getfield 29, 3) := by decide +kernel
theorem dX4_leastStreet_38 : decode cX4_leastStreet 38 = .ok (.iload_n 3, 1) := by decide +kernel
theorem dX4_leastStreet_39 : decode cX4_leastStreet 39 = .ok (.iload 4, 2) := by decide +kernel
theorem dX4_leastStreet_41 : decode cX4_leastStreet 41 = .ok (.invokevirtual 51, 3) := by decide +kernel
theorem dX4_leastStreet_44 : decode cX4_leastStreet 44 = .ok (.iaload, 1) := by decide +kernel
theorem dX4_leastStreet_45 : decode cX4_leastStreet 45 = .ok (.aload_n 0, 1) := by decide +kernel
theorem dX4_leastStreet_46 : decode cX4_leastStreet 46 = .ok (.getfield 29, 3) := by decide +kernel
theorem dX4_leastStreet_49 : decode cX4_leastStreet 49 = .ok (.getfield 54, 3) := by decide +kernel
theorem dX4_leastStreet_52 : decode cX4_leastStreet 52 = .ok (.iload_n 3, 1) := by decide +kernel
theorem dX4_leastStreet_53 : decode cX4_leastStreet 53 = .ok (.iaload, 1) := by decide +kernel
theorem dX4_leastStreet_54 : decode cX4_leastStreet 54 = .ok (.isub, 1) := by decide +kernel
theorem dX4_leastStreet_55 : decode cX4_leastStreet 55 = .ok (.istore 5, 2) := by decide +kernel
theorem dX4_leastStreet_57 : decode cX4_leastStreet 57 = .ok (.iload 5, 2) := by decide +kernel
theorem dX4_leastStreet_59 : decode cX4_leastStreet 59 = .ok (.iload_n 2, 1) := by decide +kernel
theorem dX4_leastStreet_60 : decode cX4_leastStreet 60 = .ok (.if_icmp .lt 22, 3) := by decide +kernel
theorem dX4_leastStreet_63 : decode cX4_leastStreet 63 = .ok (.aload_n 0, 1) := by decide +kernel
theorem dX4_leastStreet_64 : decode cX4_leastStreet 64 = .ok (.getfield 29, 3) := by decide +kernel
theorem dX4_leastStreet_67 : decode cX4_leastStreet 67 = .ok (.iload_n 3, 1) := by decide +kernel
theorem dX4_leastStreet_68 : decode cX4_leastStreet 68 = .ok (.iload 4, 2) := by decide +kernel
theorem dX4_leastStreet_70 : decode cX4_leastStreet 70 = .ok (.iload_n 2, 1) := by decide +kernel
theorem dX4_leastStreet_71 : decode cX4_leastStreet 71 = .ok (.iload 5, 2) := by decide +kernel
theorem dX4_leastStreet_73 : decode cX4_leastStreet 73 = .ok (.invokevirtual 57, 3) := by decide +kernel
theorem dX4_leastStreet_76 : decode cX4_leastStreet 76 = .ok (.iconst (-1), 1) := by decide +kernel
theorem dX4_leastStreet_77 : decode cX4_leastStreet 77 = .ok (.if_icmp .eq 5, 3) := by decide +kernel
theorem dX4_leastStreet_80 : decode cX4_leastStreet 80 = .ok (.iload_n 3, 1) := by decide +kernel
theorem dX4_leastStreet_81 : decode cX4_leastStreet 81 = .ok (.ireturn, 1) := by decide +kernel
theorem dX4_leastStreet_82 : decode cX4_leastStreet 82 = .ok (.iinc 3 1, 3) := by decide +kernel
theorem dX4_leastStreet_85 : decode cX4_leastStreet 85 = .ok (.goto (-83), 3) := by decide +kernel
theorem dX4_leastStreet_88 : decode cX4_leastStreet 88 = .ok (.iconst (-1), 1) := by decide +kernel
theorem dX4_leastStreet_89 : decode cX4_leastStreet 89 = .ok (.ireturn, 1) := by decide +kernel
set_option maxRecDepth 20000 in
theorem ggX4_tellBest_X7_tryStreet : GoodIn wsX4_tellBest wsX7_tryStreet := goodIn_r _ [7, 8, 9, 10, 11, 6, 12, 13, 14, 15, 16, 17, 18, 19, 20, 21, 22, 23, 24, 25, 26, 27, 28, 29, 30, 31, 32, 87, 88, 89, 90, 91, 92, 93, 94, 95, 96, 97, 98] (by decide +kernel) (by decide +kernel)
set_option maxRecDepth 20000 in
theorem gX4_tellBest_X7_tryStreet : GoodIn wsX4_tellBest (wsV RX4 87 RX7 yX7_tryStreet wsX7_tryStreet) := goodIn_app (goodIn_of _ (by decide +kernel)) ggX4_tellBest_X7_tryStreet
set_option maxRecDepth 20000 in
theorem ggX4_tellBest_X4_sumOfErrands : GoodIn wsX4_tellBest wsX4_sumOfErrands := goodIn_r _ [37, 38, 39, 1, 40, 41, 42, 43, 44, 45, 36, 46, 47, 2, 48, 49, 50, 51, 52, 53, 54, 55, 56, 57, 58, 59, 60, 61, 62, 30, 31, 6, 32, 13, 63, 64, 65, 66, 67, 68, 69, 70, 71, 72, 73, 74, 16, 15, 75, 76, 77, 78, 79, 80, 26, 81, 82, 83, 84, 85, 86, 99, 100, 101, 102, 103, 104, 105, 106, 107, 108, 109, 110, 111, 112, 87, 88, 89, 90, 91, 92, 93, 94, 95, 96, 97, 98] (by decide +kernel) (by decide +kernel)
set_option maxRecDepth 20000 in
theorem gX4_tellBest_X4_sumOfErrands : GoodIn wsX4_tellBest (wsV RX4 90 RX4 yX4_sumOfErrands wsX4_sumOfErrands) := goodIn_app (goodIn_of _ (by decide +kernel)) ggX4_tellBest_X4_sumOfErrands
theorem dX4_tellBest_0 : decode cX4_tellBest 0 = .ok (.iconst 0, 1) := by decide +kernel
theorem dX4_tellBest_1 : decode cX4_tellBest 1 = .ok (.istore 4, 2) := by decide +kernel
theorem dX4_tellBest_3 : decode cX4_tellBest 3 = .ok (.iconst 1, 1) := by decide +kernel
theorem dX4_tellBest_4 : decode cX4_tellBest 4 = .ok (.istore 5, 2) := by decide +kernel
theorem dX4_tellBest_6 : decode cX4_tellBest 6 = .ok (.sipush 14007, 3) := by decide +kernel
theorem dX4_tellBest_9 : decode cX4_tellBest 9 = .ok (.istore 6, 2) := by decide +kernel
theorem dX4_tellBest_11 : decode cX4_tellBest 11 = .ok (.iconst 0, 1) := by decide +kernel
theorem dX4_tellBest_12 : decode cX4_tellBest 12 = .ok (.istore 7, 2) := by decide +kernel
theorem dX4_tellBest_14 : decode cX4_tellBest 14 = .ok (.iload 7, 2) := by decide +kernel
theorem dX4_tellBest_16 : decode cX4_tellBest 16 = .ok (.aload_n 0, 1) := by decide +kernel
theorem dX4_tellBest_17 : decode cX4_tellBest 17 = .ok (.getfield 29, 3) := by decide +kernel
theorem dX4_tellBest_20 : decode cX4_tellBest 20 = .ok (.getfield 33, 3) := by decide +kernel
theorem dX4_tellBest_23 : decode cX4_tellBest 23 = .ok (.if_icmp .ge 73, 3) := by decide +kernel
theorem dX4_tellBest_26 : decode cX4_tellBest 26 = .ok (.iload 7, 2) := by decide +kernel
theorem dX4_tellBest_28 : decode cX4_tellBest 28 = .ok (.iconst 1, 1) := by decide +kernel
theorem dX4_tellBest_29 : decode cX4_tellBest 29 = .ok (.iadd, 1) := by decide +kernel
theorem dX4_tellBest_30 : decode cX4_tellBest 30 = .ok (.istore 8, 2) := by decide +kernel
theorem dX4_tellBest_32 : decode cX4_tellBest 32 = .ok (.iload 8, 2) := by decide +kernel
theorem dX4_tellBest_34 : decode cX4_tellBest 34 = .ok (.aload_n 0, 1) := by decide +kernel
theorem dX4_tellBest_35 : decode cX4_tellBest 35 = .ok (.getfield 29, 3) := by decide +kernel
theorem dX4_tellBest_38 : decode cX4_tellBest 38 = .ok (.getfield 33, 3) := by decide +kernel
theorem dX4_tellBest_41 : decode cX4_tellBest 41 = .ok (.if_icmp .ge 49, 3) := by decide +kernel
theorem dX4_tellBest_44 : decode cX4_tellBest 44 = .ok (.aload_n 0, 1) := by decide +kernel
theorem dX4_tellBest_45 : decode cX4_tellBest 45 = .ok (.getfield 29, 3) := by decide +kernel
theorem dX4_tellBest_48 : decode cX4_tellBest 48 = .ok (.iload 7, 2) := by decide +kernel
theorem dX4_tellBest_50 : decode cX4_tellBest 50 = .ok (.iload 8, 2) := by decide +kernel
theorem dX4_tellBest_52 : decode cX4_tellBest 52 = .ok (.iload_n 1, 1) := by decide +kernel
theorem dX4_tellBest_53 : decode cX4_tellBest 53 = .ok (.invokevirtual 87, 3) := by decide +kernel
theorem dX4_tellBest_56 : decode cX4_tellBest 56 = .ok (.aload_n 0, 1) := by decide +kernel
theorem dX4_tellBest_57 : decode cX4_tellBest 57 = .ok (.iload_n 2, 1) := by decide +kernel
theorem dX4_tellBest_58 : decode cX4_tellBest 58 = .ok (.iload 6, 2) := by decide +kernel
theorem dX4_tellBest_60 : decode cX4_tellBest 60 = .ok (.invokevirtual 90, 3) := by decide +kernel
theorem dX4_tellBest_63 : decode cX4_tellBest 63 = .ok (.istore 9, 2) := by decide +kernel
theorem dX4_tellBest_65 : decode cX4_tellBest 65 = .ok (.iload 9, 2) := by decide +kernel
theorem dX4_tellBest_67 : decode cX4_tellBest 67 = .ok (.iload 6, 2) := by decide +kernel
theorem dX4_tellBest_69 : decode cX4_tellBest 69 = .ok (.if_icmp .ge 15, 3) := by decide +kernel
theorem dX4_tellBest_72 : decode cX4_tellBest 72 = .ok (.iload 9, 2) := by decide +kernel
theorem dX4_tellBest_74 : decode cX4_tellBest 74 = .ok (.istore 6, 2) := by decide +kernel
theorem dX4_tellBest_76 : decode cX4_tellBest 76 = .ok (.iload 7, 2) := by decide +kernel
theorem dX4_tellBest_78 : decode cX4_tellBest 78 = .ok (.istore 4, 2) := by decide +kernel
theorem dX4_tellBest_80 : decode cX4_tellBest 80 = .ok (.iload 8, 2) := by decide +kernel
theorem dX4_tellBest_82 : decode cX4_tellBest 82 = .ok (.istore 5, 2) := by decide +kernel
theorem dX4_tellBest_84 : decode cX4_tellBest 84 = .ok (.iinc 8 1, 3) := by decide +kernel
theorem dX4_tellBest_87 : decode cX4_tellBest 87 = .ok (.goto (-55), 3) := by decide +kernel
theorem dX4_tellBest_90 : decode cX4_tellBest 90 = .ok (.iinc 7 1, 3) := by decide +kernel
theorem dX4_tellBest_93 : decode cX4_tellBest 93 = .ok (.goto (-79), 3) := by decide +kernel
theorem dX4_tellBest_96 : decode cX4_tellBest 96 = .ok (.iload_n 3, 1) := by decide +kernel
theorem dX4_tellBest_97 : decode cX4_tellBest 97 = .ok (.iconst 2, 1) := by decide +kernel
theorem dX4_tellBest_98 : decode cX4_tellBest 98 = .ok (.if_icmp .ne 6, 3) := by decide +kernel
theorem dX4_tellBest_101 : decode cX4_tellBest 101 = .ok (.iload 6, 2) := by decide +kernel
theorem dX4_tellBest_103 : decode cX4_tellBest 103 = .ok (.ireturn, 1) := by decide +kernel
theorem dX4_tellBest_104 : decode cX4_tellBest 104 = .ok (.iload_n 3, 1) := by decide +kernel
theorem dX4_tellBest_105 : decode cX4_tellBest 105 = .ok (.ifCond .ne 8, 3) := by decide +kernel
theorem dX4_tellBest_108 : decode cX4_tellBest 108 = .ok (.iload 4, 2) := by decide +kernel
theorem dX4_tellBest_110 : decode cX4_tellBest 110 = .ok (.goto 5, 3) := by decide +kernel
theorem dX4_tellBest_113 : decode cX4_tellBest 113 = .ok (.iload 5, 2) := by decide +kernel
theorem dX4_tellBest_115 : decode cX4_tellBest 115 = .ok (.ireturn, 1) := by decide +kernel
set_option maxRecDepth 20000 in
theorem ggX4_sumOfErrands_X4_firstArrival : GoodIn wsX4_sumOfErrands wsX4_firstArrival := goodIn_r _ [11, 12, 3, 13, 14, 15, 16, 17, 10, 18, 19, 20, 21, 22, 23, 24, 25, 26, 27, 28, 29, 30, 31, 32, 33, 34, 35, 36, 37, 38, 39, 40, 41, 42, 43, 44, 45, 46, 47, 48, 49, 50, 51, 52, 53, 54, 55, 56, 57, 58, 59, 60, 75, 76, 77, 78, 79, 80, 81, 82, 83, 84, 85, 86] (by decide +kernel) (by decide +kernel)
set_option maxRecDepth 20000 in
theorem gX4_sumOfErrands_X4_firstArrival : GoodIn wsX4_sumOfErrands (wsV RX4 64 RX4 yX4_firstArrival wsX4_firstArrival) := goodIn_app (goodIn_of _ (by decide +kernel)) ggX4_sumOfErrands_X4_firstArrival
theorem dX4_sumOfErrands_0 : decode cX4_sumOfErrands 0 = .ok (.iconst 0, 1) := by decide +kernel
theorem dX4_sumOfErrands_1 : decode cX4_sumOfErrands 1 = .ok (.istore_n 3, 1) := by decide +kernel
theorem dX4_sumOfErrands_2 : decode cX4_sumOfErrands 2 = .ok (.iconst 0, 1) := by decide +kernel
theorem dX4_sumOfErrands_3 : decode cX4_sumOfErrands 3 = .ok (.istore 4, 2) := by decide +kernel
theorem dX4_sumOfErrands_5 : decode cX4_sumOfErrands 5 = .ok (.iload 4, 2) := by decide +kernel
theorem dX4_sumOfErrands_7 : decode cX4_sumOfErrands 7 = .ok (.aload_n 0, 1) := by decide +kernel
theorem dX4_sumOfErrands_8 : decode cX4_sumOfErrands 8 = .ok (.getfield 19, 3) := by decide +kernel
theorem dX4_sumOfErrands_11 : decode cX4_sumOfErrands 11 = .ok (.getfield 93, 3) := by decide +kernel
theorem dX4_sumOfErrands_14 : decode cX4_sumOfErrands 14 = .ok (.if_icmp .ge 69, 3) := by decide +kernel
theorem dX4_sumOfErrands_17 : decode cX4_sumOfErrands 17 = .ok (.iload_n 3, 1) := by decide +kernel
theorem dX4_sumOfErrands_18 : decode cX4_sumOfErrands 18 = .ok (.iload_n 2, 1) := by decide +kernel
theorem dX4_sumOfErrands_19 : decode cX4_sumOfErrands 19 = .ok (.if_icmp .ge 64, 3) := by decide +kernel
theorem dX4_sumOfErrands_22 : decode cX4_sumOfErrands 22 = .ok (.aload_n 0, 1) := by decide +kernel
theorem dX4_sumOfErrands_23 : decode cX4_sumOfErrands 23 = .ok (.aload_n 0, 1) := by decide +kernel
theorem dX4_sumOfErrands_24 : decode cX4_sumOfErrands 24 = .ok (.getfield 29, 3) := by decide +kernel
theorem dX4_sumOfErrands_27 : decode cX4_sumOfErrands 27 = .ok (.getfield 61, 3) := by decide +kernel
theorem dX4_sumOfErrands_30 : decode cX4_sumOfErrands 30 = .ok (.iconst 1, 1) := by decide +kernel
theorem dX4_sumOfErrands_31 : decode cX4_sumOfErrands 31 = .ok (.iadd, 1) := by decide +kernel
theorem dX4_sumOfErrands_32 : decode cX4_sumOfErrands 32 = .ok (.aload_n 0, 1) := by decide +kernel
theorem dX4_sumOfErrands_33 : decode cX4_sumOfErrands 33 = .ok (.getfield 19, 3) := by decide +kernel
theorem dX4_sumOfErrands_36 : decode cX4_sumOfErrands 36 = .ok (.getfield 96, 3) := by decide +kernel
theorem dX4_sumOfErrands_39 : decode cX4_sumOfErrands 39 = .ok (.iload 4, 2) := by decide +kernel
theorem dX4_sumOfErrands_41 : decode cX4_sumOfErrands 41 = .ok (.iaload, 1) := by decide +kernel
theorem dX4_sumOfErrands_42 : decode cX4_sumOfErrands 42 = .ok (.aload_n 0, 1) := by decide +kernel
theorem dX4_sumOfErrands_43 : decode cX4_sumOfErrands 43 = .ok (.getfield 19, 3) := by decide +kernel
theorem dX4_sumOfErrands_46 : decode cX4_sumOfErrands 46 = .ok (.getfield 99, 3) := by decide +kernel
theorem dX4_sumOfErrands_49 : decode cX4_sumOfErrands 49 = .ok (.iload 4, 2) := by decide +kernel
theorem dX4_sumOfErrands_51 : decode cX4_sumOfErrands 51 = .ok (.iaload, 1) := by decide +kernel
theorem dX4_sumOfErrands_52 : decode cX4_sumOfErrands 52 = .ok (.iload_n 1, 1) := by decide +kernel
theorem dX4_sumOfErrands_53 : decode cX4_sumOfErrands 53 = .ok (.invokevirtual 64, 3) := by decide +kernel
theorem dX4_sumOfErrands_56 : decode cX4_sumOfErrands 56 = .ok (.istore 5, 2) := by decide +kernel
theorem dX4_sumOfErrands_58 : decode cX4_sumOfErrands 58 = .ok (.iload_n 3, 1) := by decide +kernel
theorem dX4_sumOfErrands_59 : decode cX4_sumOfErrands 59 = .ok (.iload 5, 2) := by decide +kernel
theorem dX4_sumOfErrands_61 : decode cX4_sumOfErrands 61 = .ok (.iconst (-1), 1) := by decide +kernel
theorem dX4_sumOfErrands_62 : decode cX4_sumOfErrands 62 = .ok (.if_icmp .ne 9, 3) := by decide +kernel
theorem dX4_sumOfErrands_65 : decode cX4_sumOfErrands 65 = .ok (.sipush 2001, 3) := by decide +kernel
theorem dX4_sumOfErrands_68 : decode cX4_sumOfErrands 68 = .ok (.goto 7, 3) := by decide +kernel
theorem dX4_sumOfErrands_71 : decode cX4_sumOfErrands 71 = .ok (.iload 5, 2) := by decide +kernel
theorem dX4_sumOfErrands_73 : decode cX4_sumOfErrands 73 = .ok (.iload_n 1, 1) := by decide +kernel
theorem dX4_sumOfErrands_74 : decode cX4_sumOfErrands 74 = .ok (.isub, 1) := by decide +kernel
theorem dX4_sumOfErrands_75 : decode cX4_sumOfErrands 75 = .ok (.iadd, 1) := by decide +kernel
theorem dX4_sumOfErrands_76 : decode cX4_sumOfErrands 76 = .ok (.istore_n 3, 1) := by decide +kernel
theorem dX4_sumOfErrands_77 : decode cX4_sumOfErrands 77 = .ok (.iinc 4 1, 3) := by decide +kernel
theorem dX4_sumOfErrands_80 : decode cX4_sumOfErrands 80 = .ok (.goto (-75), 3) := by decide +kernel
theorem dX4_sumOfErrands_83 : decode cX4_sumOfErrands 83 = .ok (.iload_n 3, 1) := by decide +kernel
theorem dX4_sumOfErrands_84 : decode cX4_sumOfErrands 84 = .ok (.ireturn, 1) := by decide +kernel
set_option maxRecDepth 20000 in
theorem ggX5_init_X7_init : GoodIn wsX5_init wsX7_init := goodIn_r _ [21, 22, 2, 3, 8, 23, 24, 25, 26, 27, 28, 29, 30, 35, 36, 37, 38, 39, 40, 41, 42, 43, 44, 45, 46] (by decide +kernel) (by decide +kernel)
set_option maxRecDepth 20000 in
theorem gX5_init_X7_init : GoodIn wsX5_init (wsX7_init) := ggX5_init_X7_init
set_option maxRecDepth 20000 in
theorem ggX5_init_X9_init : GoodIn wsX5_init wsX9_init := goodIn_r _ [33, 34, 2, 3] (by decide +kernel) (by decide +kernel)
set_option maxRecDepth 20000 in
theorem gX5_init_X9_init : GoodIn wsX5_init (wsX9_init) := ggX5_init_X9_init
theorem dX5_init_0 : decode cX5_init 0 = .ok (.aload_n 0, 1) := by decide +kernel
theorem dX5_init_1 : decode cX5_init 1 = .ok (.invokespecial 3, 3) := by decide +kernel
theorem dX5_init_4 : decode cX5_init 4 = .ok (.aload_n 0, 1) := by decide +kernel
theorem dX5_init_5 : decode cX5_init 5 = .ok (.new 9, 3) := by decide +kernel
theorem dX5_init_8 : decode cX5_init 8 = .ok (.dup, 1) := by decide +kernel
theorem dX5_init_9 : decode cX5_init 9 = .ok (.invokespecial 11, 3) := by decide +kernel
theorem dX5_init_12 : decode cX5_init 12 = .ok (.putfield 12, 3) := by decide +kernel
theorem dX5_init_15 : decode cX5_init 15 = .ok (.aload_n 0, 1) := by decide +kernel
theorem dX5_init_16 : decode cX5_init 16 = .ok (.bipush 48, 2) := by decide +kernel
theorem dX5_init_18 : decode cX5_init 18 = .ok (.newarray .int, 2) := by decide +kernel
theorem dX5_init_20 : decode cX5_init 20 = .ok (.putfield 18, 3) := by decide +kernel
theorem dX5_init_23 : decode cX5_init 23 = .ok (.aload_n 0, 1) := by decide +kernel
theorem dX5_init_24 : decode cX5_init 24 = .ok (.iconst 4, 1) := by decide +kernel
theorem dX5_init_25 : decode cX5_init 25 = .ok (.anewarray 22, 3) := by decide +kernel
theorem dX5_init_28 : decode cX5_init 28 = .ok (.putfield 24, 3) := by decide +kernel
theorem dX5_init_31 : decode cX5_init 31 = .ok (.aload_n 0, 1) := by decide +kernel
theorem dX5_init_32 : decode cX5_init 32 = .ok (.bipush 6, 2) := by decide +kernel
theorem dX5_init_34 : decode cX5_init 34 = .ok (.newarray .int, 2) := by decide +kernel
theorem dX5_init_36 : decode cX5_init 36 = .ok (.putfield 28, 3) := by decide +kernel
theorem dX5_init_39 : decode cX5_init 39 = .ok (.aload_n 0, 1) := by decide +kernel
theorem dX5_init_40 : decode cX5_init 40 = .ok (.bipush 6, 2) := by decide +kernel
theorem dX5_init_42 : decode cX5_init 42 = .ok (.newarray .int, 2) := by decide +kernel
theorem dX5_init_44 : decode cX5_init 44 = .ok (.putfield 31, 3) := by decide +kernel
theorem dX5_init_47 : decode cX5_init 47 = .ok (.aload_n 0, 1) := by decide +kernel
theorem dX5_init_48 : decode cX5_init 48 = .ok (.bipush 12, 2) := by decide +kernel
theorem dX5_init_50 : decode cX5_init 50 = .ok (.newarray .int, 2) := by decide +kernel
theorem dX5_init_52 : decode cX5_init 52 = .ok (.putfield 34, 3) := by decide +kernel
theorem dX5_init_55 : decode cX5_init 55 = .ok (.aload_n 0, 1) := by decide +kernel
theorem dX5_init_56 : decode cX5_init 56 = .ok (.bipush 12, 2) := by decide +kernel
theorem dX5_init_58 : decode cX5_init 58 = .ok (.newarray .int, 2) := by decide +kernel
theorem dX5_init_60 : decode cX5_init 60 = .ok (.putfield 37, 3) := by decide +kernel
theorem dX5_init_63 : decode cX5_init 63 = .ok (.aload_n 0, 1) := by decide +kernel
theorem dX5_init_64 : decode cX5_init 64 = .ok (.bipush 8, 2) := by decide +kernel
theorem dX5_init_66 : decode cX5_init 66 = .ok (.newarray .int, 2) := by decide +kernel
theorem dX5_init_68 : decode cX5_init 68 = .ok (.putfield 40, 3) := by decide +kernel
theorem dX5_init_71 : decode cX5_init 71 = .ok (.iconst 0, 1) := by decide +kernel
theorem dX5_init_72 : decode cX5_init 72 = .ok (.istore_n 1, 1) := by decide +kernel
theorem dX5_init_73 : decode cX5_init 73 = .ok (.iload_n 1, 1) := by decide +kernel
theorem dX5_init_74 : decode cX5_init 74 = .ok (.iconst 4, 1) := by decide +kernel
theorem dX5_init_75 : decode cX5_init 75 = .ok (.if_icmp .ge 22, 3) := by decide +kernel
theorem dX5_init_78 : decode cX5_init 78 = .ok (.aload_n 0, 1) := by decide +kernel
theorem dX5_init_79 : decode cX5_init 79 = .ok (.getfield 24, 3) := by decide +kernel
theorem dX5_init_82 : decode cX5_init 82 = .ok (.iload_n 1, 1) := by decide +kernel
theorem dX5_init_83 : decode cX5_init 83 = .ok (.new 22, 3) := by decide +kernel
theorem dX5_init_86 : decode cX5_init 86 = .ok (.dup, 1) := by decide +kernel
theorem dX5_init_87 : decode cX5_init 87 = .ok (.invokespecial 43, 3) := by decide +kernel
theorem dX5_init_90 : decode cX5_init 90 = .ok (.aastore, 1) := by decide +kernel
theorem dX5_init_91 : decode cX5_init 91 = .ok (.iinc 1 1, 3) := by decide +kernel
theorem dX5_init_94 : decode cX5_init 94 = .ok (.goto (-21), 3) := by decide +kernel
theorem dX5_init_97 : decode cX5_init 97 = .ok (.return_, 1) := by decide +kernel
theorem dX5_hasTown_0 : decode cX5_hasTown 0 = .ok (.aload_n 0, 1) := by decide +kernel
theorem dX5_hasTown_1 : decode cX5_hasTown 1 = .ok (.getfield 12, 3) := by decide +kernel
theorem dX5_hasTown_4 : decode cX5_hasTown 4 = .ok (.getfield 44, 3) := by decide +kernel
theorem dX5_hasTown_7 : decode cX5_hasTown 7 = .ok (.ifCond .le 7, 3) := by decide +kernel
theorem dX5_hasTown_10 : decode cX5_hasTown 10 = .ok (.iconst 1, 1) := by decide +kernel
theorem dX5_hasTown_11 : decode cX5_hasTown 11 = .ok (.goto 4, 3) := by decide +kernel
theorem dX5_hasTown_14 : decode cX5_hasTown 14 = .ok (.iconst 0, 1) := by decide +kernel
theorem dX5_hasTown_15 : decode cX5_hasTown 15 = .ok (.ireturn, 1) := by decide +kernel
set_option maxRecDepth 20000 in
theorem ggX5_moveTo_X7_copyFrom : GoodIn wsX5_moveTo wsX7_copyFrom := goodIn_r _ [11, 12, 13, 14, 15, 16, 17, 18, 19, 20, 21, 22, 23, 24, 25, 26, 27, 42, 43, 44, 45, 46, 47, 48, 49, 50, 51, 52, 53] (by decide +kernel) (by decide +kernel)
set_option maxRecDepth 20000 in
theorem gX5_moveTo_X7_copyFrom : GoodIn wsX5_moveTo (wsV RX5 48 RX7 yX7_copyFrom wsX7_copyFrom) := goodIn_app (goodIn_of _ (by decide +kernel)) ggX5_moveTo_X7_copyFrom
theorem dX5_moveTo_0 : decode cX5_moveTo 0 = .ok (.aload_n 0, 1) := by decide +kernel
theorem dX5_moveTo_1 : decode cX5_moveTo 1 = .ok (.getfield 12, 3) := by decide +kernel
theorem dX5_moveTo_4 : decode cX5_moveTo 4 = .ok (.aload_n 1, 1) := by decide +kernel
theorem dX5_moveTo_5 : decode cX5_moveTo 5 = .ok (.invokevirtual 48, 3) := by decide +kernel
theorem dX5_moveTo_8 : decode cX5_moveTo 8 = .ok (.aload_n 0, 1) := by decide +kernel
theorem dX5_moveTo_9 : decode cX5_moveTo 9 = .ok (.iconst 0, 1) := by decide +kernel
theorem dX5_moveTo_10 : decode cX5_moveTo 10 = .ok (.putfield 52, 3) := by decide +kernel
theorem dX5_moveTo_13 : decode cX5_moveTo 13 = .ok (.aload_n 0, 1) := by decide +kernel
theorem dX5_moveTo_14 : decode cX5_moveTo 14 = .ok (.iconst 0, 1) := by decide +kernel
theorem dX5_moveTo_15 : decode cX5_moveTo 15 = .ok (.putfield 55, 3) := by decide +kernel
theorem dX5_moveTo_18 : decode cX5_moveTo 18 = .ok (.aload_n 0, 1) := by decide +kernel
theorem dX5_moveTo_19 : decode cX5_moveTo 19 = .ok (.iconst 0, 1) := by decide +kernel
theorem dX5_moveTo_20 : decode cX5_moveTo 20 = .ok (.putfield 58, 3) := by decide +kernel
theorem dX5_moveTo_23 : decode cX5_moveTo 23 = .ok (.aload_n 0, 1) := by decide +kernel
theorem dX5_moveTo_24 : decode cX5_moveTo 24 = .ok (.iconst 0, 1) := by decide +kernel
theorem dX5_moveTo_25 : decode cX5_moveTo 25 = .ok (.putfield 61, 3) := by decide +kernel
theorem dX5_moveTo_28 : decode cX5_moveTo 28 = .ok (.aload_n 0, 1) := by decide +kernel
theorem dX5_moveTo_29 : decode cX5_moveTo 29 = .ok (.iconst 0, 1) := by decide +kernel
theorem dX5_moveTo_30 : decode cX5_moveTo 30 = .ok (.putfield 64, 3) := by decide +kernel
theorem dX5_moveTo_33 : decode cX5_moveTo 33 = .ok (.return_, 1) := by decide +kernel
set_option maxRecDepth 20000 in
theorem ggX5_copyFrom_X5_moveTo : GoodIn wsX5_copyFrom wsX5_moveTo := goodIn_r _ [23, 1, 13, 14, 15, 16, 17, 24, 25, 26, 27, 28, 29, 30, 4, 5, 6, 31, 32, 33, 34, 35, 36, 37, 38, 39, 40, 41, 61, 62, 63, 64, 65, 66, 67, 68, 69, 70, 71, 72, 73, 74, 75, 76, 77, 78, 79, 80, 81, 82, 83, 84, 85, 86] (by decide +kernel) (by decide +kernel)
set_option maxRecDepth 20000 in
theorem gX5_copyFrom_X5_moveTo : GoodIn wsX5_copyFrom (wsV RX5 67 RX5 yX5_moveTo wsX5_moveTo) := goodIn_app (goodIn_of _ (by decide +kernel)) ggX5_copyFrom_X5_moveTo
set_option maxRecDepth 20000 in
theorem ggX5_copyFrom_X9_copyFrom : GoodIn wsX5_copyFrom wsX9_copyFrom := goodIn_r _ [46, 47, 48, 49, 50, 51, 52, 53, 54, 55, 56, 57, 58, 45, 59, 60, 87, 88, 89, 90, 91, 92, 93, 94, 95] (by decide +kernel) (by decide +kernel)
set_option maxRecDepth 20000 in
theorem gX5_copyFrom_X9_copyFrom : GoodIn wsX5_copyFrom (wsV RX5 76 RX9 yX9_copyFrom wsX9_copyFrom) := goodIn_app (goodIn_of _ (by decide +kernel)) ggX5_copyFrom_X9_copyFrom
theorem dX5_copyFrom_0 : decode cX5_copyFrom 0 = .ok (.aload_n 0, 1) := by decide +kernel
theorem dX5_copyFrom_1 : decode cX5_copyFrom 1 = .ok (.aload_n 1, 1) := by decide +kernel
theorem dX5_copyFrom_2 : decode cX5_copyFrom 2 = .ok (.getfield 12, 3) := by decide +kernel
theorem dX5_copyFrom_5 : decode cX5_copyFrom 5 = .ok (.invokevirtual 67, 3) := by decide +kernel
theorem dX5_copyFrom_8 : decode cX5_copyFrom 8 = .ok (.aload_n 1, 1) := by decide +kernel
theorem dX5_copyFrom_9 : decode cX5_copyFrom 9 = .ok (.getfield 18, 3) := by decide +kernel
theorem dX5_copyFrom_12 : decode cX5_copyFrom 12 = .ok (.iconst 0, 1) := by decide +kernel
theorem dX5_copyFrom_13 : decode cX5_copyFrom 13 = .ok (.aload_n 0, 1) := by decide +kernel
theorem dX5_copyFrom_14 : decode cX5_copyFrom 14 = .ok (.getfield 18, 3) := by decide +kernel
theorem dX5_copyFrom_17 : decode cX5_copyFrom 17 = .ok (.iconst 0, 1) := by decide +kernel
theorem dX5_copyFrom_18 : decode cX5_copyFrom 18 = .ok (.aload_n 0, 1) := by decide +kernel
theorem dX5_copyFrom_19 : decode cX5_copyFrom 19 = .ok (.getfield 18, 3) := by decide +kernel
theorem dX5_copyFrom_22 : decode cX5_copyFrom 22 = .ok (.arraylength, 1) := by decide +kernel
theorem dX5_copyFrom_23 : decode cX5_copyFrom 23 = .ok (.invokestatic 70, 3) := by decide +kernel
theorem dX5_copyFrom_26 : decode cX5_copyFrom 26 = .ok (.iconst 0, 1) := by decide +kernel
theorem dX5_copyFrom_27 : decode cX5_copyFrom 27 = .ok (.istore_n 2, 1) := by decide +kernel
theorem dX5_copyFrom_28 : decode cX5_copyFrom 28 = .ok (.iload_n 2, 1) := by decide +kernel
theorem dX5_copyFrom_29 : decode cX5_copyFrom 29 = .ok (.iconst 4, 1) := by decide +kernel
theorem dX5_copyFrom_30 : decode cX5_copyFrom 30 = .ok (.if_icmp .ge 24, 3) := by decide +kernel
theorem dX5_copyFrom_33 : decode cX5_copyFrom 33 = .ok (.aload_n 0, 1) := by decide +kernel
theorem dX5_copyFrom_34 : decode cX5_copyFrom 34 = .ok (.getfield 24, 3) := by decide +kernel
theorem dX5_copyFrom_37 : decode cX5_copyFrom 37 = .ok (.iload_n 2, 1) := by decide +kernel
theorem dX5_copyFrom_38 : decode cX5_copyFrom 38 = .ok (.aaload, 1) := by decide +kernel
theorem dX5_copyFrom_39 : decode cX5_copyFrom 39 = .ok (.aload_n 1, 1) := by decide +kernel
theorem dX5_copyFrom_40 : decode cX5_copyFrom 40 = .ok (.getfield 24, 3) := by decide +kernel
theorem dX5_copyFrom_43 : decode cX5_copyFrom 43 = .ok (.iload_n 2, 1) := by decide +kernel
theorem dX5_copyFrom_44 : decode cX5_copyFrom 44 = .ok (.aaload, 1) := by decide +kernel
theorem dX5_copyFrom_45 : decode cX5_copyFrom 45 = .ok (.invokevirtual 76, 3) := by decide +kernel
theorem dX5_copyFrom_48 : decode cX5_copyFrom 48 = .ok (.iinc 2 1, 3) := by decide +kernel
theorem dX5_copyFrom_51 : decode cX5_copyFrom 51 = .ok (.goto (-23), 3) := by decide +kernel
theorem dX5_copyFrom_54 : decode cX5_copyFrom 54 = .ok (.aload_n 1, 1) := by decide +kernel
theorem dX5_copyFrom_55 : decode cX5_copyFrom 55 = .ok (.getfield 28, 3) := by decide +kernel
theorem dX5_copyFrom_58 : decode cX5_copyFrom 58 = .ok (.iconst 0, 1) := by decide +kernel
theorem dX5_copyFrom_59 : decode cX5_copyFrom 59 = .ok (.aload_n 0, 1) := by decide +kernel
theorem dX5_copyFrom_60 : decode cX5_copyFrom 60 = .ok (.getfield 28, 3) := by decide +kernel
theorem dX5_copyFrom_63 : decode cX5_copyFrom 63 = .ok (.iconst 0, 1) := by decide +kernel
theorem dX5_copyFrom_64 : decode cX5_copyFrom 64 = .ok (.bipush 6, 2) := by decide +kernel
theorem dX5_copyFrom_66 : decode cX5_copyFrom 66 = .ok (.invokestatic 70, 3) := by decide +kernel
theorem dX5_copyFrom_69 : decode cX5_copyFrom 69 = .ok (.aload_n 1, 1) := by decide +kernel
theorem dX5_copyFrom_70 : decode cX5_copyFrom 70 = .ok (.getfield 31, 3) := by decide +kernel
theorem dX5_copyFrom_73 : decode cX5_copyFrom 73 = .ok (.iconst 0, 1) := by decide +kernel
theorem dX5_copyFrom_74 : decode cX5_copyFrom 74 = .ok (.aload_n 0, 1) := by decide +kernel
theorem dX5_copyFrom_75 : decode cX5_copyFrom 75 = .ok (.getfield 31, 3) := by decide +kernel
theorem dX5_copyFrom_78 : decode cX5_copyFrom 78 = .ok (.iconst 0, 1) := by decide +kernel
theorem dX5_copyFrom_79 : decode cX5_copyFrom 79 = .ok (.bipush 6, 2) := by decide +kernel
theorem dX5_copyFrom_81 : decode cX5_copyFrom 81 = .ok (.invokestatic 70, 3) := by decide +kernel
theorem dX5_copyFrom_84 : decode cX5_copyFrom 84 = .ok (.aload_n 1, 1) := by decide +kernel
theorem dX5_copyFrom_85 : decode cX5_copyFrom 85 = .ok (.getfield 34, 3) := by decide +kernel
theorem dX5_copyFrom_88 : decode cX5_copyFrom 88 = .ok (.iconst 0, 1) := by decide +kernel
theorem dX5_copyFrom_89 : decode cX5_copyFrom 89 = .ok (.aload_n 0, 1) := by decide +kernel
theorem dX5_copyFrom_90 : decode cX5_copyFrom 90 = .ok (.getfield 34, 3) := by decide +kernel
theorem dX5_copyFrom_93 : decode cX5_copyFrom 93 = .ok (.iconst 0, 1) := by decide +kernel
theorem dX5_copyFrom_94 : decode cX5_copyFrom 94 = .ok (.bipush 12, 2) := by decide +kernel
theorem dX5_copyFrom_96 : decode cX5_copyFrom 96 = .ok (.invokestatic 70, 3) := by decide +kernel
theorem dX5_copyFrom_99 : decode cX5_copyFrom 99 = .ok (.aload_n 1, 1) := by decide +kernel
theorem dX5_copyFrom_100 : decode cX5_copyFrom 100 = .ok (.getfield 37, 3) := by decide +kernel
theorem dX5_copyFrom_103 : decode cX5_copyFrom 103 = .ok (.iconst 0, 1) := by decide +kernel
theorem dX5_copyFrom_104 : decode cX5_copyFrom 104 = .ok (.aload_n 0, 1) := by decide +kernel
theorem dX5_copyFrom_105 : decode cX5_copyFrom 105 = .ok (.getfield 37, 3) := by decide +kernel
theorem dX5_copyFrom_108 : decode cX5_copyFrom 108 = .ok (.iconst 0, 1) := by decide +kernel
theorem dX5_copyFrom_109 : decode cX5_copyFrom 109 = .ok (.bipush 12, 2) := by decide +kernel
theorem dX5_copyFrom_111 : decode cX5_copyFrom 111 = .ok (.invokestatic 70, 3) := by decide +kernel
theorem dX5_copyFrom_114 : decode cX5_copyFrom 114 = .ok (.aload_n 1, 1) := by decide +kernel
theorem dX5_copyFrom_115 : decode cX5_copyFrom 115 = .ok (.getfield 40, 3) := by decide +kernel
theorem dX5_copyFrom_118 : decode cX5_copyFrom 118 = .ok (.iconst 0, 1) := by decide +kernel
theorem dX5_copyFrom_119 : decode cX5_copyFrom 119 = .ok (.aload_n 0, 1) := by decide +kernel
theorem dX5_copyFrom_120 : decode cX5_copyFrom 120 = .ok (.getfield 40, 3) := by decide +kernel
theorem dX5_copyFrom_123 : decode cX5_copyFrom 123 = .ok (.iconst 0, 1) := by decide +kernel
theorem dX5_copyFrom_124 : decode cX5_copyFrom 124 = .ok (.bipush 8, 2) := by decide +kernel
theorem dX5_copyFrom_126 : decode cX5_copyFrom 126 = .ok (.invokestatic 70, 3) := by decide +kernel
theorem dX5_copyFrom_129 : decode cX5_copyFrom 129 = .ok (.aload_n 0, 1) := by decide +kernel
theorem dX5_copyFrom_130 : decode cX5_copyFrom 130 = .ok (.aload_n 1, 1) := by decide +kernel
theorem dX5_copyFrom_131 : decode cX5_copyFrom 131 = .ok (.getfield 52, 3) := by decide +kernel
theorem dX5_copyFrom_134 : decode cX5_copyFrom 134 = .ok (.putfield 52, 3) := by decide +kernel
theorem dX5_copyFrom_137 : decode cX5_copyFrom 137 = .ok (.aload_n 0, 1) := by decide +kernel
theorem dX5_copyFrom_138 : decode cX5_copyFrom 138 = .ok (.aload_n 1, 1) := by decide +kernel
theorem dX5_copyFrom_139 : decode cX5_copyFrom 139 = .ok (.getfield 55, 3) := by decide +kernel
theorem dX5_copyFrom_142 : decode cX5_copyFrom 142 = .ok (.putfield 55, 3) := by decide +kernel
theorem dX5_copyFrom_145 : decode cX5_copyFrom 145 = .ok (.aload_n 0, 1) := by decide +kernel
theorem dX5_copyFrom_146 : decode cX5_copyFrom 146 = .ok (.aload_n 1, 1) := by decide +kernel
theorem dX5_copyFrom_147 : decode cX5_copyFrom 147 = .ok (.getfield 58, 3) := by decide +kernel
theorem dX5_copyFrom_150 : decode cX5_copyFrom 150 = .ok (.putfield 58, 3) := by decide +kernel
theorem dX5_copyFrom_153 : decode cX5_copyFrom 153 = .ok (.aload_n 0, 1) := by decide +kernel
theorem dX5_copyFrom_154 : decode cX5_copyFrom 154 = .ok (.aload_n 1, 1) := by decide +kernel
theorem dX5_copyFrom_155 : decode cX5_copyFrom 155 = .ok (.getfield 61, 3) := by decide +kernel
theorem dX5_copyFrom_158 : decode cX5_copyFrom 158 = .ok (.putfield 61, 3) := by decide +kernel
theorem dX5_copyFrom_161 : decode cX5_copyFrom 161 = .ok (.aload_n 0, 1) := by decide +kernel
theorem dX5_copyFrom_162 : decode cX5_copyFrom 162 = .ok (.aload_n 1, 1) := by decide +kernel
theorem dX5_copyFrom_163 : decode cX5_copyFrom 163 = .ok (.getfield 64, 3) := by decide +kernel
theorem dX5_copyFrom_166 : decode cX5_copyFrom 166 = .ok (.putfield 64, 3) := by decide +kernel
theorem dX5_copyFrom_169 : decode cX5_copyFrom 169 = .ok (.aload_n 0, 1) := by decide +kernel
theorem dX5_copyFrom_170 : decode cX5_copyFrom 170 = .ok (.aload_n 1, 1) := by decide +kernel
theorem dX5_copyFrom_171 : decode cX5_copyFrom 171 = .ok (.getfield 79, 3) := by decide +kernel
theorem dX5_copyFrom_174 : decode cX5_copyFrom 174 = .ok (.putfield 79, 3) := by decide +kernel
theorem dX5_copyFrom_177 : decode cX5_copyFrom 177 = .ok (.return_, 1) := by decide +kernel
set_option maxRecDepth 20000 in
theorem ggX5_fittingDays_X5_fitsSights : GoodIn wsX5_fittingDays wsX5_fitsSights := goodIn_r _ [5, 6, 7, 8, 9, 10, 11, 12, 13, 14, 15, 16, 17, 18, 19, 20, 21, 22, 23, 24, 25, 26, 27, 28, 29, 30, 31, 32, 33, 34, 35, 36, 37, 38, 39, 40, 41] (by decide +kernel) (by decide +kernel)
set_option maxRecDepth 20000 in
theorem gX5_fittingDays_X5_fitsSights : GoodIn wsX5_fittingDays (wsV RX5 82 RX5 yX5_fitsSights wsX5_fitsSights) := goodIn_app (goodIn_of _ (by decide +kernel)) ggX5_fittingDays_X5_fitsSights
theorem dX5_fittingDays_0 : decode cX5_fittingDays 0 = .ok (.iconst 0, 1) := by decide +kernel
theorem dX5_fittingDays_1 : decode cX5_fittingDays 1 = .ok (.istore_n 1, 1) := by decide +kernel
theorem dX5_fittingDays_2 : decode cX5_fittingDays 2 = .ok (.iconst 0, 1) := by decide +kernel
theorem dX5_fittingDays_3 : decode cX5_fittingDays 3 = .ok (.istore_n 2, 1) := by decide +kernel
theorem dX5_fittingDays_4 : decode cX5_fittingDays 4 = .ok (.iload_n 2, 1) := by decide +kernel
theorem dX5_fittingDays_5 : decode cX5_fittingDays 5 = .ok (.bipush 7, 2) := by decide +kernel
theorem dX5_fittingDays_7 : decode cX5_fittingDays 7 = .ok (.if_icmp .ge 23, 3) := by decide +kernel
theorem dX5_fittingDays_10 : decode cX5_fittingDays 10 = .ok (.aload_n 0, 1) := by decide +kernel
theorem dX5_fittingDays_11 : decode cX5_fittingDays 11 = .ok (.iload_n 2, 1) := by decide +kernel
theorem dX5_fittingDays_12 : decode cX5_fittingDays 12 = .ok (.invokevirtual 82, 3) := by decide +kernel
theorem dX5_fittingDays_15 : decode cX5_fittingDays 15 = .ok (.ifCond .eq 9, 3) := by decide +kernel
theorem dX5_fittingDays_18 : decode cX5_fittingDays 18 = .ok (.iload_n 1, 1) := by decide +kernel
theorem dX5_fittingDays_19 : decode cX5_fittingDays 19 = .ok (.iconst 1, 1) := by decide +kernel
theorem dX5_fittingDays_20 : decode cX5_fittingDays 20 = .ok (.iload_n 2, 1) := by decide +kernel
theorem dX5_fittingDays_21 : decode cX5_fittingDays 21 = .ok (.ishl, 1) := by decide +kernel
theorem dX5_fittingDays_22 : decode cX5_fittingDays 22 = .ok (.ior, 1) := by decide +kernel
theorem dX5_fittingDays_23 : decode cX5_fittingDays 23 = .ok (.istore_n 1, 1) := by decide +kernel
theorem dX5_fittingDays_24 : decode cX5_fittingDays 24 = .ok (.iinc 2 1, 3) := by decide +kernel
theorem dX5_fittingDays_27 : decode cX5_fittingDays 27 = .ok (.goto (-23), 3) := by decide +kernel
theorem dX5_fittingDays_30 : decode cX5_fittingDays 30 = .ok (.iload_n 1, 1) := by decide +kernel
theorem dX5_fittingDays_31 : decode cX5_fittingDays 31 = .ok (.ireturn, 1) := by decide +kernel
set_option maxRecDepth 20000 in
theorem ggX5_fitsSights_X7_signOn : GoodIn wsX5_fitsSights wsX7_signOn := goodIn_r _ [9, 10, 25, 26, 27, 28, 29, 30, 31, 32, 33, 34, 35, 36] (by decide +kernel) (by decide +kernel)
set_option maxRecDepth 20000 in
theorem gX5_fitsSights_X7_signOn : GoodIn wsX5_fitsSights (wsV RX5 86 RX7 yX7_signOn wsX7_signOn) := goodIn_app (goodIn_of _ (by decide +kernel)) ggX5_fitsSights_X7_signOn
theorem dX5_fitsSights_0 : decode cX5_fitsSights 0 = .ok (.iconst 0, 1) := by decide +kernel
theorem dX5_fitsSights_1 : decode cX5_fitsSights 1 = .ok (.istore_n 2, 1) := by decide +kernel
theorem dX5_fitsSights_2 : decode cX5_fitsSights 2 = .ok (.iload_n 2, 1) := by decide +kernel
theorem dX5_fitsSights_3 : decode cX5_fitsSights 3 = .ok (.aload_n 0, 1) := by decide +kernel
theorem dX5_fitsSights_4 : decode cX5_fitsSights 4 = .ok (.getfield 61, 3) := by decide +kernel
theorem dX5_fitsSights_7 : decode cX5_fitsSights 7 = .ok (.if_icmp .ge 34, 3) := by decide +kernel
theorem dX5_fitsSights_10 : decode cX5_fitsSights 10 = .ok (.aload_n 0, 1) := by decide +kernel
theorem dX5_fitsSights_11 : decode cX5_fitsSights 11 = .ok (.getfield 12, 3) := by decide +kernel
theorem dX5_fitsSights_14 : decode cX5_fitsSights 14 = .ok (.aload_n 0, 1) := by decide +kernel
theorem dX5_fitsSights_15 : decode cX5_fitsSights 15 = .ok (.getfield 34, 3) := by decide +kernel
theorem dX5_fitsSights_18 : decode cX5_fitsSights 18 = .ok (.iload_n 2, 1) := by decide +kernel
theorem dX5_fitsSights_19 : decode cX5_fitsSights 19 = .ok (.iaload, 1) := by decide +kernel
theorem dX5_fitsSights_20 : decode cX5_fitsSights 20 = .ok (.iload_n 1, 1) := by decide +kernel
theorem dX5_fitsSights_21 : decode cX5_fitsSights 21 = .ok (.invokevirtual 86, 3) := by decide +kernel
theorem dX5_fitsSights_24 : decode cX5_fitsSights 24 = .ok (.aload_n 0, 1) := by decide +kernel
theorem dX5_fitsSights_25 : decode cX5_fitsSights 25 = .ok (.getfield 37, 3) := by decide +kernel
theorem dX5_fitsSights_28 : decode cX5_fitsSights 28 = .ok (.iload_n 2, 1) := by decide +kernel
theorem dX5_fitsSights_29 : decode cX5_fitsSights 29 = .ok (.iaload, 1) := by decide +kernel
theorem dX5_fitsSights_30 : decode cX5_fitsSights 30 = .ok (.if_icmp .eq 5, 3) := by decide +kernel
theorem dX5_fitsSights_33 : decode cX5_fitsSights 33 = .ok (.iconst 0, 1) := by decide +kernel
theorem dX5_fitsSights_34 : decode cX5_fitsSights 34 = .ok (.ireturn, 1) := by decide +kernel
theorem dX5_fitsSights_35 : decode cX5_fitsSights 35 = .ok (.iinc 2 1, 3) := by decide +kernel
theorem dX5_fitsSights_38 : decode cX5_fitsSights 38 = .ok (.goto (-36), 3) := by decide +kernel
theorem dX5_fitsSights_41 : decode cX5_fitsSights 41 = .ok (.iconst 1, 1) := by decide +kernel
theorem dX5_fitsSights_42 : decode cX5_fitsSights 42 = .ok (.ireturn, 1) := by decide +kernel
set_option maxRecDepth 20000 in
theorem ggX5_streetToLookAt_X5_mostAlike : GoodIn wsX5_streetToLookAt wsX5_mostAlike := goodIn_r _ [7, 1, 8, 9, 10, 11, 12, 13, 14, 15, 16, 17, 18, 19, 20, 21, 22, 23, 24, 25, 26, 27, 28, 29, 30, 31, 32, 33, 34, 35, 36, 37, 38, 39, 40, 41, 42, 43] (by decide +kernel) (by decide +kernel)
set_option maxRecDepth 20000 in
theorem gX5_streetToLookAt_X5_mostAlike : GoodIn wsX5_streetToLookAt (wsV RX5 93 RX5 yX5_mostAlike wsX5_mostAlike) := goodIn_app (goodIn_of _ (by decide +kernel)) ggX5_streetToLookAt_X5_mostAlike
theorem dX5_streetToLookAt_0 : decode cX5_streetToLookAt 0 = .ok (.bipush (-2), 2) := by decide +kernel
theorem dX5_streetToLookAt_2 : decode cX5_streetToLookAt 2 = .ok (.istore_n 2, 1) := by decide +kernel
theorem dX5_streetToLookAt_3 : decode cX5_streetToLookAt 3 = .ok (.bipush 8, 2) := by decide +kernel
theorem dX5_streetToLookAt_5 : decode cX5_streetToLookAt 5 = .ok (.istore_n 3, 1) := by decide +kernel
theorem dX5_streetToLookAt_6 : decode cX5_streetToLookAt 6 = .ok (.iconst 0, 1) := by decide +kernel
theorem dX5_streetToLookAt_7 : decode cX5_streetToLookAt 7 = .ok (.istore 4, 2) := by decide +kernel
theorem dX5_streetToLookAt_9 : decode cX5_streetToLookAt 9 = .ok (.iload 4, 2) := by decide +kernel
theorem dX5_streetToLookAt_11 : decode cX5_streetToLookAt 11 = .ok (.aload_n 0, 1) := by decide +kernel
theorem dX5_streetToLookAt_12 : decode cX5_streetToLookAt 12 = .ok (.getfield 12, 3) := by decide +kernel
theorem dX5_streetToLookAt_15 : decode cX5_streetToLookAt 15 = .ok (.getfield 90, 3) := by decide +kernel
theorem dX5_streetToLookAt_18 : decode cX5_streetToLookAt 18 = .ok (.if_icmp .ge 30, 3) := by decide +kernel
theorem dX5_streetToLookAt_21 : decode cX5_streetToLookAt 21 = .ok (.aload_n 0, 1) := by decide +kernel
theorem dX5_streetToLookAt_22 : decode cX5_streetToLookAt 22 = .ok (.iload 4, 2) := by decide +kernel
theorem dX5_streetToLookAt_24 : decode cX5_streetToLookAt 24 = .ok (.iload_n 1, 1) := by decide +kernel
theorem dX5_streetToLookAt_25 : decode cX5_streetToLookAt 25 = .ok (.invokevirtual 93, 3) := by decide +kernel
theorem dX5_streetToLookAt_28 : decode cX5_streetToLookAt 28 = .ok (.istore 5, 2) := by decide +kernel
theorem dX5_streetToLookAt_30 : decode cX5_streetToLookAt 30 = .ok (.iload 5, 2) := by decide +kernel
theorem dX5_streetToLookAt_32 : decode cX5_streetToLookAt 32 = .ok (.iload_n 3, 1) := by decide +kernel
theorem dX5_streetToLookAt_33 : decode cX5_streetToLookAt 33 = .ok (.if_icmp .ge 9, 3) := by decide +kernel
theorem dX5_streetToLookAt_36 : decode cX5_streetToLookAt 36 = .ok (.iload 5, 2) := by decide +kernel
theorem dX5_streetToLookAt_38 : decode cX5_streetToLookAt 38 = .ok (.istore_n 3, 1) := by decide +kernel
theorem dX5_streetToLookAt_39 : decode cX5_streetToLookAt 39 = .ok (.iload 4, 2) := by decide +kernel
theorem dX5_streetToLookAt_41 : decode cX5_streetToLookAt 41 = .ok (.istore_n 2, 1) := by decide +kernel
theorem dX5_streetToLookAt_42 : decode cX5_streetToLookAt 42 = .ok (.iinc 4 1, 3) := by decide +kernel
theorem dX5_streetToLookAt_45 : decode cX5_streetToLookAt 45 = .ok (.goto (-36), 3) := by decide +kernel
theorem dX5_streetToLookAt_48 : decode cX5_streetToLookAt 48 = .ok (.iload_n 2, 1) := by decide +kernel
theorem dX5_streetToLookAt_49 : decode cX5_streetToLookAt 49 = .ok (.ireturn, 1) := by decide +kernel
set_option maxRecDepth 20000 in
theorem ggX5_mostAlike_X7_signOn : GoodIn wsX5_mostAlike wsX7_signOn := goodIn_r _ [10, 11, 26, 27, 28, 29, 30, 31, 32, 33, 34, 35, 36, 37] (by decide +kernel) (by decide +kernel)
set_option maxRecDepth 20000 in
theorem gX5_mostAlike_X7_signOn : GoodIn wsX5_mostAlike (wsV RX5 86 RX7 yX7_signOn wsX7_signOn) := goodIn_app (goodIn_of _ (by decide +kernel)) ggX5_mostAlike_X7_signOn
theorem dX5_mostAlike_0 : decode cX5_mostAlike 0 = .ok (.iconst 0, 1) := by decide +kernel
theorem dX5_mostAlike_1 : decode cX5_mostAlike 1 = .ok (.istore_n 3, 1) := by decide +kernel
theorem dX5_mostAlike_2 : decode cX5_mostAlike 2 = .ok (.iconst 0, 1) := by decide +kernel
theorem dX5_mostAlike_3 : decode cX5_mostAlike 3 = .ok (.istore 4, 2) := by decide +kernel
theorem dX5_mostAlike_5 : decode cX5_mostAlike 5 = .ok (.iload 4, 2) := by decide +kernel
theorem dX5_mostAlike_7 : decode cX5_mostAlike 7 = .ok (.iconst 3, 1) := by decide +kernel
theorem dX5_mostAlike_8 : decode cX5_mostAlike 8 = .ok (.if_icmp .gt 62, 3) := by decide +kernel
theorem dX5_mostAlike_11 : decode cX5_mostAlike 11 = .ok (.iconst 0, 1) := by decide +kernel
theorem dX5_mostAlike_12 : decode cX5_mostAlike 12 = .ok (.istore 5, 2) := by decide +kernel
theorem dX5_mostAlike_14 : decode cX5_mostAlike 14 = .ok (.iconst 0, 1) := by decide +kernel
theorem dX5_mostAlike_15 : decode cX5_mostAlike 15 = .ok (.istore 6, 2) := by decide +kernel
theorem dX5_mostAlike_17 : decode cX5_mostAlike 17 = .ok (.iload 6, 2) := by decide +kernel
theorem dX5_mostAlike_19 : decode cX5_mostAlike 19 = .ok (.bipush 7, 2) := by decide +kernel
theorem dX5_mostAlike_21 : decode cX5_mostAlike 21 = .ok (.if_icmp .ge 36, 3) := by decide +kernel
theorem dX5_mostAlike_24 : decode cX5_mostAlike 24 = .ok (.iload_n 2, 1) := by decide +kernel
theorem dX5_mostAlike_25 : decode cX5_mostAlike 25 = .ok (.iload 6, 2) := by decide +kernel
theorem dX5_mostAlike_27 : decode cX5_mostAlike 27 = .ok (.ishr, 1) := by decide +kernel
theorem dX5_mostAlike_28 : decode cX5_mostAlike 28 = .ok (.iconst 1, 1) := by decide +kernel
theorem dX5_mostAlike_29 : decode cX5_mostAlike 29 = .ok (.iand, 1) := by decide +kernel
theorem dX5_mostAlike_30 : decode cX5_mostAlike 30 = .ok (.ifCond .eq 21, 3) := by decide +kernel
theorem dX5_mostAlike_33 : decode cX5_mostAlike 33 = .ok (.aload_n 0, 1) := by decide +kernel
theorem dX5_mostAlike_34 : decode cX5_mostAlike 34 = .ok (.getfield 12, 3) := by decide +kernel
theorem dX5_mostAlike_37 : decode cX5_mostAlike 37 = .ok (.iload_n 1, 1) := by decide +kernel
theorem dX5_mostAlike_38 : decode cX5_mostAlike 38 = .ok (.iload 6, 2) := by decide +kernel
theorem dX5_mostAlike_40 : decode cX5_mostAlike 40 = .ok (.invokevirtual 86, 3) := by decide +kernel
theorem dX5_mostAlike_43 : decode cX5_mostAlike 43 = .ok (.iload 4, 2) := by decide +kernel
theorem dX5_mostAlike_45 : decode cX5_mostAlike 45 = .ok (.if_icmp .ne 6, 3) := by decide +kernel
theorem dX5_mostAlike_48 : decode cX5_mostAlike 48 = .ok (.iinc 5 1, 3) := by decide +kernel
theorem dX5_mostAlike_51 : decode cX5_mostAlike 51 = .ok (.iinc 6 1, 3) := by decide +kernel
theorem dX5_mostAlike_54 : decode cX5_mostAlike 54 = .ok (.goto (-37), 3) := by decide +kernel
theorem dX5_mostAlike_57 : decode cX5_mostAlike 57 = .ok (.iload_n 3, 1) := by decide +kernel
theorem dX5_mostAlike_58 : decode cX5_mostAlike 58 = .ok (.iload 5, 2) := by decide +kernel
theorem dX5_mostAlike_60 : decode cX5_mostAlike 60 = .ok (.invokestatic 96, 3) := by decide +kernel
theorem dX5_mostAlike_63 : decode cX5_mostAlike 63 = .ok (.istore_n 3, 1) := by decide +kernel
theorem dX5_mostAlike_64 : decode cX5_mostAlike 64 = .ok (.iinc 4 1, 3) := by decide +kernel
theorem dX5_mostAlike_67 : decode cX5_mostAlike 67 = .ok (.goto (-62), 3) := by decide +kernel
theorem dX5_mostAlike_70 : decode cX5_mostAlike 70 = .ok (.iload_n 3, 1) := by decide +kernel
theorem dX5_mostAlike_71 : decode cX5_mostAlike 71 = .ok (.ireturn, 1) := by decide +kernel
theorem dX6_init_0 : decode cX6_init 0 = .ok (.aload_n 0, 1) := by decide +kernel
theorem dX6_init_1 : decode cX6_init 1 = .ok (.invokespecial 3, 3) := by decide +kernel
theorem dX6_init_4 : decode cX6_init 4 = .ok (.aload_n 0, 1) := by decide +kernel
theorem dX6_init_5 : decode cX6_init 5 = .ok (.sipush 400, 3) := by decide +kernel
theorem dX6_init_8 : decode cX6_init 8 = .ok (.newarray .int, 2) := by decide +kernel
theorem dX6_init_10 : decode cX6_init 10 = .ok (.putfield 9, 3) := by decide +kernel
theorem dX6_init_13 : decode cX6_init 13 = .ok (.return_, 1) := by decide +kernel
theorem dX6_hasRoom_0 : decode cX6_hasRoom 0 = .ok (.aload_n 0, 1) := by decide +kernel
theorem dX6_hasRoom_1 : decode cX6_hasRoom 1 = .ok (.getfield 15, 3) := by decide +kernel
theorem dX6_hasRoom_4 : decode cX6_hasRoom 4 = .ok (.bipush 20, 2) := by decide +kernel
theorem dX6_hasRoom_6 : decode cX6_hasRoom 6 = .ok (.iadd, 1) := by decide +kernel
theorem dX6_hasRoom_7 : decode cX6_hasRoom 7 = .ok (.sipush 400, 3) := by decide +kernel
theorem dX6_hasRoom_10 : decode cX6_hasRoom 10 = .ok (.if_icmp .gt 7, 3) := by decide +kernel
theorem dX6_hasRoom_13 : decode cX6_hasRoom 13 = .ok (.iconst 1, 1) := by decide +kernel
theorem dX6_hasRoom_14 : decode cX6_hasRoom 14 = .ok (.goto 4, 3) := by decide +kernel
theorem dX6_hasRoom_17 : decode cX6_hasRoom 17 = .ok (.iconst 0, 1) := by decide +kernel
theorem dX6_hasRoom_18 : decode cX6_hasRoom 18 = .ok (.ireturn, 1) := by decide +kernel
theorem dX6_append_0 : decode cX6_append 0 = .ok (.bipush 24, 2) := by decide +kernel
theorem dX6_append_2 : decode cX6_append 2 = .ok (.istore_n 2, 1) := by decide +kernel
theorem dX6_append_3 : decode cX6_append 3 = .ok (.iload_n 2, 1) := by decide +kernel
theorem dX6_append_4 : decode cX6_append 4 = .ok (.ifCond .lt 45, 3) := by decide +kernel
theorem dX6_append_7 : decode cX6_append 7 = .ok (.aload_n 0, 1) := by decide +kernel
theorem dX6_append_8 : decode cX6_append 8 = .ok (.getfield 15, 3) := by decide +kernel
theorem dX6_append_11 : decode cX6_append 11 = .ok (.sipush 400, 3) := by decide +kernel
theorem dX6_append_14 : decode cX6_append 14 = .ok (.if_icmp .ge 35, 3) := by decide +kernel
theorem dX6_append_17 : decode cX6_append 17 = .ok (.aload_n 0, 1) := by decide +kernel
theorem dX6_append_18 : decode cX6_append 18 = .ok (.getfield 9, 3) := by decide +kernel
theorem dX6_append_21 : decode cX6_append 21 = .ok (.aload_n 0, 1) := by decide +kernel
theorem dX6_append_22 : decode cX6_append 22 = .ok (.getfield 15, 3) := by decide +kernel
theorem dX6_append_25 : decode cX6_append 25 = .ok (.iload_n 1, 1) := by decide +kernel
theorem dX6_append_26 : decode cX6_append 26 = .ok (.iload_n 2, 1) := by decide +kernel
theorem dX6_append_27 : decode cX6_append 27 = .ok (.ishr, 1) := by decide +kernel
theorem dX6_append_28 : decode cX6_append 28 = .ok (.sipush 255, 3) := by decide +kernel
theorem dX6_append_31 : decode cX6_append 31 = .ok (.iand, 1) := by decide +kernel
theorem dX6_append_32 : decode cX6_append 32 = .ok (.iastore, 1) := by decide +kernel
theorem dX6_append_33 : decode cX6_append 33 = .ok (.aload_n 0, 1) := by decide +kernel
theorem dX6_append_34 : decode cX6_append 34 = .ok (.dup, 1) := by decide +kernel
theorem dX6_append_35 : decode cX6_append 35 = .ok (.getfield 15, 3) := by decide +kernel
theorem dX6_append_38 : decode cX6_append 38 = .ok (.iconst 1, 1) := by decide +kernel
theorem dX6_append_39 : decode cX6_append 39 = .ok (.iadd, 1) := by decide +kernel
theorem dX6_append_40 : decode cX6_append 40 = .ok (.putfield 15, 3) := by decide +kernel
theorem dX6_append_43 : decode cX6_append 43 = .ok (.iinc 2 (-8), 3) := by decide +kernel
theorem dX6_append_46 : decode cX6_append 46 = .ok (.goto (-43), 3) := by decide +kernel
theorem dX6_append_49 : decode cX6_append 49 = .ok (.return_, 1) := by decide +kernel
theorem dX6_startReading_0 : decode cX6_startReading 0 = .ok (.aload_n 0, 1) := by decide +kernel
theorem dX6_startReading_1 : decode cX6_startReading 1 = .ok (.iconst 0, 1) := by decide +kernel
theorem dX6_startReading_2 : decode cX6_startReading 2 = .ok (.putfield 19, 3) := by decide +kernel
theorem dX6_startReading_5 : decode cX6_startReading 5 = .ok (.aload_n 0, 1) := by decide +kernel
theorem dX6_startReading_6 : decode cX6_startReading 6 = .ok (.iconst 0, 1) := by decide +kernel
theorem dX6_startReading_7 : decode cX6_startReading 7 = .ok (.putfield 22, 3) := by decide +kernel
theorem dX6_startReading_10 : decode cX6_startReading 10 = .ok (.aload_n 0, 1) := by decide +kernel
theorem dX6_startReading_11 : decode cX6_startReading 11 = .ok (.iconst 0, 1) := by decide +kernel
theorem dX6_startReading_12 : decode cX6_startReading 12 = .ok (.putfield 25, 3) := by decide +kernel
theorem dX6_startReading_15 : decode cX6_startReading 15 = .ok (.return_, 1) := by decide +kernel
theorem dX6_blame_0 : decode cX6_blame 0 = .ok (.aload_n 0, 1) := by decide +kernel
theorem dX6_blame_1 : decode cX6_blame 1 = .ok (.getfield 25, 3) := by decide +kernel
theorem dX6_blame_4 : decode cX6_blame 4 = .ok (.ifCond .ne 15, 3) := by decide +kernel
theorem dX6_blame_7 : decode cX6_blame 7 = .ok (.aload_n 0, 1) := by decide +kernel
theorem dX6_blame_8 : decode cX6_blame 8 = .ok (.iconst 1, 1) := by decide +kernel
theorem dX6_blame_9 : decode cX6_blame 9 = .ok (.bipush 8, 2) := by decide +kernel
theorem dX6_blame_11 : decode cX6_blame 11 = .ok (.iload_n 1, 1) := by decide +kernel
theorem dX6_blame_12 : decode cX6_blame 12 = .ok (.imul, 1) := by decide +kernel
theorem dX6_blame_13 : decode cX6_blame 13 = .ok (.iadd, 1) := by decide +kernel
theorem dX6_blame_14 : decode cX6_blame 14 = .ok (.iload_n 2, 1) := by decide +kernel
theorem dX6_blame_15 : decode cX6_blame 15 = .ok (.iadd, 1) := by decide +kernel
theorem dX6_blame_16 : decode cX6_blame 16 = .ok (.putfield 25, 3) := by decide +kernel
theorem dX6_blame_19 : decode cX6_blame 19 = .ok (.return_, 1) := by decide +kernel
theorem dX6_isFaulty_0 : decode cX6_isFaulty 0 = .ok (.aload_n 0, 1) := by decide +kernel
theorem dX6_isFaulty_1 : decode cX6_isFaulty 1 = .ok (.getfield 25, 3) := by decide +kernel
theorem dX6_isFaulty_4 : decode cX6_isFaulty 4 = .ok (.ifCond .eq 7, 3) := by decide +kernel
theorem dX6_isFaulty_7 : decode cX6_isFaulty 7 = .ok (.iconst 1, 1) := by decide +kernel
theorem dX6_isFaulty_8 : decode cX6_isFaulty 8 = .ok (.goto 4, 3) := by decide +kernel
theorem dX6_isFaulty_11 : decode cX6_isFaulty 11 = .ok (.iconst 0, 1) := by decide +kernel
theorem dX6_isFaulty_12 : decode cX6_isFaulty 12 = .ok (.ireturn, 1) := by decide +kernel
theorem dX6_look_0 : decode cX6_look 0 = .ok (.aload_n 0, 1) := by decide +kernel
theorem dX6_look_1 : decode cX6_look 1 = .ok (.getfield 19, 3) := by decide +kernel
theorem dX6_look_4 : decode cX6_look 4 = .ok (.aload_n 0, 1) := by decide +kernel
theorem dX6_look_5 : decode cX6_look 5 = .ok (.getfield 15, 3) := by decide +kernel
theorem dX6_look_8 : decode cX6_look 8 = .ok (.if_icmp .ge 15, 3) := by decide +kernel
theorem dX6_look_11 : decode cX6_look 11 = .ok (.aload_n 0, 1) := by decide +kernel
theorem dX6_look_12 : decode cX6_look 12 = .ok (.getfield 9, 3) := by decide +kernel
theorem dX6_look_15 : decode cX6_look 15 = .ok (.aload_n 0, 1) := by decide +kernel
theorem dX6_look_16 : decode cX6_look 16 = .ok (.getfield 19, 3) := by decide +kernel
theorem dX6_look_19 : decode cX6_look 19 = .ok (.iaload, 1) := by decide +kernel
theorem dX6_look_20 : decode cX6_look 20 = .ok (.goto 4, 3) := by decide +kernel
theorem dX6_look_23 : decode cX6_look 23 = .ok (.iconst (-1), 1) := by decide +kernel
theorem dX6_look_24 : decode cX6_look 24 = .ok (.ireturn, 1) := by decide +kernel
theorem dX6_lookBehindBlanks_0 : decode cX6_lookBehindBlanks 0 = .ok (.aload_n 0, 1) := by decide +kernel
theorem dX6_lookBehindBlanks_1 : decode cX6_lookBehindBlanks 1 = .ok (.getfield 19, 3) := by decide +kernel
theorem dX6_lookBehindBlanks_4 : decode cX6_lookBehindBlanks 4 = .ok (.aload_n 0, 1) := by decide +kernel
theorem dX6_lookBehindBlanks_5 : decode cX6_lookBehindBlanks 5 = .ok (.getfield 15, 3) := by decide +kernel
theorem dX6_lookBehindBlanks_8 : decode cX6_lookBehindBlanks 8 = .ok (.if_icmp .ge 30, 3) := by decide +kernel
theorem dX6_lookBehindBlanks_11 : decode cX6_lookBehindBlanks 11 = .ok (.aload_n 0, 1) := by decide +kernel
theorem dX6_lookBehindBlanks_12 : decode cX6_lookBehindBlanks 12 = .ok (.getfield 9, 3) := by decide +kernel
theorem dX6_lookBehindBlanks_15 : decode cX6_lookBehindBlanks 15 = .ok (.aload_n 0, 1) := by decide +kernel
theorem dX6_lookBehindBlanks_16 : decode cX6_lookBehindBlanks 16 = .ok (.getfield 19, 3) := by decide +kernel
theorem dX6_lookBehindBlanks_19 : decode cX6_lookBehindBlanks 19 = .ok (.iaload, 1) := by decide +kernel
theorem dX6_lookBehindBlanks_20 : decode cX6_lookBehindBlanks 20 = .ok (.bipush 32, 2) := by decide +kernel
theorem dX6_lookBehindBlanks_22 : decode cX6_lookBehindBlanks 22 = .ok (.if_icmp .ne 16, 3) := by decide +kernel
theorem dX6_lookBehindBlanks_25 : decode cX6_lookBehindBlanks 25 = .ok (.aload_n 0, 1) := by decide +kernel
theorem dX6_lookBehindBlanks_26 : decode cX6_lookBehindBlanks 26 = .ok (.dup, 1) := by decide +kernel
theorem dX6_lookBehindBlanks_27 : decode cX6_lookBehindBlanks 27 = .ok (.getfield 19, 3) := by decide +kernel
theorem dX6_lookBehindBlanks_30 : decode cX6_lookBehindBlanks 30 = .ok (.iconst 1, 1) := by decide +kernel
theorem dX6_lookBehindBlanks_31 : decode cX6_lookBehindBlanks 31 = .ok (.iadd, 1) := by decide +kernel
theorem dX6_lookBehindBlanks_32 : decode cX6_lookBehindBlanks 32 = .ok (.putfield 19, 3) := by decide +kernel
theorem dX6_lookBehindBlanks_35 : decode cX6_lookBehindBlanks 35 = .ok (.goto (-35), 3) := by decide +kernel
theorem dX6_lookBehindBlanks_38 : decode cX6_lookBehindBlanks 38 = .ok (.aload_n 0, 1) := by decide +kernel
theorem dX6_lookBehindBlanks_39 : decode cX6_lookBehindBlanks 39 = .ok (.aload_n 0, 1) := by decide +kernel
theorem dX6_lookBehindBlanks_40 : decode cX6_lookBehindBlanks 40 = .ok (.getfield 19, 3) := by decide +kernel
theorem dX6_lookBehindBlanks_43 : decode cX6_lookBehindBlanks 43 = .ok (.putfield 22, 3) := by decide +kernel
theorem dX6_lookBehindBlanks_46 : decode cX6_lookBehindBlanks 46 = .ok (.aload_n 0, 1) := by decide +kernel
theorem dX6_lookBehindBlanks_47 : decode cX6_lookBehindBlanks 47 = .ok (.getfield 19, 3) := by decide +kernel
theorem dX6_lookBehindBlanks_50 : decode cX6_lookBehindBlanks 50 = .ok (.aload_n 0, 1) := by decide +kernel
theorem dX6_lookBehindBlanks_51 : decode cX6_lookBehindBlanks 51 = .ok (.getfield 15, 3) := by decide +kernel
theorem dX6_lookBehindBlanks_54 : decode cX6_lookBehindBlanks 54 = .ok (.if_icmp .ge 15, 3) := by decide +kernel
theorem dX6_lookBehindBlanks_57 : decode cX6_lookBehindBlanks 57 = .ok (.aload_n 0, 1) := by decide +kernel
theorem dX6_lookBehindBlanks_58 : decode cX6_lookBehindBlanks 58 = .ok (.getfield 9, 3) := by decide +kernel
theorem dX6_lookBehindBlanks_61 : decode cX6_lookBehindBlanks 61 = .ok (.aload_n 0, 1) := by decide +kernel
theorem dX6_lookBehindBlanks_62 : decode cX6_lookBehindBlanks 62 = .ok (.getfield 19, 3) := by decide +kernel
theorem dX6_lookBehindBlanks_65 : decode cX6_lookBehindBlanks 65 = .ok (.iaload, 1) := by decide +kernel
theorem dX6_lookBehindBlanks_66 : decode cX6_lookBehindBlanks 66 = .ok (.goto 4, 3) := by decide +kernel
theorem dX6_lookBehindBlanks_69 : decode cX6_lookBehindBlanks 69 = .ok (.iconst (-1), 1) := by decide +kernel
theorem dX6_lookBehindBlanks_70 : decode cX6_lookBehindBlanks 70 = .ok (.ireturn, 1) := by decide +kernel
theorem dX6_pass_0 : decode cX6_pass 0 = .ok (.aload_n 0, 1) := by decide +kernel
theorem dX6_pass_1 : decode cX6_pass 1 = .ok (.getfield 19, 3) := by decide +kernel
theorem dX6_pass_4 : decode cX6_pass 4 = .ok (.aload_n 0, 1) := by decide +kernel
theorem dX6_pass_5 : decode cX6_pass 5 = .ok (.getfield 15, 3) := by decide +kernel
theorem dX6_pass_8 : decode cX6_pass 8 = .ok (.if_icmp .ge 13, 3) := by decide +kernel
theorem dX6_pass_11 : decode cX6_pass 11 = .ok (.aload_n 0, 1) := by decide +kernel
theorem dX6_pass_12 : decode cX6_pass 12 = .ok (.dup, 1) := by decide +kernel
theorem dX6_pass_13 : decode cX6_pass 13 = .ok (.getfield 19, 3) := by decide +kernel
theorem dX6_pass_16 : decode cX6_pass 16 = .ok (.iconst 1, 1) := by decide +kernel
theorem dX6_pass_17 : decode cX6_pass 17 = .ok (.iadd, 1) := by decide +kernel
theorem dX6_pass_18 : decode cX6_pass 18 = .ok (.putfield 19, 3) := by decide +kernel
theorem dX6_pass_21 : decode cX6_pass 21 = .ok (.return_, 1) := by decide +kernel
set_option maxRecDepth 20000 in
theorem ggX6_takeByte_X6_lookBehindBlanks : GoodIn wsX6_takeByte wsX6_lookBehindBlanks := goodIn_r _ [5, 6, 7, 8, 9, 14, 15, 16, 17, 18] (by decide +kernel) (by decide +kernel)
set_option maxRecDepth 20000 in
theorem gX6_takeByte_X6_lookBehindBlanks : GoodIn wsX6_takeByte (wsV RX6 28 RX6 yX6_lookBehindBlanks wsX6_lookBehindBlanks) := goodIn_app (goodIn_of _ (by decide +kernel)) ggX6_takeByte_X6_lookBehindBlanks
set_option maxRecDepth 20000 in
theorem ggX6_takeByte_X6_pass : GoodIn wsX6_takeByte wsX6_pass := goodIn_r _ [13, 6, 7, 14, 15, 16, 17, 18] (by decide +kernel) (by decide +kernel)
set_option maxRecDepth 20000 in
theorem gX6_takeByte_X6_pass : GoodIn wsX6_takeByte (wsV RX6 32 RX6 yX6_pass wsX6_pass) := goodIn_app (goodIn_of _ (by decide +kernel)) ggX6_takeByte_X6_pass
theorem dX6_takeByte_0 : decode cX6_takeByte 0 = .ok (.aload_n 0, 1) := by decide +kernel
theorem dX6_takeByte_1 : decode cX6_takeByte 1 = .ok (.invokevirtual 28, 3) := by decide +kernel
theorem dX6_takeByte_4 : decode cX6_takeByte 4 = .ok (.iload_n 1, 1) := by decide +kernel
theorem dX6_takeByte_5 : decode cX6_takeByte 5 = .ok (.if_icmp .eq 5, 3) := by decide +kernel
theorem dX6_takeByte_8 : decode cX6_takeByte 8 = .ok (.iconst 0, 1) := by decide +kernel
theorem dX6_takeByte_9 : decode cX6_takeByte 9 = .ok (.ireturn, 1) := by decide +kernel
theorem dX6_takeByte_10 : decode cX6_takeByte 10 = .ok (.aload_n 0, 1) := by decide +kernel
theorem dX6_takeByte_11 : decode cX6_takeByte 11 = .ok (.invokevirtual 32, 3) := by decide +kernel
theorem dX6_takeByte_14 : decode cX6_takeByte 14 = .ok (.iconst 1, 1) := by decide +kernel
theorem dX6_takeByte_15 : decode cX6_takeByte 15 = .ok (.ireturn, 1) := by decide +kernel
set_option maxRecDepth 20000 in
theorem ggX6_blameHere_X6_blame : GoodIn wsX6_blameHere wsX6_blame := goodIn_r _ [6, 7, 8, 9, 10, 11, 12] (by decide +kernel) (by decide +kernel)
set_option maxRecDepth 20000 in
theorem gX6_blameHere_X6_blame : GoodIn wsX6_blameHere (wsV RX6 35 RX6 yX6_blame wsX6_blame) := goodIn_app (goodIn_of _ (by decide +kernel)) ggX6_blameHere_X6_blame
theorem dX6_blameHere_0 : decode cX6_blameHere 0 = .ok (.aload_n 0, 1) := by decide +kernel
theorem dX6_blameHere_1 : decode cX6_blameHere 1 = .ok (.aload_n 0, 1) := by decide +kernel
theorem dX6_blameHere_2 : decode cX6_blameHere 2 = .ok (.getfield 19, 3) := by decide +kernel
theorem dX6_blameHere_5 : decode cX6_blameHere 5 = .ok (.iconst 0, 1) := by decide +kernel
theorem dX6_blameHere_6 : decode cX6_blameHere 6 = .ok (.invokevirtual 35, 3) := by decide +kernel
theorem dX6_blameHere_9 : decode cX6_blameHere 9 = .ok (.return_, 1) := by decide +kernel
set_option maxRecDepth 20000 in
theorem ggX6_takeSemicolon_X6_isFaulty : GoodIn wsX6_takeSemicolon wsX6_isFaulty := goodIn_r _ [5, 6, 35, 36, 37, 38, 39] (by decide +kernel) (by decide +kernel)
set_option maxRecDepth 20000 in
theorem gX6_takeSemicolon_X6_isFaulty : GoodIn wsX6_takeSemicolon (wsV RX6 39 RX6 yX6_isFaulty wsX6_isFaulty) := goodIn_app (goodIn_of _ (by decide +kernel)) ggX6_takeSemicolon_X6_isFaulty
set_option maxRecDepth 20000 in
theorem ggX6_takeSemicolon_X6_takeByte : GoodIn wsX6_takeSemicolon wsX6_takeByte := goodIn_r _ [10, 11, 12, 13, 4, 14, 15, 16, 17, 18, 19, 20, 21, 22, 35, 36, 37, 38, 39] (by decide +kernel) (by decide +kernel)
set_option maxRecDepth 20000 in
theorem gX6_takeSemicolon_X6_takeByte : GoodIn wsX6_takeSemicolon (wsV RX6 43 RX6 yX6_takeByte wsX6_takeByte) := goodIn_app (goodIn_of _ (by decide +kernel)) ggX6_takeSemicolon_X6_takeByte
set_option maxRecDepth 20000 in
theorem ggX6_takeSemicolon_X6_look : GoodIn wsX6_takeSemicolon wsX6_look := goodIn_r _ [26, 15, 16, 17, 35, 36, 37, 38, 39] (by decide +kernel) (by decide +kernel)
set_option maxRecDepth 20000 in
theorem gX6_takeSemicolon_X6_look : GoodIn wsX6_takeSemicolon (wsV RX6 47 RX6 yX6_look wsX6_look) := goodIn_app (goodIn_of _ (by decide +kernel)) ggX6_takeSemicolon_X6_look
set_option maxRecDepth 20000 in
theorem ggX6_takeSemicolon_X6_blameHere : GoodIn wsX6_takeSemicolon wsX6_blameHere := goodIn_r _ [30, 15, 31, 32, 33, 4, 34, 6, 35, 36, 37, 38, 39] (by decide +kernel) (by decide +kernel)
set_option maxRecDepth 20000 in
theorem gX6_takeSemicolon_X6_blameHere : GoodIn wsX6_takeSemicolon (wsV RX6 50 RX6 yX6_blameHere wsX6_blameHere) := goodIn_app (goodIn_of _ (by decide +kernel)) ggX6_takeSemicolon_X6_blameHere
theorem dX6_takeSemicolon_0 : decode cX6_takeSemicolon 0 = .ok (.aload_n 0, 1) := by decide +kernel
theorem dX6_takeSemicolon_1 : decode cX6_takeSemicolon 1 = .ok (.invokevirtual 39, 3) := by decide +kernel
theorem dX6_takeSemicolon_4 : decode cX6_takeSemicolon 4 = .ok (.ifCond .eq 5, 3) := by decide +kernel
theorem dX6_takeSemicolon_7 : decode cX6_takeSemicolon 7 = .ok (.iconst 0, 1) := by decide +kernel
theorem dX6_takeSemicolon_8 : decode cX6_takeSemicolon 8 = .ok (.ireturn, 1) := by decide +kernel
theorem dX6_takeSemicolon_9 : decode cX6_takeSemicolon 9 = .ok (.aload_n 0, 1) := by decide +kernel
theorem dX6_takeSemicolon_10 : decode cX6_takeSemicolon 10 = .ok (.bipush 59, 2) := by decide +kernel
theorem dX6_takeSemicolon_12 : decode cX6_takeSemicolon 12 = .ok (.invokevirtual 43, 3) := by decide +kernel
theorem dX6_takeSemicolon_15 : decode cX6_takeSemicolon 15 = .ok (.ifCond .eq 5, 3) := by decide +kernel
theorem dX6_takeSemicolon_18 : decode cX6_takeSemicolon 18 = .ok (.iconst 1, 1) := by decide +kernel
theorem dX6_takeSemicolon_19 : decode cX6_takeSemicolon 19 = .ok (.ireturn, 1) := by decide +kernel
theorem dX6_takeSemicolon_20 : decode cX6_takeSemicolon 20 = .ok (.aload_n 0, 1) := by decide +kernel
theorem dX6_takeSemicolon_21 : decode cX6_takeSemicolon 21 = .ok (.invokevirtual 47, 3) := by decide +kernel
theorem dX6_takeSemicolon_24 : decode cX6_takeSemicolon 24 = .ok (.iconst (-1), 1) := by decide +kernel
theorem dX6_takeSemicolon_25 : decode cX6_takeSemicolon 25 = .ok (.if_icmp .eq 7, 3) := by decide +kernel
theorem dX6_takeSemicolon_28 : decode cX6_takeSemicolon 28 = .ok (.aload_n 0, 1) := by decide +kernel
theorem dX6_takeSemicolon_29 : decode cX6_takeSemicolon 29 = .ok (.invokevirtual 50, 3) := by decide +kernel
theorem dX6_takeSemicolon_32 : decode cX6_takeSemicolon 32 = .ok (.iconst 0, 1) := by decide +kernel
theorem dX6_takeSemicolon_33 : decode cX6_takeSemicolon 33 = .ok (.ireturn, 1) := by decide +kernel
theorem dX6_isDigit_0 : decode cX6_isDigit 0 = .ok (.iload_n 0, 1) := by decide +kernel
theorem dX6_isDigit_1 : decode cX6_isDigit 1 = .ok (.bipush 48, 2) := by decide +kernel
theorem dX6_isDigit_3 : decode cX6_isDigit 3 = .ok (.if_icmp .lt 13, 3) := by decide +kernel
theorem dX6_isDigit_6 : decode cX6_isDigit 6 = .ok (.iload_n 0, 1) := by decide +kernel
theorem dX6_isDigit_7 : decode cX6_isDigit 7 = .ok (.bipush 57, 2) := by decide +kernel
theorem dX6_isDigit_9 : decode cX6_isDigit 9 = .ok (.if_icmp .gt 7, 3) := by decide +kernel
theorem dX6_isDigit_12 : decode cX6_isDigit 12 = .ok (.iconst 1, 1) := by decide +kernel
theorem dX6_isDigit_13 : decode cX6_isDigit 13 = .ok (.goto 4, 3) := by decide +kernel
theorem dX6_isDigit_16 : decode cX6_isDigit 16 = .ok (.iconst 0, 1) := by decide +kernel
theorem dX6_isDigit_17 : decode cX6_isDigit 17 = .ok (.ireturn, 1) := by decide +kernel
theorem dX6_endOfWord_0 : decode cX6_endOfWord 0 = .ok (.aload_n 0, 1) := by decide +kernel
theorem dX6_endOfWord_1 : decode cX6_endOfWord 1 = .ok (.getfield 19, 3) := by decide +kernel
theorem dX6_endOfWord_4 : decode cX6_endOfWord 4 = .ok (.istore_n 1, 1) := by decide +kernel
theorem dX6_endOfWord_5 : decode cX6_endOfWord 5 = .ok (.iload_n 1, 1) := by decide +kernel
theorem dX6_endOfWord_6 : decode cX6_endOfWord 6 = .ok (.aload_n 0, 1) := by decide +kernel
theorem dX6_endOfWord_7 : decode cX6_endOfWord 7 = .ok (.getfield 15, 3) := by decide +kernel
theorem dX6_endOfWord_10 : decode cX6_endOfWord 10 = .ok (.if_icmp .ge 31, 3) := by decide +kernel
theorem dX6_endOfWord_13 : decode cX6_endOfWord 13 = .ok (.aload_n 0, 1) := by decide +kernel
theorem dX6_endOfWord_14 : decode cX6_endOfWord 14 = .ok (.getfield 9, 3) := by decide +kernel
theorem dX6_endOfWord_17 : decode cX6_endOfWord 17 = .ok (.iload_n 1, 1) := by decide +kernel
theorem dX6_endOfWord_18 : decode cX6_endOfWord 18 = .ok (.iaload, 1) := by decide +kernel
theorem dX6_endOfWord_19 : decode cX6_endOfWord 19 = .ok (.bipush 97, 2) := by decide +kernel
theorem dX6_endOfWord_21 : decode cX6_endOfWord 21 = .ok (.if_icmp .lt 20, 3) := by decide +kernel
theorem dX6_endOfWord_24 : decode cX6_endOfWord 24 = .ok (.aload_n 0, 1) := by decide +kernel
theorem dX6_endOfWord_25 : decode cX6_endOfWord 25 = .ok (.getfield 9, 3) := by decide +kernel
theorem dX6_endOfWord_28 : decode cX6_endOfWord 28 = .ok (.iload_n 1, 1) := by decide +kernel
theorem dX6_endOfWord_29 : decode cX6_endOfWord 29 = .ok (.iaload, 1) := by decide +kernel
theorem dX6_endOfWord_30 : decode cX6_endOfWord 30 = .ok (.bipush 122, 2) := by decide +kernel
theorem dX6_endOfWord_32 : decode cX6_endOfWord 32 = .ok (.if_icmp .gt 9, 3) := by decide +kernel
theorem dX6_endOfWord_35 : decode cX6_endOfWord 35 = .ok (.iinc 1 1, 3) := by decide +kernel
theorem dX6_endOfWord_38 : decode cX6_endOfWord 38 = .ok (.goto (-33), 3) := by decide +kernel
theorem dX6_endOfWord_41 : decode cX6_endOfWord 41 = .ok (.iload_n 1, 1) := by decide +kernel
theorem dX6_endOfWord_42 : decode cX6_endOfWord 42 = .ok (.ireturn, 1) := by decide +kernel
set_option maxRecDepth 20000 in
theorem ggX6_takeWord_X6_lookBehindBlanks : GoodIn wsX6_takeWord wsX6_lookBehindBlanks := goodIn_r _ [7, 1, 8, 2, 9, 63, 64, 65, 66, 67] (by decide +kernel) (by decide +kernel)
set_option maxRecDepth 20000 in
theorem gX6_takeWord_X6_lookBehindBlanks : GoodIn wsX6_takeWord (wsV RX6 28 RX6 yX6_lookBehindBlanks wsX6_lookBehindBlanks) := goodIn_app (goodIn_of _ (by decide +kernel)) ggX6_takeWord_X6_lookBehindBlanks
set_option maxRecDepth 20000 in
theorem ggX6_takeWord_X6_endOfWord : GoodIn wsX6_takeWord wsX6_endOfWord := goodIn_r _ [13, 1, 8, 2, 63, 64, 65, 66, 67] (by decide +kernel) (by decide +kernel)
set_option maxRecDepth 20000 in
theorem gX6_takeWord_X6_endOfWord : GoodIn wsX6_takeWord (wsV RX6 53 RX6 yX6_endOfWord wsX6_endOfWord) := goodIn_app (goodIn_of _ (by decide +kernel)) ggX6_takeWord_X6_endOfWord
set_option maxRecDepth 20000 in
theorem ggX6_takeWord_J0_length_8abf5 : GoodIn wsX6_takeWord wsJ0_length_8abf5 := goodIn_r _ [18, 19, 20, 21, 22, 17, 23, 24, 25] (by decide +kernel) (by decide +kernel)
set_option maxRecDepth 20000 in
theorem gX6_takeWord_J0_length_8abf5 : GoodIn wsX6_takeWord (wsV RX6 56 RJ0 yJ0_length_8abf5 wsJ0_length_8abf5) := goodIn_app (goodIn_of _ (by decide +kernel)) ggX6_takeWord_J0_length_8abf5
set_option maxRecDepth 20000 in
theorem ggX6_takeWord_J0_charAt_5068e : GoodIn wsX6_takeWord wsJ0_charAt_5068e := goodIn_r _ [29, 19, 30, 31, 32, 17, 33, 24, 25, 34, 35, 36, 37, 38, 39, 40, 41, 42, 43, 44, 45, 46, 47, 48, 49, 50, 51, 52, 53, 54, 55, 56, 57, 58, 59, 60, 61, 62] (by decide +kernel) (by decide +kernel)
set_option maxRecDepth 20000 in
theorem gX6_takeWord_J0_charAt_5068e : GoodIn wsX6_takeWord (wsV RX6 60 RJ0 yJ0_charAt_5068e wsJ0_charAt_5068e) := goodIn_app (goodIn_of _ (by decide +kernel)) ggX6_takeWord_J0_charAt_5068e
theorem dX6_takeWord_0 : decode cX6_takeWord 0 = .ok (.aload_n 0, 1) := by decide +kernel
theorem dX6_takeWord_1 : decode cX6_takeWord 1 = .ok (.invokevirtual 28, 3) := by decide +kernel
theorem dX6_takeWord_4 : decode cX6_takeWord 4 = .ok (.pop, 1) := by decide +kernel
theorem dX6_takeWord_5 : decode cX6_takeWord 5 = .ok (.aload_n 0, 1) := by decide +kernel
theorem dX6_takeWord_6 : decode cX6_takeWord 6 = .ok (.invokevirtual 53, 3) := by decide +kernel
theorem dX6_takeWord_9 : decode cX6_takeWord 9 = .ok (.istore_n 2, 1) := by decide +kernel
theorem dX6_takeWord_10 : decode cX6_takeWord 10 = .ok (.iload_n 2, 1) := by decide +kernel
theorem dX6_takeWord_11 : decode cX6_takeWord 11 = .ok (.aload_n 0, 1) := by decide +kernel
theorem dX6_takeWord_12 : decode cX6_takeWord 12 = .ok (.getfield 19, 3) := by decide +kernel
theorem dX6_takeWord_15 : decode cX6_takeWord 15 = .ok (.isub, 1) := by decide +kernel
theorem dX6_takeWord_16 : decode cX6_takeWord 16 = .ok (.aload_n 1, 1) := by decide +kernel
theorem dX6_takeWord_17 : decode cX6_takeWord 17 = .ok (.invokevirtual 56, 3) := by decide +kernel
theorem dX6_takeWord_20 : decode cX6_takeWord 20 = .ok (.if_icmp .eq 5, 3) := by decide +kernel
theorem dX6_takeWord_23 : decode cX6_takeWord 23 = .ok (.iconst 0, 1) := by decide +kernel
theorem dX6_takeWord_24 : decode cX6_takeWord 24 = .ok (.ireturn, 1) := by decide +kernel
theorem dX6_takeWord_25 : decode cX6_takeWord 25 = .ok (.iconst 0, 1) := by decide +kernel
theorem dX6_takeWord_26 : decode cX6_takeWord 26 = .ok (.istore_n 3, 1) := by decide +kernel
theorem dX6_takeWord_27 : decode cX6_takeWord 27 = .ok (.iload_n 3, 1) := by decide +kernel
theorem dX6_takeWord_28 : decode cX6_takeWord 28 = .ok (.aload_n 1, 1) := by decide +kernel
theorem dX6_takeWord_29 : decode cX6_takeWord 29 = .ok (.invokevirtual 56, 3) := by decide +kernel
theorem dX6_takeWord_32 : decode cX6_takeWord 32 = .ok (.if_icmp .ge 30, 3) := by decide +kernel
theorem dX6_takeWord_35 : decode cX6_takeWord 35 = .ok (.aload_n 0, 1) := by decide +kernel
theorem dX6_takeWord_36 : decode cX6_takeWord 36 = .ok (.getfield 9, 3) := by decide +kernel
theorem dX6_takeWord_39 : decode cX6_takeWord 39 = .ok (.aload_n 0, 1) := by decide +kernel
theorem dX6_takeWord_40 : decode cX6_takeWord 40 = .ok (.getfield 19, 3) := by decide +kernel
theorem dX6_takeWord_43 : decode cX6_takeWord 43 = .ok (.iload_n 3, 1) := by decide +kernel
theorem dX6_takeWord_44 : decode cX6_takeWord 44 = .ok (.iadd, 1) := by decide +kernel
theorem dX6_takeWord_45 : decode cX6_takeWord 45 = .ok (.iaload, 1) := by decide +kernel
theorem dX6_takeWord_46 : decode cX6_takeWord 46 = .ok (.aload_n 1, 1) := by decide +kernel
theorem dX6_takeWord_47 : decode cX6_takeWord 47 = .ok (.iload_n 3, 1) := by decide +kernel
theorem dX6_takeWord_48 : decode cX6_takeWord 48 = .ok (.invokevirtual 60, 3) := by decide +kernel
theorem dX6_takeWord_51 : decode cX6_takeWord 51 = .ok (.if_icmp .eq 5, 3) := by decide +kernel
theorem dX6_takeWord_54 : decode cX6_takeWord 54 = .ok (.iconst 0, 1) := by decide +kernel
theorem dX6_takeWord_55 : decode cX6_takeWord 55 = .ok (.ireturn, 1) := by decide +kernel
theorem dX6_takeWord_56 : decode cX6_takeWord 56 = .ok (.iinc 3 1, 3) := by decide +kernel
theorem dX6_takeWord_59 : decode cX6_takeWord 59 = .ok (.goto (-32), 3) := by decide +kernel
theorem dX6_takeWord_62 : decode cX6_takeWord 62 = .ok (.aload_n 0, 1) := by decide +kernel
theorem dX6_takeWord_63 : decode cX6_takeWord 63 = .ok (.iload_n 2, 1) := by decide +kernel
theorem dX6_takeWord_64 : decode cX6_takeWord 64 = .ok (.putfield 19, 3) := by decide +kernel
theorem dX6_takeWord_67 : decode cX6_takeWord 67 = .ok (.iconst 1, 1) := by decide +kernel
theorem dX6_takeWord_68 : decode cX6_takeWord 68 = .ok (.ireturn, 1) := by decide +kernel
set_option maxRecDepth 20000 in
theorem ggX6_readWord_X6_lookBehindBlanks : GoodIn wsX6_readWord wsX6_lookBehindBlanks := goodIn_r _ [8, 1, 9, 2, 3, 68, 69, 70, 71, 72] (by decide +kernel) (by decide +kernel)
set_option maxRecDepth 20000 in
theorem gX6_readWord_X6_lookBehindBlanks : GoodIn wsX6_readWord (wsV RX6 28 RX6 yX6_lookBehindBlanks wsX6_lookBehindBlanks) := goodIn_app (goodIn_of _ (by decide +kernel)) ggX6_readWord_X6_lookBehindBlanks
set_option maxRecDepth 20000 in
theorem ggX6_readWord_X6_endOfWord : GoodIn wsX6_readWord wsX6_endOfWord := goodIn_r _ [13, 1, 9, 2, 68, 69, 70, 71, 72] (by decide +kernel) (by decide +kernel)
set_option maxRecDepth 20000 in
theorem gX6_readWord_X6_endOfWord : GoodIn wsX6_readWord (wsV RX6 53 RX6 yX6_endOfWord wsX6_endOfWord) := goodIn_app (goodIn_of _ (by decide +kernel)) ggX6_readWord_X6_endOfWord
set_option maxRecDepth 20000 in
theorem ggX6_readWord_J0_length_8abf5 : GoodIn wsX6_readWord wsJ0_length_8abf5 := goodIn_r _ [18, 19, 20, 21, 22, 17, 23, 24, 25] (by decide +kernel) (by decide +kernel)
set_option maxRecDepth 20000 in
theorem gX6_readWord_J0_length_8abf5 : GoodIn wsX6_readWord (wsV RX6 56 RJ0 yJ0_length_8abf5 wsJ0_length_8abf5) := goodIn_app (goodIn_of _ (by decide +kernel)) ggX6_readWord_J0_length_8abf5
set_option maxRecDepth 20000 in
theorem ggX6_readWord_J0_charAt_5068e : GoodIn wsX6_readWord wsJ0_charAt_5068e := goodIn_r _ [29, 19, 30, 31, 32, 17, 33, 24, 25, 34, 35, 36, 37, 38, 39, 40, 41, 42, 43, 44, 45, 46, 47, 48, 49, 50, 51, 52, 53, 54, 55, 56, 57, 58, 59, 60, 61, 62] (by decide +kernel) (by decide +kernel)
set_option maxRecDepth 20000 in
theorem gX6_readWord_J0_charAt_5068e : GoodIn wsX6_readWord (wsV RX6 60 RJ0 yJ0_charAt_5068e wsJ0_charAt_5068e) := goodIn_app (goodIn_of _ (by decide +kernel)) ggX6_readWord_J0_charAt_5068e
set_option maxRecDepth 20000 in
theorem ggX6_readWord_X6_blame : GoodIn wsX6_readWord wsX6_blame := goodIn_r _ [66, 67, 68, 69, 70, 71, 72] (by decide +kernel) (by decide +kernel)
set_option maxRecDepth 20000 in
theorem gX6_readWord_X6_blame : GoodIn wsX6_readWord (wsV RX6 35 RX6 yX6_blame wsX6_blame) := goodIn_app (goodIn_of _ (by decide +kernel)) ggX6_readWord_X6_blame
theorem dX6_readWord_0 : decode cX6_readWord 0 = .ok (.aload_n 0, 1) := by decide +kernel
theorem dX6_readWord_1 : decode cX6_readWord 1 = .ok (.invokevirtual 28, 3) := by decide +kernel
theorem dX6_readWord_4 : decode cX6_readWord 4 = .ok (.pop, 1) := by decide +kernel
theorem dX6_readWord_5 : decode cX6_readWord 5 = .ok (.aload_n 0, 1) := by decide +kernel
theorem dX6_readWord_6 : decode cX6_readWord 6 = .ok (.invokevirtual 53, 3) := by decide +kernel
theorem dX6_readWord_9 : decode cX6_readWord 9 = .ok (.istore_n 2, 1) := by decide +kernel
theorem dX6_readWord_10 : decode cX6_readWord 10 = .ok (.iconst 0, 1) := by decide +kernel
theorem dX6_readWord_11 : decode cX6_readWord 11 = .ok (.istore_n 3, 1) := by decide +kernel
theorem dX6_readWord_12 : decode cX6_readWord 12 = .ok (.aload_n 0, 1) := by decide +kernel
theorem dX6_readWord_13 : decode cX6_readWord 13 = .ok (.getfield 19, 3) := by decide +kernel
theorem dX6_readWord_16 : decode cX6_readWord 16 = .ok (.istore 4, 2) := by decide +kernel
theorem dX6_readWord_18 : decode cX6_readWord 18 = .ok (.iconst 1, 1) := by decide +kernel
theorem dX6_readWord_19 : decode cX6_readWord 19 = .ok (.istore 5, 2) := by decide +kernel
theorem dX6_readWord_21 : decode cX6_readWord 21 = .ok (.iconst 0, 1) := by decide +kernel
theorem dX6_readWord_22 : decode cX6_readWord 22 = .ok (.istore 6, 2) := by decide +kernel
theorem dX6_readWord_24 : decode cX6_readWord 24 = .ok (.iload 6, 2) := by decide +kernel
theorem dX6_readWord_26 : decode cX6_readWord 26 = .ok (.aload_n 1, 1) := by decide +kernel
theorem dX6_readWord_27 : decode cX6_readWord 27 = .ok (.invokevirtual 56, 3) := by decide +kernel
theorem dX6_readWord_30 : decode cX6_readWord 30 = .ok (.if_icmp .ge 90, 3) := by decide +kernel
theorem dX6_readWord_33 : decode cX6_readWord 33 = .ok (.aload_n 1, 1) := by decide +kernel
theorem dX6_readWord_34 : decode cX6_readWord 34 = .ok (.iload 6, 2) := by decide +kernel
theorem dX6_readWord_36 : decode cX6_readWord 36 = .ok (.invokevirtual 60, 3) := by decide +kernel
theorem dX6_readWord_39 : decode cX6_readWord 39 = .ok (.istore 7, 2) := by decide +kernel
theorem dX6_readWord_41 : decode cX6_readWord 41 = .ok (.iload 7, 2) := by decide +kernel
theorem dX6_readWord_43 : decode cX6_readWord 43 = .ok (.bipush 32, 2) := by decide +kernel
theorem dX6_readWord_45 : decode cX6_readWord 45 = .ok (.if_icmp .eq 39, 3) := by decide +kernel
theorem dX6_readWord_48 : decode cX6_readWord 48 = .ok (.iload 5, 2) := by decide +kernel
theorem dX6_readWord_50 : decode cX6_readWord 50 = .ok (.ifCond .eq 25, 3) := by decide +kernel
theorem dX6_readWord_53 : decode cX6_readWord 53 = .ok (.iload 4, 2) := by decide +kernel
theorem dX6_readWord_55 : decode cX6_readWord 55 = .ok (.iload_n 2, 1) := by decide +kernel
theorem dX6_readWord_56 : decode cX6_readWord 56 = .ok (.if_icmp .ge 19, 3) := by decide +kernel
theorem dX6_readWord_59 : decode cX6_readWord 59 = .ok (.aload_n 0, 1) := by decide +kernel
theorem dX6_readWord_60 : decode cX6_readWord 60 = .ok (.getfield 9, 3) := by decide +kernel
theorem dX6_readWord_63 : decode cX6_readWord 63 = .ok (.iload 4, 2) := by decide +kernel
theorem dX6_readWord_65 : decode cX6_readWord 65 = .ok (.iaload, 1) := by decide +kernel
theorem dX6_readWord_66 : decode cX6_readWord 66 = .ok (.iload 7, 2) := by decide +kernel
theorem dX6_readWord_68 : decode cX6_readWord 68 = .ok (.if_icmp .ne 7, 3) := by decide +kernel
theorem dX6_readWord_71 : decode cX6_readWord 71 = .ok (.iconst 1, 1) := by decide +kernel
theorem dX6_readWord_72 : decode cX6_readWord 72 = .ok (.goto 4, 3) := by decide +kernel
theorem dX6_readWord_75 : decode cX6_readWord 75 = .ok (.iconst 0, 1) := by decide +kernel
theorem dX6_readWord_76 : decode cX6_readWord 76 = .ok (.istore 5, 2) := by decide +kernel
theorem dX6_readWord_78 : decode cX6_readWord 78 = .ok (.iinc 4 1, 3) := by decide +kernel
theorem dX6_readWord_81 : decode cX6_readWord 81 = .ok (.goto 33, 3) := by decide +kernel
theorem dX6_readWord_84 : decode cX6_readWord 84 = .ok (.iload 5, 2) := by decide +kernel
theorem dX6_readWord_86 : decode cX6_readWord 86 = .ok (.ifCond .eq 16, 3) := by decide +kernel
theorem dX6_readWord_89 : decode cX6_readWord 89 = .ok (.iload 4, 2) := by decide +kernel
theorem dX6_readWord_91 : decode cX6_readWord 91 = .ok (.iload_n 2, 1) := by decide +kernel
theorem dX6_readWord_92 : decode cX6_readWord 92 = .ok (.if_icmp .ne 10, 3) := by decide +kernel
theorem dX6_readWord_95 : decode cX6_readWord 95 = .ok (.aload_n 0, 1) := by decide +kernel
theorem dX6_readWord_96 : decode cX6_readWord 96 = .ok (.iload_n 2, 1) := by decide +kernel
theorem dX6_readWord_97 : decode cX6_readWord 97 = .ok (.putfield 19, 3) := by decide +kernel
theorem dX6_readWord_100 : decode cX6_readWord 100 = .ok (.iload_n 3, 1) := by decide +kernel
theorem dX6_readWord_101 : decode cX6_readWord 101 = .ok (.ireturn, 1) := by decide +kernel
theorem dX6_readWord_102 : decode cX6_readWord 102 = .ok (.iinc 3 1, 3) := by decide +kernel
theorem dX6_readWord_105 : decode cX6_readWord 105 = .ok (.aload_n 0, 1) := by decide +kernel
theorem dX6_readWord_106 : decode cX6_readWord 106 = .ok (.getfield 19, 3) := by decide +kernel
theorem dX6_readWord_109 : decode cX6_readWord 109 = .ok (.istore 4, 2) := by decide +kernel
theorem dX6_readWord_111 : decode cX6_readWord 111 = .ok (.iconst 1, 1) := by decide +kernel
theorem dX6_readWord_112 : decode cX6_readWord 112 = .ok (.istore 5, 2) := by decide +kernel
theorem dX6_readWord_114 : decode cX6_readWord 114 = .ok (.iinc 6 1, 3) := by decide +kernel
theorem dX6_readWord_117 : decode cX6_readWord 117 = .ok (.goto (-93), 3) := by decide +kernel
theorem dX6_readWord_120 : decode cX6_readWord 120 = .ok (.aload_n 0, 1) := by decide +kernel
theorem dX6_readWord_121 : decode cX6_readWord 121 = .ok (.aload_n 0, 1) := by decide +kernel
theorem dX6_readWord_122 : decode cX6_readWord 122 = .ok (.getfield 22, 3) := by decide +kernel
theorem dX6_readWord_125 : decode cX6_readWord 125 = .ok (.iconst 0, 1) := by decide +kernel
theorem dX6_readWord_126 : decode cX6_readWord 126 = .ok (.invokevirtual 35, 3) := by decide +kernel
theorem dX6_readWord_129 : decode cX6_readWord 129 = .ok (.iconst (-1), 1) := by decide +kernel
theorem dX6_readWord_130 : decode cX6_readWord 130 = .ok (.ireturn, 1) := by decide +kernel
set_option maxRecDepth 20000 in
theorem ggX6_readNumber_X6_isFaulty : GoodIn wsX6_readNumber wsX6_isFaulty := goodIn_r _ [9, 10, 22, 23, 24, 25, 26] (by decide +kernel) (by decide +kernel)
set_option maxRecDepth 20000 in
theorem gX6_readNumber_X6_isFaulty : GoodIn wsX6_readNumber (wsV RX6 39 RX6 yX6_isFaulty wsX6_isFaulty) := goodIn_app (goodIn_of _ (by decide +kernel)) ggX6_readNumber_X6_isFaulty
set_option maxRecDepth 20000 in
theorem ggX6_readNumber_X6_lookBehindBlanks : GoodIn wsX6_readNumber wsX6_lookBehindBlanks := goodIn_r _ [14, 2, 3, 4, 1, 22, 23, 24, 25, 26] (by decide +kernel) (by decide +kernel)
set_option maxRecDepth 20000 in
theorem gX6_readNumber_X6_lookBehindBlanks : GoodIn wsX6_readNumber (wsV RX6 28 RX6 yX6_lookBehindBlanks wsX6_lookBehindBlanks) := goodIn_app (goodIn_of _ (by decide +kernel)) ggX6_readNumber_X6_lookBehindBlanks
set_option maxRecDepth 20000 in
theorem ggX6_readNumber_X6_isDigit : GoodIn wsX6_readNumber wsX6_isDigit := goodIn_r _ [17] (by decide +kernel) (by decide +kernel)
set_option maxRecDepth 20000 in
theorem gX6_readNumber_X6_isDigit : GoodIn wsX6_readNumber (va_wsS RX6 64 yX6_isDigit wsX6_isDigit) := goodIn_app (goodIn_of _ (by decide +kernel)) ggX6_readNumber_X6_isDigit
set_option maxRecDepth 20000 in
theorem ggX6_readNumber_X6_blame : GoodIn wsX6_readNumber wsX6_blame := goodIn_r _ [21, 10, 22, 23, 24, 25, 26] (by decide +kernel) (by decide +kernel)
set_option maxRecDepth 20000 in
theorem gX6_readNumber_X6_blame : GoodIn wsX6_readNumber (wsV RX6 35 RX6 yX6_blame wsX6_blame) := goodIn_app (goodIn_of _ (by decide +kernel)) ggX6_readNumber_X6_blame
theorem dX6_readNumber_0 : decode cX6_readNumber 0 = .ok (.aload_n 0, 1) := by decide +kernel
theorem dX6_readNumber_1 : decode cX6_readNumber 1 = .ok (.invokevirtual 39, 3) := by decide +kernel
theorem dX6_readNumber_4 : decode cX6_readNumber 4 = .ok (.ifCond .eq 5, 3) := by decide +kernel
theorem dX6_readNumber_7 : decode cX6_readNumber 7 = .ok (.iconst (-1), 1) := by decide +kernel
theorem dX6_readNumber_8 : decode cX6_readNumber 8 = .ok (.ireturn, 1) := by decide +kernel
theorem dX6_readNumber_9 : decode cX6_readNumber 9 = .ok (.aload_n 0, 1) := by decide +kernel
theorem dX6_readNumber_10 : decode cX6_readNumber 10 = .ok (.invokevirtual 28, 3) := by decide +kernel
theorem dX6_readNumber_13 : decode cX6_readNumber 13 = .ok (.invokestatic 64, 3) := by decide +kernel
theorem dX6_readNumber_16 : decode cX6_readNumber 16 = .ok (.ifCond .ne 14, 3) := by decide +kernel
theorem dX6_readNumber_19 : decode cX6_readNumber 19 = .ok (.aload_n 0, 1) := by decide +kernel
theorem dX6_readNumber_20 : decode cX6_readNumber 20 = .ok (.aload_n 0, 1) := by decide +kernel
theorem dX6_readNumber_21 : decode cX6_readNumber 21 = .ok (.getfield 22, 3) := by decide +kernel
theorem dX6_readNumber_24 : decode cX6_readNumber 24 = .ok (.iconst 0, 1) := by decide +kernel
theorem dX6_readNumber_25 : decode cX6_readNumber 25 = .ok (.invokevirtual 35, 3) := by decide +kernel
theorem dX6_readNumber_28 : decode cX6_readNumber 28 = .ok (.iconst (-1), 1) := by decide +kernel
theorem dX6_readNumber_29 : decode cX6_readNumber 29 = .ok (.ireturn, 1) := by decide +kernel
theorem dX6_readNumber_30 : decode cX6_readNumber 30 = .ok (.iconst 0, 1) := by decide +kernel
theorem dX6_readNumber_31 : decode cX6_readNumber 31 = .ok (.istore_n 3, 1) := by decide +kernel
theorem dX6_readNumber_32 : decode cX6_readNumber 32 = .ok (.aload_n 0, 1) := by decide +kernel
theorem dX6_readNumber_33 : decode cX6_readNumber 33 = .ok (.getfield 19, 3) := by decide +kernel
theorem dX6_readNumber_36 : decode cX6_readNumber 36 = .ok (.aload_n 0, 1) := by decide +kernel
theorem dX6_readNumber_37 : decode cX6_readNumber 37 = .ok (.getfield 15, 3) := by decide +kernel
theorem dX6_readNumber_40 : decode cX6_readNumber 40 = .ok (.if_icmp .ge 62, 3) := by decide +kernel
theorem dX6_readNumber_43 : decode cX6_readNumber 43 = .ok (.aload_n 0, 1) := by decide +kernel
theorem dX6_readNumber_44 : decode cX6_readNumber 44 = .ok (.getfield 9, 3) := by decide +kernel
theorem dX6_readNumber_47 : decode cX6_readNumber 47 = .ok (.aload_n 0, 1) := by decide +kernel
theorem dX6_readNumber_48 : decode cX6_readNumber 48 = .ok (.getfield 19, 3) := by decide +kernel
theorem dX6_readNumber_51 : decode cX6_readNumber 51 = .ok (.iaload, 1) := by decide +kernel
theorem dX6_readNumber_52 : decode cX6_readNumber 52 = .ok (.invokestatic 64, 3) := by decide +kernel
theorem dX6_readNumber_55 : decode cX6_readNumber 55 = .ok (.ifCond .eq 47, 3) := by decide +kernel
theorem dX6_readNumber_58 : decode cX6_readNumber 58 = .ok (.aload_n 0, 1) := by decide +kernel
theorem dX6_readNumber_59 : decode cX6_readNumber 59 = .ok (.getfield 19, 3) := by decide +kernel
theorem dX6_readNumber_62 : decode cX6_readNumber 62 = .ok (.aload_n 0, 1) := by decide +kernel
theorem dX6_readNumber_63 : decode cX6_readNumber 63 = .ok (.getfield 22, 3) := by decide +kernel
theorem dX6_readNumber_66 : decode cX6_readNumber 66 = .ok (.isub, 1) := by decide +kernel
theorem dX6_readNumber_67 : decode cX6_readNumber 67 = .ok (.iconst 5, 1) := by decide +kernel
theorem dX6_readNumber_68 : decode cX6_readNumber 68 = .ok (.if_icmp .ge 21, 3) := by decide +kernel
theorem dX6_readNumber_71 : decode cX6_readNumber 71 = .ok (.iload_n 3, 1) := by decide +kernel
theorem dX6_readNumber_72 : decode cX6_readNumber 72 = .ok (.bipush 10, 2) := by decide +kernel
theorem dX6_readNumber_74 : decode cX6_readNumber 74 = .ok (.imul, 1) := by decide +kernel
theorem dX6_readNumber_75 : decode cX6_readNumber 75 = .ok (.aload_n 0, 1) := by decide +kernel
theorem dX6_readNumber_76 : decode cX6_readNumber 76 = .ok (.getfield 9, 3) := by decide +kernel
theorem dX6_readNumber_79 : decode cX6_readNumber 79 = .ok (.aload_n 0, 1) := by decide +kernel
theorem dX6_readNumber_80 : decode cX6_readNumber 80 = .ok (.getfield 19, 3) := by decide +kernel
theorem dX6_readNumber_83 : decode cX6_readNumber 83 = .ok (.iaload, 1) := by decide +kernel
theorem dX6_readNumber_84 : decode cX6_readNumber 84 = .ok (.iadd, 1) := by decide +kernel
theorem dX6_readNumber_85 : decode cX6_readNumber 85 = .ok (.bipush 48, 2) := by decide +kernel
theorem dX6_readNumber_87 : decode cX6_readNumber 87 = .ok (.isub, 1) := by decide +kernel
theorem dX6_readNumber_88 : decode cX6_readNumber 88 = .ok (.istore_n 3, 1) := by decide +kernel
theorem dX6_readNumber_89 : decode cX6_readNumber 89 = .ok (.aload_n 0, 1) := by decide +kernel
theorem dX6_readNumber_90 : decode cX6_readNumber 90 = .ok (.dup, 1) := by decide +kernel
theorem dX6_readNumber_91 : decode cX6_readNumber 91 = .ok (.getfield 19, 3) := by decide +kernel
theorem dX6_readNumber_94 : decode cX6_readNumber 94 = .ok (.iconst 1, 1) := by decide +kernel
theorem dX6_readNumber_95 : decode cX6_readNumber 95 = .ok (.iadd, 1) := by decide +kernel
theorem dX6_readNumber_96 : decode cX6_readNumber 96 = .ok (.putfield 19, 3) := by decide +kernel
theorem dX6_readNumber_99 : decode cX6_readNumber 99 = .ok (.goto (-67), 3) := by decide +kernel
theorem dX6_readNumber_102 : decode cX6_readNumber 102 = .ok (.aload_n 0, 1) := by decide +kernel
theorem dX6_readNumber_103 : decode cX6_readNumber 103 = .ok (.getfield 19, 3) := by decide +kernel
theorem dX6_readNumber_106 : decode cX6_readNumber 106 = .ok (.aload_n 0, 1) := by decide +kernel
theorem dX6_readNumber_107 : decode cX6_readNumber 107 = .ok (.getfield 22, 3) := by decide +kernel
theorem dX6_readNumber_110 : decode cX6_readNumber 110 = .ok (.isub, 1) := by decide +kernel
theorem dX6_readNumber_111 : decode cX6_readNumber 111 = .ok (.iconst 5, 1) := by decide +kernel
theorem dX6_readNumber_112 : decode cX6_readNumber 112 = .ok (.if_icmp .gt 13, 3) := by decide +kernel
theorem dX6_readNumber_115 : decode cX6_readNumber 115 = .ok (.iload_n 3, 1) := by decide +kernel
theorem dX6_readNumber_116 : decode cX6_readNumber 116 = .ok (.iload_n 1, 1) := by decide +kernel
theorem dX6_readNumber_117 : decode cX6_readNumber 117 = .ok (.if_icmp .lt 8, 3) := by decide +kernel
theorem dX6_readNumber_120 : decode cX6_readNumber 120 = .ok (.iload_n 3, 1) := by decide +kernel
theorem dX6_readNumber_121 : decode cX6_readNumber 121 = .ok (.iload_n 2, 1) := by decide +kernel
theorem dX6_readNumber_122 : decode cX6_readNumber 122 = .ok (.if_icmp .le 14, 3) := by decide +kernel
theorem dX6_readNumber_125 : decode cX6_readNumber 125 = .ok (.aload_n 0, 1) := by decide +kernel
theorem dX6_readNumber_126 : decode cX6_readNumber 126 = .ok (.aload_n 0, 1) := by decide +kernel
theorem dX6_readNumber_127 : decode cX6_readNumber 127 = .ok (.getfield 22, 3) := by decide +kernel
theorem dX6_readNumber_130 : decode cX6_readNumber 130 = .ok (.iconst 1, 1) := by decide +kernel
theorem dX6_readNumber_131 : decode cX6_readNumber 131 = .ok (.invokevirtual 35, 3) := by decide +kernel
theorem dX6_readNumber_134 : decode cX6_readNumber 134 = .ok (.iconst (-1), 1) := by decide +kernel
theorem dX6_readNumber_135 : decode cX6_readNumber 135 = .ok (.ireturn, 1) := by decide +kernel
theorem dX6_readNumber_136 : decode cX6_readNumber 136 = .ok (.iload_n 3, 1) := by decide +kernel
theorem dX6_readNumber_137 : decode cX6_readNumber 137 = .ok (.ireturn, 1) := by decide +kernel
theorem dX7_init_0 : decode cX7_init 0 = .ok (.aload_n 0, 1) := by decide +kernel
theorem dX7_init_1 : decode cX7_init 1 = .ok (.invokespecial 3, 3) := by decide +kernel
theorem dX7_init_4 : decode cX7_init 4 = .ok (.aload_n 0, 1) := by decide +kernel
theorem dX7_init_5 : decode cX7_init 5 = .ok (.bipush 26, 2) := by decide +kernel
theorem dX7_init_7 : decode cX7_init 7 = .ok (.newarray .int, 2) := by decide +kernel
theorem dX7_init_9 : decode cX7_init 9 = .ok (.putfield 11, 3) := by decide +kernel
theorem dX7_init_12 : decode cX7_init 12 = .ok (.aload_n 0, 1) := by decide +kernel
theorem dX7_init_13 : decode cX7_init 13 = .ok (.bipush 13, 2) := by decide +kernel
theorem dX7_init_15 : decode cX7_init 15 = .ok (.newarray .int, 2) := by decide +kernel
theorem dX7_init_17 : decode cX7_init 17 = .ok (.putfield 15, 3) := by decide +kernel
theorem dX7_init_20 : decode cX7_init 20 = .ok (.aload_n 0, 1) := by decide +kernel
theorem dX7_init_21 : decode cX7_init 21 = .ok (.bipush 91, 2) := by decide +kernel
theorem dX7_init_23 : decode cX7_init 23 = .ok (.newarray .int, 2) := by decide +kernel
theorem dX7_init_25 : decode cX7_init 25 = .ok (.putfield 18, 3) := by decide +kernel
theorem dX7_init_28 : decode cX7_init 28 = .ok (.aload_n 0, 1) := by decide +kernel
theorem dX7_init_29 : decode cX7_init 29 = .ok (.bipush 13, 2) := by decide +kernel
theorem dX7_init_31 : decode cX7_init 31 = .ok (.newarray .int, 2) := by decide +kernel
theorem dX7_init_33 : decode cX7_init 33 = .ok (.putfield 21, 3) := by decide +kernel
theorem dX7_init_36 : decode cX7_init 36 = .ok (.aload_n 0, 1) := by decide +kernel
theorem dX7_init_37 : decode cX7_init 37 = .ok (.bipush 26, 2) := by decide +kernel
theorem dX7_init_39 : decode cX7_init 39 = .ok (.newarray .int, 2) := by decide +kernel
theorem dX7_init_41 : decode cX7_init 41 = .ok (.putfield 24, 3) := by decide +kernel
theorem dX7_init_44 : decode cX7_init 44 = .ok (.aload_n 0, 1) := by decide +kernel
theorem dX7_init_45 : decode cX7_init 45 = .ok (.bipush 8, 2) := by decide +kernel
theorem dX7_init_47 : decode cX7_init 47 = .ok (.newarray .int, 2) := by decide +kernel
theorem dX7_init_49 : decode cX7_init 49 = .ok (.putfield 27, 3) := by decide +kernel
theorem dX7_init_52 : decode cX7_init 52 = .ok (.aload_n 0, 1) := by decide +kernel
theorem dX7_init_53 : decode cX7_init 53 = .ok (.bipush 8, 2) := by decide +kernel
theorem dX7_init_55 : decode cX7_init 55 = .ok (.newarray .int, 2) := by decide +kernel
theorem dX7_init_57 : decode cX7_init 57 = .ok (.putfield 30, 3) := by decide +kernel
theorem dX7_init_60 : decode cX7_init 60 = .ok (.aload_n 0, 1) := by decide +kernel
theorem dX7_init_61 : decode cX7_init 61 = .ok (.bipush 13, 2) := by decide +kernel
theorem dX7_init_63 : decode cX7_init 63 = .ok (.newarray .int, 2) := by decide +kernel
theorem dX7_init_65 : decode cX7_init 65 = .ok (.putfield 33, 3) := by decide +kernel
theorem dX7_init_68 : decode cX7_init 68 = .ok (.return_, 1) := by decide +kernel
theorem dX7_copyFrom_0 : decode cX7_copyFrom 0 = .ok (.aload_n 1, 1) := by decide +kernel
theorem dX7_copyFrom_1 : decode cX7_copyFrom 1 = .ok (.getfield 11, 3) := by decide +kernel
theorem dX7_copyFrom_4 : decode cX7_copyFrom 4 = .ok (.iconst 0, 1) := by decide +kernel
theorem dX7_copyFrom_5 : decode cX7_copyFrom 5 = .ok (.aload_n 0, 1) := by decide +kernel
theorem dX7_copyFrom_6 : decode cX7_copyFrom 6 = .ok (.getfield 11, 3) := by decide +kernel
theorem dX7_copyFrom_9 : decode cX7_copyFrom 9 = .ok (.iconst 0, 1) := by decide +kernel
theorem dX7_copyFrom_10 : decode cX7_copyFrom 10 = .ok (.aload_n 0, 1) := by decide +kernel
theorem dX7_copyFrom_11 : decode cX7_copyFrom 11 = .ok (.getfield 11, 3) := by decide +kernel
theorem dX7_copyFrom_14 : decode cX7_copyFrom 14 = .ok (.arraylength, 1) := by decide +kernel
theorem dX7_copyFrom_15 : decode cX7_copyFrom 15 = .ok (.invokestatic 36, 3) := by decide +kernel
theorem dX7_copyFrom_18 : decode cX7_copyFrom 18 = .ok (.aload_n 1, 1) := by decide +kernel
theorem dX7_copyFrom_19 : decode cX7_copyFrom 19 = .ok (.getfield 15, 3) := by decide +kernel
theorem dX7_copyFrom_22 : decode cX7_copyFrom 22 = .ok (.iconst 0, 1) := by decide +kernel
theorem dX7_copyFrom_23 : decode cX7_copyFrom 23 = .ok (.aload_n 0, 1) := by decide +kernel
theorem dX7_copyFrom_24 : decode cX7_copyFrom 24 = .ok (.getfield 15, 3) := by decide +kernel
theorem dX7_copyFrom_27 : decode cX7_copyFrom 27 = .ok (.iconst 0, 1) := by decide +kernel
theorem dX7_copyFrom_28 : decode cX7_copyFrom 28 = .ok (.aload_n 0, 1) := by decide +kernel
theorem dX7_copyFrom_29 : decode cX7_copyFrom 29 = .ok (.getfield 15, 3) := by decide +kernel
theorem dX7_copyFrom_32 : decode cX7_copyFrom 32 = .ok (.arraylength, 1) := by decide +kernel
theorem dX7_copyFrom_33 : decode cX7_copyFrom 33 = .ok (.invokestatic 36, 3) := by decide +kernel
theorem dX7_copyFrom_36 : decode cX7_copyFrom 36 = .ok (.aload_n 1, 1) := by decide +kernel
theorem dX7_copyFrom_37 : decode cX7_copyFrom 37 = .ok (.getfield 18, 3) := by decide +kernel
theorem dX7_copyFrom_40 : decode cX7_copyFrom 40 = .ok (.iconst 0, 1) := by decide +kernel
theorem dX7_copyFrom_41 : decode cX7_copyFrom 41 = .ok (.aload_n 0, 1) := by decide +kernel
theorem dX7_copyFrom_42 : decode cX7_copyFrom 42 = .ok (.getfield 18, 3) := by decide +kernel
theorem dX7_copyFrom_45 : decode cX7_copyFrom 45 = .ok (.iconst 0, 1) := by decide +kernel
theorem dX7_copyFrom_46 : decode cX7_copyFrom 46 = .ok (.aload_n 0, 1) := by decide +kernel
theorem dX7_copyFrom_47 : decode cX7_copyFrom 47 = .ok (.getfield 18, 3) := by decide +kernel
theorem dX7_copyFrom_50 : decode cX7_copyFrom 50 = .ok (.arraylength, 1) := by decide +kernel
theorem dX7_copyFrom_51 : decode cX7_copyFrom 51 = .ok (.invokestatic 36, 3) := by decide +kernel
theorem dX7_copyFrom_54 : decode cX7_copyFrom 54 = .ok (.aload_n 1, 1) := by decide +kernel
theorem dX7_copyFrom_55 : decode cX7_copyFrom 55 = .ok (.getfield 21, 3) := by decide +kernel
theorem dX7_copyFrom_58 : decode cX7_copyFrom 58 = .ok (.iconst 0, 1) := by decide +kernel
theorem dX7_copyFrom_59 : decode cX7_copyFrom 59 = .ok (.aload_n 0, 1) := by decide +kernel
theorem dX7_copyFrom_60 : decode cX7_copyFrom 60 = .ok (.getfield 21, 3) := by decide +kernel
theorem dX7_copyFrom_63 : decode cX7_copyFrom 63 = .ok (.iconst 0, 1) := by decide +kernel
theorem dX7_copyFrom_64 : decode cX7_copyFrom 64 = .ok (.aload_n 0, 1) := by decide +kernel
theorem dX7_copyFrom_65 : decode cX7_copyFrom 65 = .ok (.getfield 21, 3) := by decide +kernel
theorem dX7_copyFrom_68 : decode cX7_copyFrom 68 = .ok (.arraylength, 1) := by decide +kernel
theorem dX7_copyFrom_69 : decode cX7_copyFrom 69 = .ok (.invokestatic 36, 3) := by decide +kernel
theorem dX7_copyFrom_72 : decode cX7_copyFrom 72 = .ok (.aload_n 1, 1) := by decide +kernel
theorem dX7_copyFrom_73 : decode cX7_copyFrom 73 = .ok (.getfield 24, 3) := by decide +kernel
theorem dX7_copyFrom_76 : decode cX7_copyFrom 76 = .ok (.iconst 0, 1) := by decide +kernel
theorem dX7_copyFrom_77 : decode cX7_copyFrom 77 = .ok (.aload_n 0, 1) := by decide +kernel
theorem dX7_copyFrom_78 : decode cX7_copyFrom 78 = .ok (.getfield 24, 3) := by decide +kernel
theorem dX7_copyFrom_81 : decode cX7_copyFrom 81 = .ok (.iconst 0, 1) := by decide +kernel
theorem dX7_copyFrom_82 : decode cX7_copyFrom 82 = .ok (.aload_n 0, 1) := by decide +kernel
theorem dX7_copyFrom_83 : decode cX7_copyFrom 83 = .ok (.getfield 24, 3) := by decide +kernel
theorem dX7_copyFrom_86 : decode cX7_copyFrom 86 = .ok (.arraylength, 1) := by decide +kernel
theorem dX7_copyFrom_87 : decode cX7_copyFrom 87 = .ok (.invokestatic 36, 3) := by decide +kernel
theorem dX7_copyFrom_90 : decode cX7_copyFrom 90 = .ok (.aload_n 1, 1) := by decide +kernel
theorem dX7_copyFrom_91 : decode cX7_copyFrom 91 = .ok (.getfield 27, 3) := by decide +kernel
theorem dX7_copyFrom_94 : decode cX7_copyFrom 94 = .ok (.iconst 0, 1) := by decide +kernel
theorem dX7_copyFrom_95 : decode cX7_copyFrom 95 = .ok (.aload_n 0, 1) := by decide +kernel
theorem dX7_copyFrom_96 : decode cX7_copyFrom 96 = .ok (.getfield 27, 3) := by decide +kernel
theorem dX7_copyFrom_99 : decode cX7_copyFrom 99 = .ok (.iconst 0, 1) := by decide +kernel
theorem dX7_copyFrom_100 : decode cX7_copyFrom 100 = .ok (.aload_n 0, 1) := by decide +kernel
theorem dX7_copyFrom_101 : decode cX7_copyFrom 101 = .ok (.getfield 27, 3) := by decide +kernel
theorem dX7_copyFrom_104 : decode cX7_copyFrom 104 = .ok (.arraylength, 1) := by decide +kernel
theorem dX7_copyFrom_105 : decode cX7_copyFrom 105 = .ok (.invokestatic 36, 3) := by decide +kernel
theorem dX7_copyFrom_108 : decode cX7_copyFrom 108 = .ok (.aload_n 1, 1) := by decide +kernel
theorem dX7_copyFrom_109 : decode cX7_copyFrom 109 = .ok (.getfield 30, 3) := by decide +kernel
theorem dX7_copyFrom_112 : decode cX7_copyFrom 112 = .ok (.iconst 0, 1) := by decide +kernel
theorem dX7_copyFrom_113 : decode cX7_copyFrom 113 = .ok (.aload_n 0, 1) := by decide +kernel
theorem dX7_copyFrom_114 : decode cX7_copyFrom 114 = .ok (.getfield 30, 3) := by decide +kernel
theorem dX7_copyFrom_117 : decode cX7_copyFrom 117 = .ok (.iconst 0, 1) := by decide +kernel
theorem dX7_copyFrom_118 : decode cX7_copyFrom 118 = .ok (.aload_n 0, 1) := by decide +kernel
theorem dX7_copyFrom_119 : decode cX7_copyFrom 119 = .ok (.getfield 30, 3) := by decide +kernel
theorem dX7_copyFrom_122 : decode cX7_copyFrom 122 = .ok (.arraylength, 1) := by decide +kernel
theorem dX7_copyFrom_123 : decode cX7_copyFrom 123 = .ok (.invokestatic 36, 3) := by decide +kernel
theorem dX7_copyFrom_126 : decode cX7_copyFrom 126 = .ok (.aload_n 1, 1) := by decide +kernel
theorem dX7_copyFrom_127 : decode cX7_copyFrom 127 = .ok (.getfield 33, 3) := by decide +kernel
theorem dX7_copyFrom_130 : decode cX7_copyFrom 130 = .ok (.iconst 0, 1) := by decide +kernel
theorem dX7_copyFrom_131 : decode cX7_copyFrom 131 = .ok (.aload_n 0, 1) := by decide +kernel
theorem dX7_copyFrom_132 : decode cX7_copyFrom 132 = .ok (.getfield 33, 3) := by decide +kernel
theorem dX7_copyFrom_135 : decode cX7_copyFrom 135 = .ok (.iconst 0, 1) := by decide +kernel
theorem dX7_copyFrom_136 : decode cX7_copyFrom 136 = .ok (.aload_n 0, 1) := by decide +kernel
theorem dX7_copyFrom_137 : decode cX7_copyFrom 137 = .ok (.getfield 33, 3) := by decide +kernel
theorem dX7_copyFrom_140 : decode cX7_copyFrom 140 = .ok (.arraylength, 1) := by decide +kernel
theorem dX7_copyFrom_141 : decode cX7_copyFrom 141 = .ok (.invokestatic 36, 3) := by decide +kernel
theorem dX7_copyFrom_144 : decode cX7_copyFrom 144 = .ok (.aload_n 0, 1) := by decide +kernel
theorem dX7_copyFrom_145 : decode cX7_copyFrom 145 = .ok (.aload_n 1, 1) := by decide +kernel
theorem dX7_copyFrom_146 : decode cX7_copyFrom 146 = .ok (.getfield 42, 3) := by decide +kernel
theorem dX7_copyFrom_149 : decode cX7_copyFrom 149 = .ok (.putfield 42, 3) := by decide +kernel
theorem dX7_copyFrom_152 : decode cX7_copyFrom 152 = .ok (.aload_n 0, 1) := by decide +kernel
theorem dX7_copyFrom_153 : decode cX7_copyFrom 153 = .ok (.aload_n 1, 1) := by decide +kernel
theorem dX7_copyFrom_154 : decode cX7_copyFrom 154 = .ok (.getfield 46, 3) := by decide +kernel
theorem dX7_copyFrom_157 : decode cX7_copyFrom 157 = .ok (.putfield 46, 3) := by decide +kernel
theorem dX7_copyFrom_160 : decode cX7_copyFrom 160 = .ok (.aload_n 0, 1) := by decide +kernel
theorem dX7_copyFrom_161 : decode cX7_copyFrom 161 = .ok (.aload_n 1, 1) := by decide +kernel
theorem dX7_copyFrom_162 : decode cX7_copyFrom 162 = .ok (.getfield 49, 3) := by decide +kernel
theorem dX7_copyFrom_165 : decode cX7_copyFrom 165 = .ok (.putfield 49, 3) := by decide +kernel
theorem dX7_copyFrom_168 : decode cX7_copyFrom 168 = .ok (.aload_n 0, 1) := by decide +kernel
theorem dX7_copyFrom_169 : decode cX7_copyFrom 169 = .ok (.aload_n 1, 1) := by decide +kernel
theorem dX7_copyFrom_170 : decode cX7_copyFrom 170 = .ok (.getfield 52, 3) := by decide +kernel
theorem dX7_copyFrom_173 : decode cX7_copyFrom 173 = .ok (.putfield 52, 3) := by decide +kernel
theorem dX7_copyFrom_176 : decode cX7_copyFrom 176 = .ok (.return_, 1) := by decide +kernel
set_option maxRecDepth 20000 in
theorem ggX7_readFrom_X6_startReading : GoodIn wsX7_readFrom wsX6_startReading := goodIn_r _ [10, 11, 12, 13, 240, 241, 242, 243, 244] (by decide +kernel) (by decide +kernel)
set_option maxRecDepth 20000 in
theorem gX7_readFrom_X6_startReading : GoodIn wsX7_readFrom (wsV RX7 55 RX6 yX6_startReading wsX6_startReading) := goodIn_app (goodIn_of _ (by decide +kernel)) ggX7_readFrom_X6_startReading
set_option maxRecDepth 20000 in
theorem ggX7_readFrom_X6_readWord : GoodIn wsX7_readFrom wsX6_readWord := goodIn_r _ [17, 11, 18, 12, 19, 20, 21, 9, 22, 23, 24, 25, 26, 27, 28, 29, 30, 31, 32, 33, 34, 35, 36, 37, 38, 39, 40, 41, 42, 43, 44, 45, 46, 47, 48, 49, 50, 51, 52, 53, 54, 55, 56, 57, 58, 59, 60, 61, 62, 63, 64, 65, 66, 67, 68, 69, 70, 71, 72, 73, 74, 75, 76, 77, 78, 79, 80, 13, 240, 241, 242, 243, 244] (by decide +kernel) (by decide +kernel)
set_option maxRecDepth 20000 in
theorem gX7_readFrom_X6_readWord : GoodIn wsX7_readFrom (wsV RX7 62 RX6 yX6_readWord wsX6_readWord) := goodIn_app (goodIn_of _ (by decide +kernel)) ggX7_readFrom_X6_readWord
set_option maxRecDepth 20000 in
theorem ggX7_readFrom_X7_isTooMany : GoodIn wsX7_readFrom wsX7_isTooMany := goodIn_r _ [85, 2, 3, 4, 228, 229, 230, 231, 232, 233, 234, 235, 236, 237, 238, 239] (by decide +kernel) (by decide +kernel)
set_option maxRecDepth 20000 in
theorem gX7_readFrom_X7_isTooMany : GoodIn wsX7_readFrom (wsV RX7 66 RX7 yX7_isTooMany wsX7_isTooMany) := goodIn_app (goodIn_of _ (by decide +kernel)) ggX7_readFrom_X7_isTooMany
set_option maxRecDepth 20000 in
theorem ggX7_readFrom_X6_blame : GoodIn wsX7_readFrom wsX6_blame := goodIn_r _ [80, 13, 240, 241, 242, 243, 244] (by decide +kernel) (by decide +kernel)
set_option maxRecDepth 20000 in
theorem gX7_readFrom_X6_blame : GoodIn wsX7_readFrom (wsV RX7 73 RX6 yX6_blame wsX6_blame) := goodIn_app (goodIn_of _ (by decide +kernel)) ggX7_readFrom_X6_blame
set_option maxRecDepth 20000 in
theorem ggX7_readFrom_X7_readClause : GoodIn wsX7_readFrom wsX7_readClause := goodIn_r _ [90, 1, 91, 92, 93, 9, 94, 13, 95, 96, 97, 98, 12, 11, 23, 18, 99, 19, 20, 21, 22, 100, 101, 102, 77, 78, 79, 80, 103, 104, 105, 84, 106, 5, 2, 86, 107, 108, 109, 110, 111, 112, 113, 114, 115, 116, 117, 118, 119, 120, 121, 122, 123, 124, 125, 126, 31, 127, 128, 129, 130, 131, 33, 44, 45, 46, 47, 38, 39, 132, 29, 30, 32, 34, 35, 36, 37, 133, 134, 50, 135, 136, 137, 138, 139, 140, 141, 142, 143, 144, 145, 146, 147, 148, 149, 150, 62, 151, 152, 153, 154, 155, 156, 157, 158, 159, 160, 67, 68, 69, 161, 162, 163, 55, 164, 165, 58, 166, 167, 168, 169, 71, 72, 73, 74, 75, 76, 170, 171, 172, 173, 174, 175, 176, 177, 178, 179, 180, 181, 182, 183, 184, 185, 186, 187, 188, 189, 190, 191, 192, 193, 194, 195, 196, 197, 198, 199, 200, 201, 202, 3, 203, 204, 205, 206, 207, 4, 228, 229, 230, 231, 232, 233, 234, 235, 236, 237, 238, 239, 240, 241, 242, 243, 244] (by decide +kernel) (by decide +kernel)
set_option maxRecDepth 20000 in
theorem gX7_readFrom_X7_readClause : GoodIn wsX7_readFrom (wsV RX7 77 RX7 yX7_readClause wsX7_readClause) := goodIn_app (goodIn_of _ (by decide +kernel)) ggX7_readFrom_X7_readClause
set_option maxRecDepth 20000 in
theorem ggX7_readFrom_X6_takeSemicolon : GoodIn wsX7_readFrom wsX6_takeSemicolon := goodIn_r _ [211, 99, 92, 93, 9, 94, 13, 212, 213, 214, 215, 19, 20, 21, 22, 11, 23, 18, 12, 216, 190, 191, 192, 217, 121, 122, 123, 218, 186, 187, 188, 77, 78, 79, 80, 240, 241, 242, 243, 244] (by decide +kernel) (by decide +kernel)
set_option maxRecDepth 20000 in
theorem gX7_readFrom_X6_takeSemicolon : GoodIn wsX7_readFrom (wsV RX7 81 RX6 yX6_takeSemicolon wsX6_takeSemicolon) := goodIn_app (goodIn_of _ (by decide +kernel)) ggX7_readFrom_X6_takeSemicolon
set_option maxRecDepth 20000 in
theorem ggX7_readFrom_X7_findSaints : GoodIn wsX7_readFrom wsX7_findSaints := goodIn_r _ [222, 223, 3, 202, 224, 225, 226, 84, 227, 111, 228, 229, 230, 231, 232, 233, 234, 235, 236, 237, 238, 239] (by decide +kernel) (by decide +kernel)
set_option maxRecDepth 20000 in
theorem gX7_readFrom_X7_findSaints : GoodIn wsX7_readFrom (wsV RX7 85 RX7 yX7_findSaints wsX7_findSaints) := goodIn_app (goodIn_of _ (by decide +kernel)) ggX7_readFrom_X7_findSaints
theorem dX7_readFrom_0 : decode cX7_readFrom 0 = .ok (.aload_n 0, 1) := by decide +kernel
theorem dX7_readFrom_1 : decode cX7_readFrom 1 = .ok (.iconst 0, 1) := by decide +kernel
theorem dX7_readFrom_2 : decode cX7_readFrom 2 = .ok (.putfield 42, 3) := by decide +kernel
theorem dX7_readFrom_5 : decode cX7_readFrom 5 = .ok (.aload_n 0, 1) := by decide +kernel
theorem dX7_readFrom_6 : decode cX7_readFrom 6 = .ok (.iconst 0, 1) := by decide +kernel
theorem dX7_readFrom_7 : decode cX7_readFrom 7 = .ok (.putfield 46, 3) := by decide +kernel
theorem dX7_readFrom_10 : decode cX7_readFrom 10 = .ok (.aload_n 0, 1) := by decide +kernel
theorem dX7_readFrom_11 : decode cX7_readFrom 11 = .ok (.iconst 0, 1) := by decide +kernel
theorem dX7_readFrom_12 : decode cX7_readFrom 12 = .ok (.putfield 49, 3) := by decide +kernel
theorem dX7_readFrom_15 : decode cX7_readFrom 15 = .ok (.aload_n 0, 1) := by decide +kernel
theorem dX7_readFrom_16 : decode cX7_readFrom 16 = .ok (.iconst 0, 1) := by decide +kernel
theorem dX7_readFrom_17 : decode cX7_readFrom 17 = .ok (.putfield 52, 3) := by decide +kernel
theorem dX7_readFrom_20 : decode cX7_readFrom 20 = .ok (.aload_n 1, 1) := by decide +kernel
theorem dX7_readFrom_21 : decode cX7_readFrom 21 = .ok (.invokevirtual 55, 3) := by decide +kernel
theorem dX7_readFrom_24 : decode cX7_readFrom 24 = .ok (.iconst 1, 1) := by decide +kernel
theorem dX7_readFrom_25 : decode cX7_readFrom 25 = .ok (.istore_n 2, 1) := by decide +kernel
theorem dX7_readFrom_26 : decode cX7_readFrom 26 = .ok (.iconst 0, 1) := by decide +kernel
theorem dX7_readFrom_27 : decode cX7_readFrom 27 = .ok (.istore_n 3, 1) := by decide +kernel
theorem dX7_readFrom_28 : decode cX7_readFrom 28 = .ok (.iload_n 2, 1) := by decide +kernel
theorem dX7_readFrom_29 : decode cX7_readFrom 29 = .ok (.ifCond .eq 60, 3) := by decide +kernel
theorem dX7_readFrom_32 : decode cX7_readFrom 32 = .ok (.iload_n 3, 1) := by decide +kernel
theorem dX7_readFrom_33 : decode cX7_readFrom 33 = .ok (.bipush 32, 2) := by decide +kernel
theorem dX7_readFrom_35 : decode cX7_readFrom 35 = .ok (.if_icmp .gt 54, 3) := by decide +kernel
theorem dX7_readFrom_38 : decode cX7_readFrom 38 = .ok (.aload_n 1, 1) := by decide +kernel
theorem dX7_readFrom_39 : decode cX7_readFrom 39 = .ok (.ldc 60, 2) := by decide +kernel
theorem dX7_readFrom_41 : decode cX7_readFrom 41 = .ok (.invokevirtual 62, 3) := by decide +kernel
theorem dX7_readFrom_44 : decode cX7_readFrom 44 = .ok (.istore 4, 2) := by decide +kernel
theorem dX7_readFrom_46 : decode cX7_readFrom 46 = .ok (.iload 4, 2) := by decide +kernel
theorem dX7_readFrom_48 : decode cX7_readFrom 48 = .ok (.iconst (-1), 1) := by decide +kernel
theorem dX7_readFrom_49 : decode cX7_readFrom 49 = .ok (.if_icmp .eq 22, 3) := by decide +kernel
theorem dX7_readFrom_52 : decode cX7_readFrom 52 = .ok (.aload_n 0, 1) := by decide +kernel
theorem dX7_readFrom_53 : decode cX7_readFrom 53 = .ok (.iload 4, 2) := by decide +kernel
theorem dX7_readFrom_55 : decode cX7_readFrom 55 = .ok (.iload_n 3, 1) := by decide +kernel
theorem dX7_readFrom_56 : decode cX7_readFrom 56 = .ok (.invokevirtual 66, 3) := by decide +kernel
theorem dX7_readFrom_59 : decode cX7_readFrom 59 = .ok (.ifCond .eq 12, 3) := by decide +kernel
theorem dX7_readFrom_62 : decode cX7_readFrom 62 = .ok (.aload_n 1, 1) := by decide +kernel
theorem dX7_readFrom_63 : decode cX7_readFrom 63 = .ok (.aload_n 1, 1) := by decide +kernel
theorem dX7_readFrom_64 : decode cX7_readFrom 64 = .ok (.getfield 70, 3) := by decide +kernel
theorem dX7_readFrom_67 : decode cX7_readFrom 67 = .ok (.iconst 4, 1) := by decide +kernel
theorem dX7_readFrom_68 : decode cX7_readFrom 68 = .ok (.invokevirtual 73, 3) := by decide +kernel
theorem dX7_readFrom_71 : decode cX7_readFrom 71 = .ok (.aload_n 0, 1) := by decide +kernel
theorem dX7_readFrom_72 : decode cX7_readFrom 72 = .ok (.aload_n 1, 1) := by decide +kernel
theorem dX7_readFrom_73 : decode cX7_readFrom 73 = .ok (.iload 4, 2) := by decide +kernel
theorem dX7_readFrom_75 : decode cX7_readFrom 75 = .ok (.invokevirtual 77, 3) := by decide +kernel
theorem dX7_readFrom_78 : decode cX7_readFrom 78 = .ok (.aload_n 1, 1) := by decide +kernel
theorem dX7_readFrom_79 : decode cX7_readFrom 79 = .ok (.invokevirtual 81, 3) := by decide +kernel
theorem dX7_readFrom_82 : decode cX7_readFrom 82 = .ok (.istore_n 2, 1) := by decide +kernel
theorem dX7_readFrom_83 : decode cX7_readFrom 83 = .ok (.iinc 3 1, 3) := by decide +kernel
theorem dX7_readFrom_86 : decode cX7_readFrom 86 = .ok (.goto (-58), 3) := by decide +kernel
theorem dX7_readFrom_89 : decode cX7_readFrom 89 = .ok (.iconst 0, 1) := by decide +kernel
theorem dX7_readFrom_90 : decode cX7_readFrom 90 = .ok (.istore_n 3, 1) := by decide +kernel
theorem dX7_readFrom_91 : decode cX7_readFrom 91 = .ok (.iload_n 3, 1) := by decide +kernel
theorem dX7_readFrom_92 : decode cX7_readFrom 92 = .ok (.aload_n 0, 1) := by decide +kernel
theorem dX7_readFrom_93 : decode cX7_readFrom 93 = .ok (.getfield 46, 3) := by decide +kernel
theorem dX7_readFrom_96 : decode cX7_readFrom 96 = .ok (.if_icmp .ge 14, 3) := by decide +kernel
theorem dX7_readFrom_99 : decode cX7_readFrom 99 = .ok (.aload_n 0, 1) := by decide +kernel
theorem dX7_readFrom_100 : decode cX7_readFrom 100 = .ok (.iload_n 3, 1) := by decide +kernel
theorem dX7_readFrom_101 : decode cX7_readFrom 101 = .ok (.invokevirtual 85, 3) := by decide +kernel
theorem dX7_readFrom_104 : decode cX7_readFrom 104 = .ok (.iinc 3 1, 3) := by decide +kernel
theorem dX7_readFrom_107 : decode cX7_readFrom 107 = .ok (.goto (-16), 3) := by decide +kernel
theorem dX7_readFrom_110 : decode cX7_readFrom 110 = .ok (.return_, 1) := by decide +kernel
theorem dX7_isTooMany_0 : decode cX7_isTooMany 0 = .ok (.iload_n 2, 1) := by decide +kernel
theorem dX7_isTooMany_1 : decode cX7_isTooMany 1 = .ok (.bipush 32, 2) := by decide +kernel
theorem dX7_isTooMany_3 : decode cX7_isTooMany 3 = .ok (.if_icmp .ge 24, 3) := by decide +kernel
theorem dX7_isTooMany_6 : decode cX7_isTooMany 6 = .ok (.iload_n 1, 1) := by decide +kernel
theorem dX7_isTooMany_7 : decode cX7_isTooMany 7 = .ok (.ifCond .ne 7, 3) := by decide +kernel
theorem dX7_isTooMany_10 : decode cX7_isTooMany 10 = .ok (.iconst 1, 1) := by decide +kernel
theorem dX7_isTooMany_11 : decode cX7_isTooMany 11 = .ok (.goto 4, 3) := by decide +kernel
theorem dX7_isTooMany_14 : decode cX7_isTooMany 14 = .ok (.iconst 0, 1) := by decide +kernel
theorem dX7_isTooMany_15 : decode cX7_isTooMany 15 = .ok (.iload_n 2, 1) := by decide +kernel
theorem dX7_isTooMany_16 : decode cX7_isTooMany 16 = .ok (.ifCond .ne 7, 3) := by decide +kernel
theorem dX7_isTooMany_19 : decode cX7_isTooMany 19 = .ok (.iconst 1, 1) := by decide +kernel
theorem dX7_isTooMany_20 : decode cX7_isTooMany 20 = .ok (.goto 4, 3) := by decide +kernel
theorem dX7_isTooMany_23 : decode cX7_isTooMany 23 = .ok (.iconst 0, 1) := by decide +kernel
theorem dX7_isTooMany_24 : decode cX7_isTooMany 24 = .ok (.if_icmp .eq 5, 3) := by decide +kernel
theorem dX7_isTooMany_27 : decode cX7_isTooMany 27 = .ok (.iconst 1, 1) := by decide +kernel
theorem dX7_isTooMany_28 : decode cX7_isTooMany 28 = .ok (.ireturn, 1) := by decide +kernel
theorem dX7_isTooMany_29 : decode cX7_isTooMany 29 = .ok (.iload_n 1, 1) := by decide +kernel
theorem dX7_isTooMany_30 : decode cX7_isTooMany 30 = .ok (.tableswitch 58 0 2 #[26, 28, 43], 26) := by decide +kernel
theorem dX7_isTooMany_56 : decode cX7_isTooMany 56 = .ok (.iconst 0, 1) := by decide +kernel
theorem dX7_isTooMany_57 : decode cX7_isTooMany 57 = .ok (.ireturn, 1) := by decide +kernel
theorem dX7_isTooMany_58 : decode cX7_isTooMany 58 = .ok (.aload_n 0, 1) := by decide +kernel
theorem dX7_isTooMany_59 : decode cX7_isTooMany 59 = .ok (.getfield 46, 3) := by decide +kernel
theorem dX7_isTooMany_62 : decode cX7_isTooMany 62 = .ok (.bipush 12, 2) := by decide +kernel
theorem dX7_isTooMany_64 : decode cX7_isTooMany 64 = .ok (.if_icmp .lt 7, 3) := by decide +kernel
theorem dX7_isTooMany_67 : decode cX7_isTooMany 67 = .ok (.iconst 1, 1) := by decide +kernel
theorem dX7_isTooMany_68 : decode cX7_isTooMany 68 = .ok (.goto 4, 3) := by decide +kernel
theorem dX7_isTooMany_71 : decode cX7_isTooMany 71 = .ok (.iconst 0, 1) := by decide +kernel
theorem dX7_isTooMany_72 : decode cX7_isTooMany 72 = .ok (.ireturn, 1) := by decide +kernel
theorem dX7_isTooMany_73 : decode cX7_isTooMany 73 = .ok (.aload_n 0, 1) := by decide +kernel
theorem dX7_isTooMany_74 : decode cX7_isTooMany 74 = .ok (.getfield 49, 3) := by decide +kernel
theorem dX7_isTooMany_77 : decode cX7_isTooMany 77 = .ok (.bipush 8, 2) := by decide +kernel
theorem dX7_isTooMany_79 : decode cX7_isTooMany 79 = .ok (.if_icmp .lt 7, 3) := by decide +kernel
theorem dX7_isTooMany_82 : decode cX7_isTooMany 82 = .ok (.iconst 1, 1) := by decide +kernel
theorem dX7_isTooMany_83 : decode cX7_isTooMany 83 = .ok (.goto 4, 3) := by decide +kernel
theorem dX7_isTooMany_86 : decode cX7_isTooMany 86 = .ok (.iconst 0, 1) := by decide +kernel
theorem dX7_isTooMany_87 : decode cX7_isTooMany 87 = .ok (.ireturn, 1) := by decide +kernel
theorem dX7_isTooMany_88 : decode cX7_isTooMany 88 = .ok (.aload_n 0, 1) := by decide +kernel
theorem dX7_isTooMany_89 : decode cX7_isTooMany 89 = .ok (.getfield 52, 3) := by decide +kernel
theorem dX7_isTooMany_92 : decode cX7_isTooMany 92 = .ok (.iconst 4, 1) := by decide +kernel
theorem dX7_isTooMany_93 : decode cX7_isTooMany 93 = .ok (.if_icmp .lt 7, 3) := by decide +kernel
theorem dX7_isTooMany_96 : decode cX7_isTooMany 96 = .ok (.iconst 1, 1) := by decide +kernel
theorem dX7_isTooMany_97 : decode cX7_isTooMany 97 = .ok (.goto 4, 3) := by decide +kernel
theorem dX7_isTooMany_100 : decode cX7_isTooMany 100 = .ok (.iconst 0, 1) := by decide +kernel
theorem dX7_isTooMany_101 : decode cX7_isTooMany 101 = .ok (.ireturn, 1) := by decide +kernel
set_option maxRecDepth 20000 in
theorem ggX7_readClause_X6_isFaulty : GoodIn wsX7_readClause wsX6_isFaulty := goodIn_r _ [6, 7, 179, 180, 181, 182, 183] (by decide +kernel) (by decide +kernel)
set_option maxRecDepth 20000 in
theorem gX7_readClause_X6_isFaulty : GoodIn wsX7_readClause (wsV RX7 89 RX6 yX6_isFaulty wsX6_isFaulty) := goodIn_app (goodIn_of _ (by decide +kernel)) ggX7_readClause_X6_isFaulty
set_option maxRecDepth 20000 in
theorem ggX7_readClause_X6_readNumber : GoodIn wsX7_readClause wsX6_readNumber := goodIn_r _ [11, 12, 13, 14, 15, 16, 3, 4, 5, 6, 7, 17, 18, 19, 20, 21, 22, 23, 24, 25, 26, 27, 179, 180, 181, 182, 183] (by decide +kernel) (by decide +kernel)
set_option maxRecDepth 20000 in
theorem gX7_readClause_X6_readNumber : GoodIn wsX7_readClause (wsV RX7 92 RX6 yX6_readNumber wsX6_readNumber) := goodIn_app (goodIn_of _ (by decide +kernel)) ggX7_readClause_X6_readNumber
set_option maxRecDepth 20000 in
theorem ggX7_readClause_X7_readStreet : GoodIn wsX7_readClause wsX7_readStreet := goodIn_r _ [32, 1, 33, 34, 8, 9, 10, 5, 11, 12, 13, 14, 15, 16, 3, 4, 6, 7, 17, 18, 19, 20, 21, 22, 23, 24, 25, 26, 27, 35, 2, 36, 37, 38, 31, 39, 40, 41, 42, 43, 44, 45, 46, 47, 48, 49, 50, 51, 52, 53, 54, 55, 56, 57, 58, 59, 60, 61, 62, 63, 64, 65, 66, 67, 68, 69, 70, 71, 72, 73, 74, 75, 76, 77, 78, 79, 80, 81, 82, 83, 84, 85, 86, 87, 88, 89, 90, 91, 92, 93, 94, 95, 96, 97, 98, 99, 100, 101, 102, 103, 104, 105, 106, 107, 108, 109, 110, 111, 112, 113, 114, 115, 116, 117, 118, 119, 120, 121, 122, 123, 124, 125, 126, 127, 128, 129, 130, 131, 132, 133, 134, 135, 136, 137, 138, 139, 140, 141, 142, 143, 144, 145, 146, 147, 148, 149, 150, 151, 152, 153, 154, 167, 168, 169, 170, 171, 172, 173, 174, 175, 176, 177, 178, 179, 180, 181, 182, 183] (by decide +kernel) (by decide +kernel)
set_option maxRecDepth 20000 in
theorem gX7_readClause_X7_readStreet : GoodIn wsX7_readClause (wsV RX7 96 RX7 yX7_readStreet wsX7_readStreet) := goodIn_app (goodIn_of _ (by decide +kernel)) ggX7_readClause_X7_readStreet
set_option maxRecDepth 20000 in
theorem ggX7_readClause_X7_readSaint : GoodIn wsX7_readClause wsX7_readSaint := goodIn_r _ [158, 1, 159, 160, 161, 8, 9, 10, 5, 11, 12, 13, 14, 15, 16, 3, 4, 6, 7, 17, 18, 19, 20, 21, 22, 23, 24, 25, 26, 27, 2, 167, 168, 169, 170, 171, 172, 173, 174, 175, 176, 177, 178, 179, 180, 181, 182, 183] (by decide +kernel) (by decide +kernel)
set_option maxRecDepth 20000 in
theorem gX7_readClause_X7_readSaint : GoodIn wsX7_readClause (wsV RX7 100 RX7 yX7_readSaint wsX7_readSaint) := goodIn_app (goodIn_of _ (by decide +kernel)) ggX7_readClause_X7_readSaint
set_option maxRecDepth 20000 in
theorem ggX7_readClause_X7_readLift : GoodIn wsX7_readClause wsX7_readLift := goodIn_r _ [165, 34, 42, 166, 8, 9, 10, 5, 11, 12, 13, 14, 15, 16, 3, 4, 6, 7, 17, 18, 19, 20, 21, 22, 23, 24, 25, 26, 27, 2, 167, 168, 169, 170, 171, 172, 173, 174, 175, 176, 177, 178, 179, 180, 181, 182, 183] (by decide +kernel) (by decide +kernel)
set_option maxRecDepth 20000 in
theorem gX7_readClause_X7_readLift : GoodIn wsX7_readClause (wsV RX7 103 RX7 yX7_readLift wsX7_readLift) := goodIn_app (goodIn_of _ (by decide +kernel)) ggX7_readClause_X7_readLift
theorem dX7_readClause_0 : decode cX7_readClause 0 = .ok (.aload_n 1, 1) := by decide +kernel
theorem dX7_readClause_1 : decode cX7_readClause 1 = .ok (.invokevirtual 89, 3) := by decide +kernel
theorem dX7_readClause_4 : decode cX7_readClause 4 = .ok (.ifCond .eq 4, 3) := by decide +kernel
theorem dX7_readClause_7 : decode cX7_readClause 7 = .ok (.return_, 1) := by decide +kernel
theorem dX7_readClause_8 : decode cX7_readClause 8 = .ok (.iload_n 2, 1) := by decide +kernel
theorem dX7_readClause_9 : decode cX7_readClause 9 = .ok (.ifCond .ne 17, 3) := by decide +kernel
theorem dX7_readClause_12 : decode cX7_readClause 12 = .ok (.aload_n 0, 1) := by decide +kernel
theorem dX7_readClause_13 : decode cX7_readClause 13 = .ok (.aload_n 1, 1) := by decide +kernel
theorem dX7_readClause_14 : decode cX7_readClause 14 = .ok (.iconst 2, 1) := by decide +kernel
theorem dX7_readClause_15 : decode cX7_readClause 15 = .ok (.bipush 10, 2) := by decide +kernel
theorem dX7_readClause_17 : decode cX7_readClause 17 = .ok (.invokevirtual 92, 3) := by decide +kernel
theorem dX7_readClause_20 : decode cX7_readClause 20 = .ok (.putfield 42, 3) := by decide +kernel
theorem dX7_readClause_23 : decode cX7_readClause 23 = .ok (.goto 34, 3) := by decide +kernel
theorem dX7_readClause_26 : decode cX7_readClause 26 = .ok (.iload_n 2, 1) := by decide +kernel
theorem dX7_readClause_27 : decode cX7_readClause 27 = .ok (.iconst 1, 1) := by decide +kernel
theorem dX7_readClause_28 : decode cX7_readClause 28 = .ok (.if_icmp .ne 11, 3) := by decide +kernel
theorem dX7_readClause_31 : decode cX7_readClause 31 = .ok (.aload_n 0, 1) := by decide +kernel
theorem dX7_readClause_32 : decode cX7_readClause 32 = .ok (.aload_n 1, 1) := by decide +kernel
theorem dX7_readClause_33 : decode cX7_readClause 33 = .ok (.invokevirtual 96, 3) := by decide +kernel
theorem dX7_readClause_36 : decode cX7_readClause 36 = .ok (.goto 21, 3) := by decide +kernel
theorem dX7_readClause_39 : decode cX7_readClause 39 = .ok (.iload_n 2, 1) := by decide +kernel
theorem dX7_readClause_40 : decode cX7_readClause 40 = .ok (.iconst 2, 1) := by decide +kernel
theorem dX7_readClause_41 : decode cX7_readClause 41 = .ok (.if_icmp .ne 11, 3) := by decide +kernel
theorem dX7_readClause_44 : decode cX7_readClause 44 = .ok (.aload_n 0, 1) := by decide +kernel
theorem dX7_readClause_45 : decode cX7_readClause 45 = .ok (.aload_n 1, 1) := by decide +kernel
theorem dX7_readClause_46 : decode cX7_readClause 46 = .ok (.invokevirtual 100, 3) := by decide +kernel
theorem dX7_readClause_49 : decode cX7_readClause 49 = .ok (.goto 8, 3) := by decide +kernel
theorem dX7_readClause_52 : decode cX7_readClause 52 = .ok (.aload_n 0, 1) := by decide +kernel
theorem dX7_readClause_53 : decode cX7_readClause 53 = .ok (.aload_n 1, 1) := by decide +kernel
theorem dX7_readClause_54 : decode cX7_readClause 54 = .ok (.invokevirtual 103, 3) := by decide +kernel
theorem dX7_readClause_57 : decode cX7_readClause 57 = .ok (.return_, 1) := by decide +kernel
set_option maxRecDepth 20000 in
theorem ggX7_readStreet_X6_readNumber : GoodIn wsX7_readStreet wsX6_readNumber := goodIn_r _ [8, 9, 10, 11, 12, 13, 14, 15, 7, 16, 17, 18, 19, 20, 21, 22, 23, 24, 25, 26, 27, 28, 163, 164, 165, 166, 167] (by decide +kernel) (by decide +kernel)
set_option maxRecDepth 20000 in
theorem gX7_readStreet_X6_readNumber : GoodIn wsX7_readStreet (wsV RX7 92 RX6 yX6_readNumber wsX6_readNumber) := goodIn_app (goodIn_of _ (by decide +kernel)) ggX7_readStreet_X6_readNumber
set_option maxRecDepth 20000 in
theorem ggX7_readStreet_X6_blame : GoodIn wsX7_readStreet wsX6_blame := goodIn_r _ [28, 17, 163, 164, 165, 166, 167] (by decide +kernel) (by decide +kernel)
set_option maxRecDepth 20000 in
theorem gX7_readStreet_X6_blame : GoodIn wsX7_readStreet (wsV RX7 73 RX6 yX6_blame wsX6_blame) := goodIn_app (goodIn_of _ (by decide +kernel)) ggX7_readStreet_X6_blame
set_option maxRecDepth 20000 in
theorem ggX7_readStreet_X6_isFaulty : GoodIn wsX7_readStreet wsX6_isFaulty := goodIn_r _ [16, 17, 163, 164, 165, 166, 167] (by decide +kernel) (by decide +kernel)
set_option maxRecDepth 20000 in
theorem gX7_readStreet_X6_isFaulty : GoodIn wsX7_readStreet (wsV RX7 89 RX6 yX6_isFaulty wsX6_isFaulty) := goodIn_app (goodIn_of _ (by decide +kernel)) ggX7_readStreet_X6_isFaulty
set_option maxRecDepth 20000 in
theorem ggX7_readStreet_X7_placeStreet : GoodIn wsX7_readStreet wsX7_placeStreet := goodIn_r _ [35, 36, 37, 38, 39, 151, 152, 153, 154, 155, 156, 157, 158, 159, 160, 161, 162] (by decide +kernel) (by decide +kernel)
set_option maxRecDepth 20000 in
theorem gX7_readStreet_X7_placeStreet : GoodIn wsX7_readStreet (wsV RX7 106 RX7 yX7_placeStreet wsX7_placeStreet) := goodIn_app (goodIn_of _ (by decide +kernel)) ggX7_readStreet_X7_placeStreet
set_option maxRecDepth 20000 in
theorem ggX7_readStreet_X7_readSigns : GoodIn wsX7_readStreet wsX7_readSigns := goodIn_r _ [43, 3, 44, 19, 20, 7, 21, 10, 11, 12, 9, 45, 46, 47, 48, 49, 50, 51, 52, 53, 54, 55, 56, 57, 58, 59, 60, 61, 62, 63, 64, 65, 66, 67, 68, 69, 70, 71, 72, 73, 74, 75, 76, 77, 78, 79, 80, 81, 82, 83, 84, 85, 86, 87, 88, 89, 90, 91, 92, 93, 94, 95, 96, 97, 98, 99, 100, 101, 102, 103, 104, 105, 106, 107, 108, 109, 110, 111, 112, 113, 114, 115, 116, 117, 118, 119, 120, 121, 122, 123, 124, 125, 126, 127, 128, 129, 130, 131, 132, 133, 134, 135, 136, 137, 138, 139, 140, 141, 25, 26, 27, 28, 17, 142, 143, 144, 145, 146, 147, 148, 34, 149, 150, 39, 151, 152, 153, 154, 155, 156, 157, 158, 159, 160, 161, 162, 163, 164, 165, 166, 167] (by decide +kernel) (by decide +kernel)
set_option maxRecDepth 20000 in
theorem gX7_readStreet_X7_readSigns : GoodIn wsX7_readStreet (wsV RX7 110 RX7 yX7_readSigns wsX7_readSigns) := goodIn_app (goodIn_of _ (by decide +kernel)) ggX7_readStreet_X7_readSigns
theorem dX7_readStreet_0 : decode cX7_readStreet 0 = .ok (.aload_n 1, 1) := by decide +kernel
theorem dX7_readStreet_1 : decode cX7_readStreet 1 = .ok (.iconst 0, 1) := by decide +kernel
theorem dX7_readStreet_2 : decode cX7_readStreet 2 = .ok (.aload_n 0, 1) := by decide +kernel
theorem dX7_readStreet_3 : decode cX7_readStreet 3 = .ok (.getfield 42, 3) := by decide +kernel
theorem dX7_readStreet_6 : decode cX7_readStreet 6 = .ok (.iconst 1, 1) := by decide +kernel
theorem dX7_readStreet_7 : decode cX7_readStreet 7 = .ok (.isub, 1) := by decide +kernel
theorem dX7_readStreet_8 : decode cX7_readStreet 8 = .ok (.invokevirtual 92, 3) := by decide +kernel
theorem dX7_readStreet_11 : decode cX7_readStreet 11 = .ok (.istore_n 2, 1) := by decide +kernel
theorem dX7_readStreet_12 : decode cX7_readStreet 12 = .ok (.aload_n 1, 1) := by decide +kernel
