theorem dX7_readStreet_13 : decode cX7_readStreet 13 = .ok (.iconst 0, 1) := by decide +kernel
theorem dX7_readStreet_14 : decode cX7_readStreet 14 = .ok (.aload_n 0, 1) := by decide +kernel
theorem dX7_readStreet_15 : decode cX7_readStreet 15 = .ok (.getfield 42, 3) := by decide +kernel
theorem dX7_readStreet_18 : decode cX7_readStreet 18 = .ok (.iconst 1, 1) := by decide +kernel
theorem dX7_readStreet_19 : decode cX7_readStreet 19 = .ok (.isub, 1) := by decide +kernel
theorem dX7_readStreet_20 : decode cX7_readStreet 20 = .ok (.invokevirtual 92, 3) := by decide +kernel
theorem dX7_readStreet_23 : decode cX7_readStreet 23 = .ok (.istore_n 3, 1) := by decide +kernel
theorem dX7_readStreet_24 : decode cX7_readStreet 24 = .ok (.iload_n 3, 1) := by decide +kernel
theorem dX7_readStreet_25 : decode cX7_readStreet 25 = .ok (.iload_n 2, 1) := by decide +kernel
theorem dX7_readStreet_26 : decode cX7_readStreet 26 = .ok (.if_icmp .ne 12, 3) := by decide +kernel
theorem dX7_readStreet_29 : decode cX7_readStreet 29 = .ok (.aload_n 1, 1) := by decide +kernel
theorem dX7_readStreet_30 : decode cX7_readStreet 30 = .ok (.aload_n 1, 1) := by decide +kernel
theorem dX7_readStreet_31 : decode cX7_readStreet 31 = .ok (.getfield 70, 3) := by decide +kernel
theorem dX7_readStreet_34 : decode cX7_readStreet 34 = .ok (.iconst 1, 1) := by decide +kernel
theorem dX7_readStreet_35 : decode cX7_readStreet 35 = .ok (.invokevirtual 73, 3) := by decide +kernel
theorem dX7_readStreet_38 : decode cX7_readStreet 38 = .ok (.aload_n 1, 1) := by decide +kernel
theorem dX7_readStreet_39 : decode cX7_readStreet 39 = .ok (.iconst 1, 1) := by decide +kernel
theorem dX7_readStreet_40 : decode cX7_readStreet 40 = .ok (.bipush 9, 2) := by decide +kernel
theorem dX7_readStreet_42 : decode cX7_readStreet 42 = .ok (.invokevirtual 92, 3) := by decide +kernel
theorem dX7_readStreet_45 : decode cX7_readStreet 45 = .ok (.istore 4, 2) := by decide +kernel
theorem dX7_readStreet_47 : decode cX7_readStreet 47 = .ok (.aload_n 1, 1) := by decide +kernel
theorem dX7_readStreet_48 : decode cX7_readStreet 48 = .ok (.invokevirtual 89, 3) := by decide +kernel
theorem dX7_readStreet_51 : decode cX7_readStreet 51 = .ok (.ifCond .eq 4, 3) := by decide +kernel
theorem dX7_readStreet_54 : decode cX7_readStreet 54 = .ok (.return_, 1) := by decide +kernel
theorem dX7_readStreet_55 : decode cX7_readStreet 55 = .ok (.aload_n 0, 1) := by decide +kernel
theorem dX7_readStreet_56 : decode cX7_readStreet 56 = .ok (.aload_n 0, 1) := by decide +kernel
theorem dX7_readStreet_57 : decode cX7_readStreet 57 = .ok (.getfield 46, 3) := by decide +kernel
theorem dX7_readStreet_60 : decode cX7_readStreet 60 = .ok (.iload_n 2, 1) := by decide +kernel
theorem dX7_readStreet_61 : decode cX7_readStreet 61 = .ok (.iload_n 3, 1) := by decide +kernel
theorem dX7_readStreet_62 : decode cX7_readStreet 62 = .ok (.iload 4, 2) := by decide +kernel
theorem dX7_readStreet_64 : decode cX7_readStreet 64 = .ok (.invokevirtual 106, 3) := by decide +kernel
theorem dX7_readStreet_67 : decode cX7_readStreet 67 = .ok (.aload_n 0, 1) := by decide +kernel
theorem dX7_readStreet_68 : decode cX7_readStreet 68 = .ok (.aload_n 1, 1) := by decide +kernel
theorem dX7_readStreet_69 : decode cX7_readStreet 69 = .ok (.invokevirtual 110, 3) := by decide +kernel
theorem dX7_readStreet_72 : decode cX7_readStreet 72 = .ok (.aload_n 0, 1) := by decide +kernel
theorem dX7_readStreet_73 : decode cX7_readStreet 73 = .ok (.dup, 1) := by decide +kernel
theorem dX7_readStreet_74 : decode cX7_readStreet 74 = .ok (.getfield 46, 3) := by decide +kernel
theorem dX7_readStreet_77 : decode cX7_readStreet 77 = .ok (.iconst 1, 1) := by decide +kernel
theorem dX7_readStreet_78 : decode cX7_readStreet 78 = .ok (.iadd, 1) := by decide +kernel
theorem dX7_readStreet_79 : decode cX7_readStreet 79 = .ok (.putfield 46, 3) := by decide +kernel
theorem dX7_readStreet_82 : decode cX7_readStreet 82 = .ok (.return_, 1) := by decide +kernel
theorem dX7_placeStreet_0 : decode cX7_placeStreet 0 = .ok (.aload_n 0, 1) := by decide +kernel
theorem dX7_placeStreet_1 : decode cX7_placeStreet 1 = .ok (.getfield 11, 3) := by decide +kernel
theorem dX7_placeStreet_4 : decode cX7_placeStreet 4 = .ok (.iconst 2, 1) := by decide +kernel
theorem dX7_placeStreet_5 : decode cX7_placeStreet 5 = .ok (.iload_n 1, 1) := by decide +kernel
theorem dX7_placeStreet_6 : decode cX7_placeStreet 6 = .ok (.imul, 1) := by decide +kernel
theorem dX7_placeStreet_7 : decode cX7_placeStreet 7 = .ok (.iload_n 2, 1) := by decide +kernel
theorem dX7_placeStreet_8 : decode cX7_placeStreet 8 = .ok (.iastore, 1) := by decide +kernel
theorem dX7_placeStreet_9 : decode cX7_placeStreet 9 = .ok (.aload_n 0, 1) := by decide +kernel
theorem dX7_placeStreet_10 : decode cX7_placeStreet 10 = .ok (.getfield 11, 3) := by decide +kernel
theorem dX7_placeStreet_13 : decode cX7_placeStreet 13 = .ok (.iconst 2, 1) := by decide +kernel
theorem dX7_placeStreet_14 : decode cX7_placeStreet 14 = .ok (.iload_n 1, 1) := by decide +kernel
theorem dX7_placeStreet_15 : decode cX7_placeStreet 15 = .ok (.imul, 1) := by decide +kernel
theorem dX7_placeStreet_16 : decode cX7_placeStreet 16 = .ok (.iconst 1, 1) := by decide +kernel
theorem dX7_placeStreet_17 : decode cX7_placeStreet 17 = .ok (.iadd, 1) := by decide +kernel
theorem dX7_placeStreet_18 : decode cX7_placeStreet 18 = .ok (.iload_n 3, 1) := by decide +kernel
theorem dX7_placeStreet_19 : decode cX7_placeStreet 19 = .ok (.iastore, 1) := by decide +kernel
theorem dX7_placeStreet_20 : decode cX7_placeStreet 20 = .ok (.aload_n 0, 1) := by decide +kernel
theorem dX7_placeStreet_21 : decode cX7_placeStreet 21 = .ok (.getfield 15, 3) := by decide +kernel
theorem dX7_placeStreet_24 : decode cX7_placeStreet 24 = .ok (.iload_n 1, 1) := by decide +kernel
theorem dX7_placeStreet_25 : decode cX7_placeStreet 25 = .ok (.iload 4, 2) := by decide +kernel
theorem dX7_placeStreet_27 : decode cX7_placeStreet 27 = .ok (.iastore, 1) := by decide +kernel
theorem dX7_placeStreet_28 : decode cX7_placeStreet 28 = .ok (.aload_n 0, 1) := by decide +kernel
theorem dX7_placeStreet_29 : decode cX7_placeStreet 29 = .ok (.getfield 21, 3) := by decide +kernel
theorem dX7_placeStreet_32 : decode cX7_placeStreet 32 = .ok (.iload_n 1, 1) := by decide +kernel
theorem dX7_placeStreet_33 : decode cX7_placeStreet 33 = .ok (.iconst 0, 1) := by decide +kernel
theorem dX7_placeStreet_34 : decode cX7_placeStreet 34 = .ok (.iastore, 1) := by decide +kernel
theorem dX7_placeStreet_35 : decode cX7_placeStreet 35 = .ok (.aload_n 0, 1) := by decide +kernel
theorem dX7_placeStreet_36 : decode cX7_placeStreet 36 = .ok (.getfield 24, 3) := by decide +kernel
theorem dX7_placeStreet_39 : decode cX7_placeStreet 39 = .ok (.iconst 2, 1) := by decide +kernel
theorem dX7_placeStreet_40 : decode cX7_placeStreet 40 = .ok (.iload_n 1, 1) := by decide +kernel
theorem dX7_placeStreet_41 : decode cX7_placeStreet 41 = .ok (.imul, 1) := by decide +kernel
theorem dX7_placeStreet_42 : decode cX7_placeStreet 42 = .ok (.iconst 0, 1) := by decide +kernel
theorem dX7_placeStreet_43 : decode cX7_placeStreet 43 = .ok (.iastore, 1) := by decide +kernel
theorem dX7_placeStreet_44 : decode cX7_placeStreet 44 = .ok (.aload_n 0, 1) := by decide +kernel
theorem dX7_placeStreet_45 : decode cX7_placeStreet 45 = .ok (.getfield 24, 3) := by decide +kernel
theorem dX7_placeStreet_48 : decode cX7_placeStreet 48 = .ok (.iconst 2, 1) := by decide +kernel
theorem dX7_placeStreet_49 : decode cX7_placeStreet 49 = .ok (.iload_n 1, 1) := by decide +kernel
theorem dX7_placeStreet_50 : decode cX7_placeStreet 50 = .ok (.imul, 1) := by decide +kernel
theorem dX7_placeStreet_51 : decode cX7_placeStreet 51 = .ok (.iconst 1, 1) := by decide +kernel
theorem dX7_placeStreet_52 : decode cX7_placeStreet 52 = .ok (.iadd, 1) := by decide +kernel
theorem dX7_placeStreet_53 : decode cX7_placeStreet 53 = .ok (.iconst 0, 1) := by decide +kernel
theorem dX7_placeStreet_54 : decode cX7_placeStreet 54 = .ok (.iastore, 1) := by decide +kernel
theorem dX7_placeStreet_55 : decode cX7_placeStreet 55 = .ok (.return_, 1) := by decide +kernel
set_option maxRecDepth 20000 in
theorem ggX7_readSigns_X6_lookBehindBlanks : GoodIn wsX7_readSigns wsX6_lookBehindBlanks := goodIn_r _ [6, 7, 8, 9, 10, 136, 137, 138, 139, 140] (by decide +kernel) (by decide +kernel)
set_option maxRecDepth 20000 in
theorem gX7_readSigns_X6_lookBehindBlanks : GoodIn wsX7_readSigns (wsV RX7 113 RX6 yX6_lookBehindBlanks wsX6_lookBehindBlanks) := goodIn_app (goodIn_of _ (by decide +kernel)) ggX7_readSigns_X6_lookBehindBlanks
set_option maxRecDepth 20000 in
theorem ggX7_readSigns_X6_look : GoodIn wsX7_readSigns wsX6_look := goodIn_r _ [14, 7, 8, 9, 136, 137, 138, 139, 140] (by decide +kernel) (by decide +kernel)
set_option maxRecDepth 20000 in
theorem gX7_readSigns_X6_look : GoodIn wsX7_readSigns (wsV RX7 117 RX6 yX6_look wsX6_look) := goodIn_app (goodIn_of _ (by decide +kernel)) ggX7_readSigns_X6_look
set_option maxRecDepth 20000 in
theorem ggX7_readSigns_J0_indexOf_0f7a4 : GoodIn wsX7_readSigns wsJ0_indexOf_0f7a4 := goodIn_r _ [19, 20, 21, 22, 18, 23, 24, 25, 26, 27, 28, 29, 30, 31, 32, 33, 34, 35, 36, 37, 38, 39, 40, 41, 42, 43, 44, 45, 46, 47, 48, 49, 50, 51, 52, 53, 54, 55, 56, 57, 58, 59, 60, 61, 62, 63, 64, 65, 66, 67, 68, 69, 70, 71, 72, 73, 74, 75, 76, 77, 78, 79, 80, 81, 82, 83, 84, 85, 86, 87, 88, 89, 90, 91, 92, 93, 94, 95, 96, 97, 98, 99, 100, 101, 102, 103] (by decide +kernel) (by decide +kernel)
set_option maxRecDepth 20000 in
theorem gX7_readSigns_J0_indexOf_0f7a4 : GoodIn wsX7_readSigns (wsV RX7 122 RJ0 yJ0_indexOf_0f7a4 wsJ0_indexOf_0f7a4) := goodIn_app (goodIn_of _ (by decide +kernel)) ggX7_readSigns_J0_indexOf_0f7a4
set_option maxRecDepth 20000 in
theorem ggX7_readSigns_X6_blameHere : GoodIn wsX7_readSigns wsX6_blameHere := goodIn_r _ [107, 7, 108, 109, 110, 5, 111, 112, 136, 137, 138, 139, 140] (by decide +kernel) (by decide +kernel)
set_option maxRecDepth 20000 in
theorem gX7_readSigns_X6_blameHere : GoodIn wsX7_readSigns (wsV RX7 128 RX6 yX6_blameHere wsX6_blameHere) := goodIn_app (goodIn_of _ (by decide +kernel)) ggX7_readSigns_X6_blameHere
set_option maxRecDepth 20000 in
theorem ggX7_readSigns_X6_pass : GoodIn wsX7_readSigns wsX6_pass := goodIn_r _ [116, 7, 8, 136, 137, 138, 139, 140] (by decide +kernel) (by decide +kernel)
set_option maxRecDepth 20000 in
theorem gX7_readSigns_X6_pass : GoodIn wsX7_readSigns (wsV RX7 131 RX6 yX6_pass wsX6_pass) := goodIn_app (goodIn_of _ (by decide +kernel)) ggX7_readSigns_X6_pass
set_option maxRecDepth 20000 in
theorem ggX7_readSigns_X7_placeSign : GoodIn wsX7_readSigns wsX7_placeSign := goodIn_r _ [121, 122, 123, 124, 125, 126, 127, 128, 129, 130, 131, 132, 133, 134, 135] (by decide +kernel) (by decide +kernel)
set_option maxRecDepth 20000 in
theorem gX7_readSigns_X7_placeSign : GoodIn wsX7_readSigns (wsV RX7 134 RX7 yX7_placeSign wsX7_placeSign) := goodIn_app (goodIn_of _ (by decide +kernel)) ggX7_readSigns_X7_placeSign
theorem dX7_readSigns_0 : decode cX7_readSigns 0 = .ok (.aload_n 1, 1) := by decide +kernel
theorem dX7_readSigns_1 : decode cX7_readSigns 1 = .ok (.invokevirtual 113, 3) := by decide +kernel
theorem dX7_readSigns_4 : decode cX7_readSigns 4 = .ok (.pop, 1) := by decide +kernel
theorem dX7_readSigns_5 : decode cX7_readSigns 5 = .ok (.iconst 0, 1) := by decide +kernel
theorem dX7_readSigns_6 : decode cX7_readSigns 6 = .ok (.istore_n 2, 1) := by decide +kernel
theorem dX7_readSigns_7 : decode cX7_readSigns 7 = .ok (.iload_n 2, 1) := by decide +kernel
theorem dX7_readSigns_8 : decode cX7_readSigns 8 = .ok (.bipush 7, 2) := by decide +kernel
theorem dX7_readSigns_10 : decode cX7_readSigns 10 = .ok (.if_icmp .ge 57, 3) := by decide +kernel
theorem dX7_readSigns_13 : decode cX7_readSigns 13 = .ok (.aload_n 1, 1) := by decide +kernel
theorem dX7_readSigns_14 : decode cX7_readSigns 14 = .ok (.invokevirtual 117, 3) := by decide +kernel
theorem dX7_readSigns_17 : decode cX7_readSigns 17 = .ok (.istore_n 3, 1) := by decide +kernel
theorem dX7_readSigns_18 : decode cX7_readSigns 18 = .ok (.iload_n 3, 1) := by decide +kernel
theorem dX7_readSigns_19 : decode cX7_readSigns 19 = .ok (.iconst (-1), 1) := by decide +kernel
theorem dX7_readSigns_20 : decode cX7_readSigns 20 = .ok (.if_icmp .ne 7, 3) := by decide +kernel
theorem dX7_readSigns_23 : decode cX7_readSigns 23 = .ok (.iconst (-1), 1) := by decide +kernel
theorem dX7_readSigns_24 : decode cX7_readSigns 24 = .ok (.goto 10, 3) := by decide +kernel
theorem dX7_readSigns_27 : decode cX7_readSigns 27 = .ok (.ldc 120, 2) := by decide +kernel
theorem dX7_readSigns_29 : decode cX7_readSigns 29 = .ok (.iload_n 3, 1) := by decide +kernel
theorem dX7_readSigns_30 : decode cX7_readSigns 30 = .ok (.i2c, 1) := by decide +kernel
theorem dX7_readSigns_31 : decode cX7_readSigns 31 = .ok (.invokevirtual 122, 3) := by decide +kernel
theorem dX7_readSigns_34 : decode cX7_readSigns 34 = .ok (.istore 4, 2) := by decide +kernel
theorem dX7_readSigns_36 : decode cX7_readSigns 36 = .ok (.iload 4, 2) := by decide +kernel
theorem dX7_readSigns_38 : decode cX7_readSigns 38 = .ok (.ifCond .ge 8, 3) := by decide +kernel
theorem dX7_readSigns_41 : decode cX7_readSigns 41 = .ok (.aload_n 1, 1) := by decide +kernel
theorem dX7_readSigns_42 : decode cX7_readSigns 42 = .ok (.invokevirtual 128, 3) := by decide +kernel
theorem dX7_readSigns_45 : decode cX7_readSigns 45 = .ok (.return_, 1) := by decide +kernel
theorem dX7_readSigns_46 : decode cX7_readSigns 46 = .ok (.aload_n 1, 1) := by decide +kernel
theorem dX7_readSigns_47 : decode cX7_readSigns 47 = .ok (.invokevirtual 131, 3) := by decide +kernel
theorem dX7_readSigns_50 : decode cX7_readSigns 50 = .ok (.aload_n 0, 1) := by decide +kernel
theorem dX7_readSigns_51 : decode cX7_readSigns 51 = .ok (.aload_n 0, 1) := by decide +kernel
theorem dX7_readSigns_52 : decode cX7_readSigns 52 = .ok (.getfield 46, 3) := by decide +kernel
theorem dX7_readSigns_55 : decode cX7_readSigns 55 = .ok (.iload_n 2, 1) := by decide +kernel
theorem dX7_readSigns_56 : decode cX7_readSigns 56 = .ok (.iload 4, 2) := by decide +kernel
theorem dX7_readSigns_58 : decode cX7_readSigns 58 = .ok (.invokevirtual 134, 3) := by decide +kernel
theorem dX7_readSigns_61 : decode cX7_readSigns 61 = .ok (.iinc 2 1, 3) := by decide +kernel
theorem dX7_readSigns_64 : decode cX7_readSigns 64 = .ok (.goto (-57), 3) := by decide +kernel
theorem dX7_readSigns_67 : decode cX7_readSigns 67 = .ok (.return_, 1) := by decide +kernel
theorem dX7_placeSign_0 : decode cX7_placeSign 0 = .ok (.aload_n 0, 1) := by decide +kernel
theorem dX7_placeSign_1 : decode cX7_placeSign 1 = .ok (.getfield 18, 3) := by decide +kernel
theorem dX7_placeSign_4 : decode cX7_placeSign 4 = .ok (.bipush 7, 2) := by decide +kernel
theorem dX7_placeSign_6 : decode cX7_placeSign 6 = .ok (.iload_n 1, 1) := by decide +kernel
theorem dX7_placeSign_7 : decode cX7_placeSign 7 = .ok (.imul, 1) := by decide +kernel
theorem dX7_placeSign_8 : decode cX7_placeSign 8 = .ok (.iload_n 2, 1) := by decide +kernel
theorem dX7_placeSign_9 : decode cX7_placeSign 9 = .ok (.iadd, 1) := by decide +kernel
theorem dX7_placeSign_10 : decode cX7_placeSign 10 = .ok (.iload_n 3, 1) := by decide +kernel
theorem dX7_placeSign_11 : decode cX7_placeSign 11 = .ok (.iastore, 1) := by decide +kernel
theorem dX7_placeSign_12 : decode cX7_placeSign 12 = .ok (.aload_n 0, 1) := by decide +kernel
theorem dX7_placeSign_13 : decode cX7_placeSign 13 = .ok (.getfield 24, 3) := by decide +kernel
theorem dX7_placeSign_16 : decode cX7_placeSign 16 = .ok (.iconst 2, 1) := by decide +kernel
theorem dX7_placeSign_17 : decode cX7_placeSign 17 = .ok (.iload_n 1, 1) := by decide +kernel
theorem dX7_placeSign_18 : decode cX7_placeSign 18 = .ok (.imul, 1) := by decide +kernel
theorem dX7_placeSign_19 : decode cX7_placeSign 19 = .ok (.dup2, 1) := by decide +kernel
theorem dX7_placeSign_20 : decode cX7_placeSign 20 = .ok (.iaload, 1) := by decide +kernel
theorem dX7_placeSign_21 : decode cX7_placeSign 21 = .ok (.iload_n 3, 1) := by decide +kernel
theorem dX7_placeSign_22 : decode cX7_placeSign 22 = .ok (.iconst 1, 1) := by decide +kernel
theorem dX7_placeSign_23 : decode cX7_placeSign 23 = .ok (.iand, 1) := by decide +kernel
theorem dX7_placeSign_24 : decode cX7_placeSign 24 = .ok (.iload_n 2, 1) := by decide +kernel
theorem dX7_placeSign_25 : decode cX7_placeSign 25 = .ok (.ishl, 1) := by decide +kernel
theorem dX7_placeSign_26 : decode cX7_placeSign 26 = .ok (.ior, 1) := by decide +kernel
theorem dX7_placeSign_27 : decode cX7_placeSign 27 = .ok (.iastore, 1) := by decide +kernel
theorem dX7_placeSign_28 : decode cX7_placeSign 28 = .ok (.aload_n 0, 1) := by decide +kernel
theorem dX7_placeSign_29 : decode cX7_placeSign 29 = .ok (.getfield 24, 3) := by decide +kernel
theorem dX7_placeSign_32 : decode cX7_placeSign 32 = .ok (.iconst 2, 1) := by decide +kernel
theorem dX7_placeSign_33 : decode cX7_placeSign 33 = .ok (.iload_n 1, 1) := by decide +kernel
theorem dX7_placeSign_34 : decode cX7_placeSign 34 = .ok (.imul, 1) := by decide +kernel
theorem dX7_placeSign_35 : decode cX7_placeSign 35 = .ok (.iconst 1, 1) := by decide +kernel
theorem dX7_placeSign_36 : decode cX7_placeSign 36 = .ok (.iadd, 1) := by decide +kernel
theorem dX7_placeSign_37 : decode cX7_placeSign 37 = .ok (.dup2, 1) := by decide +kernel
theorem dX7_placeSign_38 : decode cX7_placeSign 38 = .ok (.iaload, 1) := by decide +kernel
theorem dX7_placeSign_39 : decode cX7_placeSign 39 = .ok (.iload_n 3, 1) := by decide +kernel
theorem dX7_placeSign_40 : decode cX7_placeSign 40 = .ok (.iconst 1, 1) := by decide +kernel
theorem dX7_placeSign_41 : decode cX7_placeSign 41 = .ok (.ishr, 1) := by decide +kernel
theorem dX7_placeSign_42 : decode cX7_placeSign 42 = .ok (.iload_n 2, 1) := by decide +kernel
theorem dX7_placeSign_43 : decode cX7_placeSign 43 = .ok (.ishl, 1) := by decide +kernel
theorem dX7_placeSign_44 : decode cX7_placeSign 44 = .ok (.ior, 1) := by decide +kernel
theorem dX7_placeSign_45 : decode cX7_placeSign 45 = .ok (.iastore, 1) := by decide +kernel
theorem dX7_placeSign_46 : decode cX7_placeSign 46 = .ok (.return_, 1) := by decide +kernel
set_option maxRecDepth 20000 in
theorem ggX7_readSaint_X6_readNumber : GoodIn wsX7_readSaint wsX6_readNumber := goodIn_r _ [9, 10, 11, 12, 13, 14, 15, 16, 8, 17, 18, 19, 20, 21, 22, 23, 24, 25, 26, 27, 28, 29, 43, 44, 45, 46, 47] (by decide +kernel) (by decide +kernel)
set_option maxRecDepth 20000 in
theorem gX7_readSaint_X6_readNumber : GoodIn wsX7_readSaint (wsV RX7 92 RX6 yX6_readNumber wsX6_readNumber) := goodIn_app (goodIn_of _ (by decide +kernel)) ggX7_readSaint_X6_readNumber
set_option maxRecDepth 20000 in
theorem ggX7_readSaint_X6_isFaulty : GoodIn wsX7_readSaint wsX6_isFaulty := goodIn_r _ [17, 18, 43, 44, 45, 46, 47] (by decide +kernel) (by decide +kernel)
set_option maxRecDepth 20000 in
theorem gX7_readSaint_X6_isFaulty : GoodIn wsX7_readSaint (wsV RX7 89 RX6 yX6_isFaulty wsX6_isFaulty) := goodIn_app (goodIn_of _ (by decide +kernel)) ggX7_readSaint_X6_isFaulty
theorem dX7_readSaint_0 : decode cX7_readSaint 0 = .ok (.aload_n 1, 1) := by decide +kernel
theorem dX7_readSaint_1 : decode cX7_readSaint 1 = .ok (.iconst 0, 1) := by decide +kernel
theorem dX7_readSaint_2 : decode cX7_readSaint 2 = .ok (.aload_n 0, 1) := by decide +kernel
theorem dX7_readSaint_3 : decode cX7_readSaint 3 = .ok (.getfield 42, 3) := by decide +kernel
theorem dX7_readSaint_6 : decode cX7_readSaint 6 = .ok (.iconst 1, 1) := by decide +kernel
theorem dX7_readSaint_7 : decode cX7_readSaint 7 = .ok (.isub, 1) := by decide +kernel
theorem dX7_readSaint_8 : decode cX7_readSaint 8 = .ok (.invokevirtual 92, 3) := by decide +kernel
theorem dX7_readSaint_11 : decode cX7_readSaint 11 = .ok (.istore_n 2, 1) := by decide +kernel
theorem dX7_readSaint_12 : decode cX7_readSaint 12 = .ok (.aload_n 1, 1) := by decide +kernel
theorem dX7_readSaint_13 : decode cX7_readSaint 13 = .ok (.iconst 0, 1) := by decide +kernel
theorem dX7_readSaint_14 : decode cX7_readSaint 14 = .ok (.sipush 359, 3) := by decide +kernel
theorem dX7_readSaint_17 : decode cX7_readSaint 17 = .ok (.invokevirtual 92, 3) := by decide +kernel
theorem dX7_readSaint_20 : decode cX7_readSaint 20 = .ok (.istore_n 3, 1) := by decide +kernel
theorem dX7_readSaint_21 : decode cX7_readSaint 21 = .ok (.aload_n 1, 1) := by decide +kernel
theorem dX7_readSaint_22 : decode cX7_readSaint 22 = .ok (.invokevirtual 89, 3) := by decide +kernel
theorem dX7_readSaint_25 : decode cX7_readSaint 25 = .ok (.ifCond .eq 4, 3) := by decide +kernel
theorem dX7_readSaint_28 : decode cX7_readSaint 28 = .ok (.return_, 1) := by decide +kernel
theorem dX7_readSaint_29 : decode cX7_readSaint 29 = .ok (.aload_n 0, 1) := by decide +kernel
theorem dX7_readSaint_30 : decode cX7_readSaint 30 = .ok (.getfield 27, 3) := by decide +kernel
theorem dX7_readSaint_33 : decode cX7_readSaint 33 = .ok (.aload_n 0, 1) := by decide +kernel
theorem dX7_readSaint_34 : decode cX7_readSaint 34 = .ok (.getfield 49, 3) := by decide +kernel
theorem dX7_readSaint_37 : decode cX7_readSaint 37 = .ok (.iload_n 2, 1) := by decide +kernel
theorem dX7_readSaint_38 : decode cX7_readSaint 38 = .ok (.iastore, 1) := by decide +kernel
theorem dX7_readSaint_39 : decode cX7_readSaint 39 = .ok (.aload_n 0, 1) := by decide +kernel
theorem dX7_readSaint_40 : decode cX7_readSaint 40 = .ok (.getfield 30, 3) := by decide +kernel
theorem dX7_readSaint_43 : decode cX7_readSaint 43 = .ok (.aload_n 0, 1) := by decide +kernel
theorem dX7_readSaint_44 : decode cX7_readSaint 44 = .ok (.getfield 49, 3) := by decide +kernel
theorem dX7_readSaint_47 : decode cX7_readSaint 47 = .ok (.iload_n 3, 1) := by decide +kernel
theorem dX7_readSaint_48 : decode cX7_readSaint 48 = .ok (.iastore, 1) := by decide +kernel
theorem dX7_readSaint_49 : decode cX7_readSaint 49 = .ok (.aload_n 0, 1) := by decide +kernel
theorem dX7_readSaint_50 : decode cX7_readSaint 50 = .ok (.dup, 1) := by decide +kernel
theorem dX7_readSaint_51 : decode cX7_readSaint 51 = .ok (.getfield 49, 3) := by decide +kernel
theorem dX7_readSaint_54 : decode cX7_readSaint 54 = .ok (.iconst 1, 1) := by decide +kernel
theorem dX7_readSaint_55 : decode cX7_readSaint 55 = .ok (.iadd, 1) := by decide +kernel
theorem dX7_readSaint_56 : decode cX7_readSaint 56 = .ok (.putfield 49, 3) := by decide +kernel
theorem dX7_readSaint_59 : decode cX7_readSaint 59 = .ok (.return_, 1) := by decide +kernel
set_option maxRecDepth 20000 in
theorem ggX7_readLift_X6_readNumber : GoodIn wsX7_readLift wsX6_readNumber := goodIn_r _ [8, 9, 10, 11, 12, 13, 14, 15, 7, 16, 17, 18, 19, 20, 21, 22, 23, 24, 25, 26, 27, 28, 42, 43, 44, 45, 46] (by decide +kernel) (by decide +kernel)
set_option maxRecDepth 20000 in
theorem gX7_readLift_X6_readNumber : GoodIn wsX7_readLift (wsV RX7 92 RX6 yX6_readNumber wsX6_readNumber) := goodIn_app (goodIn_of _ (by decide +kernel)) ggX7_readLift_X6_readNumber
set_option maxRecDepth 20000 in
theorem ggX7_readLift_X6_isFaulty : GoodIn wsX7_readLift wsX6_isFaulty := goodIn_r _ [16, 17, 42, 43, 44, 45, 46] (by decide +kernel) (by decide +kernel)
set_option maxRecDepth 20000 in
theorem gX7_readLift_X6_isFaulty : GoodIn wsX7_readLift (wsV RX7 89 RX6 yX6_isFaulty wsX6_isFaulty) := goodIn_app (goodIn_of _ (by decide +kernel)) ggX7_readLift_X6_isFaulty
theorem dX7_readLift_0 : decode cX7_readLift 0 = .ok (.aload_n 1, 1) := by decide +kernel
theorem dX7_readLift_1 : decode cX7_readLift 1 = .ok (.iconst 0, 1) := by decide +kernel
theorem dX7_readLift_2 : decode cX7_readLift 2 = .ok (.aload_n 0, 1) := by decide +kernel
theorem dX7_readLift_3 : decode cX7_readLift 3 = .ok (.getfield 46, 3) := by decide +kernel
theorem dX7_readLift_6 : decode cX7_readLift 6 = .ok (.iconst 1, 1) := by decide +kernel
theorem dX7_readLift_7 : decode cX7_readLift 7 = .ok (.isub, 1) := by decide +kernel
theorem dX7_readLift_8 : decode cX7_readLift 8 = .ok (.invokevirtual 92, 3) := by decide +kernel
theorem dX7_readLift_11 : decode cX7_readLift 11 = .ok (.istore_n 2, 1) := by decide +kernel
theorem dX7_readLift_12 : decode cX7_readLift 12 = .ok (.aload_n 1, 1) := by decide +kernel
theorem dX7_readLift_13 : decode cX7_readLift 13 = .ok (.iconst 0, 1) := by decide +kernel
theorem dX7_readLift_14 : decode cX7_readLift 14 = .ok (.bipush 23, 2) := by decide +kernel
theorem dX7_readLift_16 : decode cX7_readLift 16 = .ok (.invokevirtual 92, 3) := by decide +kernel
theorem dX7_readLift_19 : decode cX7_readLift 19 = .ok (.istore_n 3, 1) := by decide +kernel
theorem dX7_readLift_20 : decode cX7_readLift 20 = .ok (.aload_n 1, 1) := by decide +kernel
theorem dX7_readLift_21 : decode cX7_readLift 21 = .ok (.iload_n 3, 1) := by decide +kernel
theorem dX7_readLift_22 : decode cX7_readLift 22 = .ok (.iconst 1, 1) := by decide +kernel
theorem dX7_readLift_23 : decode cX7_readLift 23 = .ok (.iadd, 1) := by decide +kernel
theorem dX7_readLift_24 : decode cX7_readLift 24 = .ok (.bipush 24, 2) := by decide +kernel
theorem dX7_readLift_26 : decode cX7_readLift 26 = .ok (.invokevirtual 92, 3) := by decide +kernel
theorem dX7_readLift_29 : decode cX7_readLift 29 = .ok (.istore 4, 2) := by decide +kernel
theorem dX7_readLift_31 : decode cX7_readLift 31 = .ok (.aload_n 1, 1) := by decide +kernel
theorem dX7_readLift_32 : decode cX7_readLift 32 = .ok (.invokevirtual 89, 3) := by decide +kernel
theorem dX7_readLift_35 : decode cX7_readLift 35 = .ok (.ifCond .eq 4, 3) := by decide +kernel
theorem dX7_readLift_38 : decode cX7_readLift 38 = .ok (.return_, 1) := by decide +kernel
theorem dX7_readLift_39 : decode cX7_readLift 39 = .ok (.aload_n 0, 1) := by decide +kernel
theorem dX7_readLift_40 : decode cX7_readLift 40 = .ok (.getfield 21, 3) := by decide +kernel
theorem dX7_readLift_43 : decode cX7_readLift 43 = .ok (.iload_n 2, 1) := by decide +kernel
theorem dX7_readLift_44 : decode cX7_readLift 44 = .ok (.dup2, 1) := by decide +kernel
theorem dX7_readLift_45 : decode cX7_readLift 45 = .ok (.iaload, 1) := by decide +kernel
theorem dX7_readLift_46 : decode cX7_readLift 46 = .ok (.iconst 1, 1) := by decide +kernel
theorem dX7_readLift_47 : decode cX7_readLift 47 = .ok (.iload 4, 2) := by decide +kernel
theorem dX7_readLift_49 : decode cX7_readLift 49 = .ok (.ishl, 1) := by decide +kernel
theorem dX7_readLift_50 : decode cX7_readLift 50 = .ok (.iconst 1, 1) := by decide +kernel
theorem dX7_readLift_51 : decode cX7_readLift 51 = .ok (.iload_n 3, 1) := by decide +kernel
theorem dX7_readLift_52 : decode cX7_readLift 52 = .ok (.ishl, 1) := by decide +kernel
theorem dX7_readLift_53 : decode cX7_readLift 53 = .ok (.isub, 1) := by decide +kernel
theorem dX7_readLift_54 : decode cX7_readLift 54 = .ok (.ior, 1) := by decide +kernel
theorem dX7_readLift_55 : decode cX7_readLift 55 = .ok (.iastore, 1) := by decide +kernel
theorem dX7_readLift_56 : decode cX7_readLift 56 = .ok (.aload_n 0, 1) := by decide +kernel
theorem dX7_readLift_57 : decode cX7_readLift 57 = .ok (.dup, 1) := by decide +kernel
theorem dX7_readLift_58 : decode cX7_readLift 58 = .ok (.getfield 52, 3) := by decide +kernel
theorem dX7_readLift_61 : decode cX7_readLift 61 = .ok (.iconst 1, 1) := by decide +kernel
theorem dX7_readLift_62 : decode cX7_readLift 62 = .ok (.iadd, 1) := by decide +kernel
theorem dX7_readLift_63 : decode cX7_readLift 63 = .ok (.putfield 52, 3) := by decide +kernel
theorem dX7_readLift_66 : decode cX7_readLift 66 = .ok (.return_, 1) := by decide +kernel
set_option maxRecDepth 20000 in
theorem ggX7_tryStreet_X7_placeStreet : GoodIn wsX7_tryStreet wsX7_placeStreet := goodIn_r _ [6, 7, 8, 9, 10, 27, 28, 29, 30, 31, 32, 33, 34, 35, 36, 37, 38] (by decide +kernel) (by decide +kernel)
set_option maxRecDepth 20000 in
theorem gX7_tryStreet_X7_placeStreet : GoodIn wsX7_tryStreet (wsV RX7 106 RX7 yX7_placeStreet wsX7_placeStreet) := goodIn_app (goodIn_of _ (by decide +kernel)) ggX7_tryStreet_X7_placeStreet
set_option maxRecDepth 20000 in
theorem ggX7_tryStreet_X7_placeSign : GoodIn wsX7_tryStreet wsX7_placeSign := goodIn_r _ [14, 15, 10, 27, 28, 29, 30, 31, 32, 33, 34, 35, 36, 37, 38] (by decide +kernel) (by decide +kernel)
set_option maxRecDepth 20000 in
theorem gX7_tryStreet_X7_placeSign : GoodIn wsX7_tryStreet (wsV RX7 134 RX7 yX7_placeSign wsX7_placeSign) := goodIn_app (goodIn_of _ (by decide +kernel)) ggX7_tryStreet_X7_placeSign
set_option maxRecDepth 20000 in
theorem ggX7_tryStreet_X7_findSaints : GoodIn wsX7_tryStreet wsX7_findSaints := goodIn_r _ [19, 20, 21, 22, 23, 24, 25, 5, 26, 7, 27, 28, 29, 30, 31, 32, 33, 34, 35, 36, 37, 38] (by decide +kernel) (by decide +kernel)
set_option maxRecDepth 20000 in
theorem gX7_tryStreet_X7_findSaints : GoodIn wsX7_tryStreet (wsV RX7 85 RX7 yX7_findSaints wsX7_findSaints) := goodIn_app (goodIn_of _ (by decide +kernel)) ggX7_tryStreet_X7_findSaints
theorem dX7_tryStreet_0 : decode cX7_tryStreet 0 = .ok (.aload_n 0, 1) := by decide +kernel
theorem dX7_tryStreet_1 : decode cX7_tryStreet 1 = .ok (.aload_n 0, 1) := by decide +kernel
theorem dX7_tryStreet_2 : decode cX7_tryStreet 2 = .ok (.getfield 46, 3) := by decide +kernel
theorem dX7_tryStreet_5 : decode cX7_tryStreet 5 = .ok (.iload_n 1, 1) := by decide +kernel
theorem dX7_tryStreet_6 : decode cX7_tryStreet 6 = .ok (.iload_n 2, 1) := by decide +kernel
theorem dX7_tryStreet_7 : decode cX7_tryStreet 7 = .ok (.iload_n 3, 1) := by decide +kernel
theorem dX7_tryStreet_8 : decode cX7_tryStreet 8 = .ok (.invokevirtual 106, 3) := by decide +kernel
theorem dX7_tryStreet_11 : decode cX7_tryStreet 11 = .ok (.iconst 0, 1) := by decide +kernel
theorem dX7_tryStreet_12 : decode cX7_tryStreet 12 = .ok (.istore 4, 2) := by decide +kernel
theorem dX7_tryStreet_14 : decode cX7_tryStreet 14 = .ok (.iload 4, 2) := by decide +kernel
theorem dX7_tryStreet_16 : decode cX7_tryStreet 16 = .ok (.bipush 7, 2) := by decide +kernel
theorem dX7_tryStreet_18 : decode cX7_tryStreet 18 = .ok (.if_icmp .ge 20, 3) := by decide +kernel
theorem dX7_tryStreet_21 : decode cX7_tryStreet 21 = .ok (.aload_n 0, 1) := by decide +kernel
theorem dX7_tryStreet_22 : decode cX7_tryStreet 22 = .ok (.aload_n 0, 1) := by decide +kernel
theorem dX7_tryStreet_23 : decode cX7_tryStreet 23 = .ok (.getfield 46, 3) := by decide +kernel
theorem dX7_tryStreet_26 : decode cX7_tryStreet 26 = .ok (.iload 4, 2) := by decide +kernel
theorem dX7_tryStreet_28 : decode cX7_tryStreet 28 = .ok (.iconst 3, 1) := by decide +kernel
theorem dX7_tryStreet_29 : decode cX7_tryStreet 29 = .ok (.invokevirtual 134, 3) := by decide +kernel
theorem dX7_tryStreet_32 : decode cX7_tryStreet 32 = .ok (.iinc 4 1, 3) := by decide +kernel
theorem dX7_tryStreet_35 : decode cX7_tryStreet 35 = .ok (.goto (-21), 3) := by decide +kernel
theorem dX7_tryStreet_38 : decode cX7_tryStreet 38 = .ok (.aload_n 0, 1) := by decide +kernel
theorem dX7_tryStreet_39 : decode cX7_tryStreet 39 = .ok (.aload_n 0, 1) := by decide +kernel
theorem dX7_tryStreet_40 : decode cX7_tryStreet 40 = .ok (.getfield 46, 3) := by decide +kernel
theorem dX7_tryStreet_43 : decode cX7_tryStreet 43 = .ok (.invokevirtual 85, 3) := by decide +kernel
theorem dX7_tryStreet_46 : decode cX7_tryStreet 46 = .ok (.return_, 1) := by decide +kernel
theorem dX7_hasStreet_0 : decode cX7_hasStreet 0 = .ok (.iload_n 1, 1) := by decide +kernel
theorem dX7_hasStreet_1 : decode cX7_hasStreet 1 = .ok (.ifCond .lt 15, 3) := by decide +kernel
theorem dX7_hasStreet_4 : decode cX7_hasStreet 4 = .ok (.iload_n 1, 1) := by decide +kernel
theorem dX7_hasStreet_5 : decode cX7_hasStreet 5 = .ok (.aload_n 0, 1) := by decide +kernel
theorem dX7_hasStreet_6 : decode cX7_hasStreet 6 = .ok (.getfield 46, 3) := by decide +kernel
theorem dX7_hasStreet_9 : decode cX7_hasStreet 9 = .ok (.if_icmp .ge 7, 3) := by decide +kernel
theorem dX7_hasStreet_12 : decode cX7_hasStreet 12 = .ok (.iconst 1, 1) := by decide +kernel
theorem dX7_hasStreet_13 : decode cX7_hasStreet 13 = .ok (.goto 4, 3) := by decide +kernel
theorem dX7_hasStreet_16 : decode cX7_hasStreet 16 = .ok (.iconst 0, 1) := by decide +kernel
theorem dX7_hasStreet_17 : decode cX7_hasStreet 17 = .ok (.ireturn, 1) := by decide +kernel
theorem dX7_signOn_0 : decode cX7_signOn 0 = .ok (.aload_n 0, 1) := by decide +kernel
theorem dX7_signOn_1 : decode cX7_signOn 1 = .ok (.getfield 18, 3) := by decide +kernel
theorem dX7_signOn_4 : decode cX7_signOn 4 = .ok (.bipush 7, 2) := by decide +kernel
theorem dX7_signOn_6 : decode cX7_signOn 6 = .ok (.iload_n 1, 1) := by decide +kernel
theorem dX7_signOn_7 : decode cX7_signOn 7 = .ok (.imul, 1) := by decide +kernel
theorem dX7_signOn_8 : decode cX7_signOn 8 = .ok (.iload_n 2, 1) := by decide +kernel
theorem dX7_signOn_9 : decode cX7_signOn 9 = .ok (.iadd, 1) := by decide +kernel
theorem dX7_signOn_10 : decode cX7_signOn 10 = .ok (.iaload, 1) := by decide +kernel
theorem dX7_signOn_11 : decode cX7_signOn 11 = .ok (.ireturn, 1) := by decide +kernel
theorem dX7_sideOf_0 : decode cX7_sideOf 0 = .ok (.aload_n 0, 1) := by decide +kernel
theorem dX7_sideOf_1 : decode cX7_sideOf 1 = .ok (.getfield 11, 3) := by decide +kernel
theorem dX7_sideOf_4 : decode cX7_sideOf 4 = .ok (.iconst 2, 1) := by decide +kernel
theorem dX7_sideOf_5 : decode cX7_sideOf 5 = .ok (.iload_n 1, 1) := by decide +kernel
theorem dX7_sideOf_6 : decode cX7_sideOf 6 = .ok (.imul, 1) := by decide +kernel
theorem dX7_sideOf_7 : decode cX7_sideOf 7 = .ok (.iaload, 1) := by decide +kernel
theorem dX7_sideOf_8 : decode cX7_sideOf 8 = .ok (.iload_n 2, 1) := by decide +kernel
theorem dX7_sideOf_9 : decode cX7_sideOf 9 = .ok (.if_icmp .ne 5, 3) := by decide +kernel
theorem dX7_sideOf_12 : decode cX7_sideOf 12 = .ok (.iconst 0, 1) := by decide +kernel
theorem dX7_sideOf_13 : decode cX7_sideOf 13 = .ok (.ireturn, 1) := by decide +kernel
theorem dX7_sideOf_14 : decode cX7_sideOf 14 = .ok (.aload_n 0, 1) := by decide +kernel
theorem dX7_sideOf_15 : decode cX7_sideOf 15 = .ok (.getfield 11, 3) := by decide +kernel
theorem dX7_sideOf_18 : decode cX7_sideOf 18 = .ok (.iconst 2, 1) := by decide +kernel
theorem dX7_sideOf_19 : decode cX7_sideOf 19 = .ok (.iload_n 1, 1) := by decide +kernel
theorem dX7_sideOf_20 : decode cX7_sideOf 20 = .ok (.imul, 1) := by decide +kernel
theorem dX7_sideOf_21 : decode cX7_sideOf 21 = .ok (.iconst 1, 1) := by decide +kernel
theorem dX7_sideOf_22 : decode cX7_sideOf 22 = .ok (.iadd, 1) := by decide +kernel
theorem dX7_sideOf_23 : decode cX7_sideOf 23 = .ok (.iaload, 1) := by decide +kernel
theorem dX7_sideOf_24 : decode cX7_sideOf 24 = .ok (.iload_n 2, 1) := by decide +kernel
theorem dX7_sideOf_25 : decode cX7_sideOf 25 = .ok (.if_icmp .ne 7, 3) := by decide +kernel
theorem dX7_sideOf_28 : decode cX7_sideOf 28 = .ok (.iconst 1, 1) := by decide +kernel
theorem dX7_sideOf_29 : decode cX7_sideOf 29 = .ok (.goto 4, 3) := by decide +kernel
theorem dX7_sideOf_32 : decode cX7_sideOf 32 = .ok (.iconst (-1), 1) := by decide +kernel
theorem dX7_sideOf_33 : decode cX7_sideOf 33 = .ok (.ireturn, 1) := by decide +kernel
theorem dX7_cornerAcross_0 : decode cX7_cornerAcross 0 = .ok (.aload_n 0, 1) := by decide +kernel
theorem dX7_cornerAcross_1 : decode cX7_cornerAcross 1 = .ok (.getfield 11, 3) := by decide +kernel
theorem dX7_cornerAcross_4 : decode cX7_cornerAcross 4 = .ok (.iconst 2, 1) := by decide +kernel
theorem dX7_cornerAcross_5 : decode cX7_cornerAcross 5 = .ok (.iload_n 1, 1) := by decide +kernel
theorem dX7_cornerAcross_6 : decode cX7_cornerAcross 6 = .ok (.imul, 1) := by decide +kernel
theorem dX7_cornerAcross_7 : decode cX7_cornerAcross 7 = .ok (.iconst 1, 1) := by decide +kernel
theorem dX7_cornerAcross_8 : decode cX7_cornerAcross 8 = .ok (.iadd, 1) := by decide +kernel
theorem dX7_cornerAcross_9 : decode cX7_cornerAcross 9 = .ok (.iload_n 2, 1) := by decide +kernel
theorem dX7_cornerAcross_10 : decode cX7_cornerAcross 10 = .ok (.isub, 1) := by decide +kernel
theorem dX7_cornerAcross_11 : decode cX7_cornerAcross 11 = .ok (.iaload, 1) := by decide +kernel
theorem dX7_cornerAcross_12 : decode cX7_cornerAcross 12 = .ok (.ireturn, 1) := by decide +kernel
set_option maxRecDepth 20000 in
theorem ggX7_findSaints_X7_sideOf : GoodIn wsX7_findSaints wsX7_sideOf := goodIn_r _ [8, 9, 10, 11, 12, 13, 14, 15, 16, 17, 18, 19, 20, 21] (by decide +kernel) (by decide +kernel)
set_option maxRecDepth 20000 in
theorem gX7_findSaints_X7_sideOf : GoodIn wsX7_findSaints (wsV RX7 138 RX7 yX7_sideOf wsX7_sideOf) := goodIn_app (goodIn_of _ (by decide +kernel)) ggX7_findSaints_X7_sideOf
theorem dX7_findSaints_0 : decode cX7_findSaints 0 = .ok (.aload_n 0, 1) := by decide +kernel
theorem dX7_findSaints_1 : decode cX7_findSaints 1 = .ok (.getfield 33, 3) := by decide +kernel
theorem dX7_findSaints_4 : decode cX7_findSaints 4 = .ok (.iload_n 1, 1) := by decide +kernel
theorem dX7_findSaints_5 : decode cX7_findSaints 5 = .ok (.iconst 0, 1) := by decide +kernel
theorem dX7_findSaints_6 : decode cX7_findSaints 6 = .ok (.iastore, 1) := by decide +kernel
theorem dX7_findSaints_7 : decode cX7_findSaints 7 = .ok (.iconst 0, 1) := by decide +kernel
theorem dX7_findSaints_8 : decode cX7_findSaints 8 = .ok (.istore_n 2, 1) := by decide +kernel
theorem dX7_findSaints_9 : decode cX7_findSaints 9 = .ok (.iload_n 2, 1) := by decide +kernel
theorem dX7_findSaints_10 : decode cX7_findSaints 10 = .ok (.aload_n 0, 1) := by decide +kernel
theorem dX7_findSaints_11 : decode cX7_findSaints 11 = .ok (.getfield 49, 3) := by decide +kernel
theorem dX7_findSaints_14 : decode cX7_findSaints 14 = .ok (.if_icmp .ge 36, 3) := by decide +kernel
theorem dX7_findSaints_17 : decode cX7_findSaints 17 = .ok (.aload_n 0, 1) := by decide +kernel
theorem dX7_findSaints_18 : decode cX7_findSaints 18 = .ok (.iload_n 1, 1) := by decide +kernel
theorem dX7_findSaints_19 : decode cX7_findSaints 19 = .ok (.aload_n 0, 1) := by decide +kernel
theorem dX7_findSaints_20 : decode cX7_findSaints 20 = .ok (.getfield 27, 3) := by decide +kernel
theorem dX7_findSaints_23 : decode cX7_findSaints 23 = .ok (.iload_n 2, 1) := by decide +kernel
theorem dX7_findSaints_24 : decode cX7_findSaints 24 = .ok (.iaload, 1) := by decide +kernel
theorem dX7_findSaints_25 : decode cX7_findSaints 25 = .ok (.invokevirtual 138, 3) := by decide +kernel
theorem dX7_findSaints_28 : decode cX7_findSaints 28 = .ok (.iconst (-1), 1) := by decide +kernel
theorem dX7_findSaints_29 : decode cX7_findSaints 29 = .ok (.if_icmp .eq 15, 3) := by decide +kernel
theorem dX7_findSaints_32 : decode cX7_findSaints 32 = .ok (.aload_n 0, 1) := by decide +kernel
theorem dX7_findSaints_33 : decode cX7_findSaints 33 = .ok (.getfield 33, 3) := by decide +kernel
theorem dX7_findSaints_36 : decode cX7_findSaints 36 = .ok (.iload_n 1, 1) := by decide +kernel
theorem dX7_findSaints_37 : decode cX7_findSaints 37 = .ok (.dup2, 1) := by decide +kernel
theorem dX7_findSaints_38 : decode cX7_findSaints 38 = .ok (.iaload, 1) := by decide +kernel
theorem dX7_findSaints_39 : decode cX7_findSaints 39 = .ok (.iconst 1, 1) := by decide +kernel
theorem dX7_findSaints_40 : decode cX7_findSaints 40 = .ok (.iload_n 2, 1) := by decide +kernel
theorem dX7_findSaints_41 : decode cX7_findSaints 41 = .ok (.ishl, 1) := by decide +kernel
theorem dX7_findSaints_42 : decode cX7_findSaints 42 = .ok (.ior, 1) := by decide +kernel
theorem dX7_findSaints_43 : decode cX7_findSaints 43 = .ok (.iastore, 1) := by decide +kernel
theorem dX7_findSaints_44 : decode cX7_findSaints 44 = .ok (.iinc 2 1, 3) := by decide +kernel
theorem dX7_findSaints_47 : decode cX7_findSaints 47 = .ok (.goto (-38), 3) := by decide +kernel
theorem dX7_findSaints_50 : decode cX7_findSaints 50 = .ok (.return_, 1) := by decide +kernel
theorem dX7_openHours_0 : decode cX7_openHours 0 = .ok (.aload_n 0, 1) := by decide +kernel
theorem dX7_openHours_1 : decode cX7_openHours 1 = .ok (.getfield 24, 3) := by decide +kernel
theorem dX7_openHours_4 : decode cX7_openHours 4 = .ok (.iconst 2, 1) := by decide +kernel
theorem dX7_openHours_5 : decode cX7_openHours 5 = .ok (.iload_n 1, 1) := by decide +kernel
theorem dX7_openHours_6 : decode cX7_openHours 6 = .ok (.imul, 1) := by decide +kernel
theorem dX7_openHours_7 : decode cX7_openHours 7 = .ok (.iload_n 2, 1) := by decide +kernel
theorem dX7_openHours_8 : decode cX7_openHours 8 = .ok (.iadd, 1) := by decide +kernel
theorem dX7_openHours_9 : decode cX7_openHours 9 = .ok (.iaload, 1) := by decide +kernel
theorem dX7_openHours_10 : decode cX7_openHours 10 = .ok (.lload_n 3, 1) := by decide +kernel
theorem dX7_openHours_11 : decode cX7_openHours 11 = .ok (.ldc2_w 141, 3) := by decide +kernel
theorem dX7_openHours_14 : decode cX7_openHours 14 = .ok (.lrem, 1) := by decide +kernel
theorem dX7_openHours_15 : decode cX7_openHours 15 = .ok (.l2i, 1) := by decide +kernel
theorem dX7_openHours_16 : decode cX7_openHours 16 = .ok (.ishr, 1) := by decide +kernel
theorem dX7_openHours_17 : decode cX7_openHours 17 = .ok (.iconst 1, 1) := by decide +kernel
theorem dX7_openHours_18 : decode cX7_openHours 18 = .ok (.iand, 1) := by decide +kernel
theorem dX7_openHours_19 : decode cX7_openHours 19 = .ok (.ifCond .ne 5, 3) := by decide +kernel
theorem dX7_openHours_22 : decode cX7_openHours 22 = .ok (.iconst 0, 1) := by decide +kernel
theorem dX7_openHours_23 : decode cX7_openHours 23 = .ok (.ireturn, 1) := by decide +kernel
theorem dX7_openHours_24 : decode cX7_openHours 24 = .ok (.iload 5, 2) := by decide +kernel
theorem dX7_openHours_26 : decode cX7_openHours 26 = .ok (.ifCond .eq 12, 3) := by decide +kernel
theorem dX7_openHours_29 : decode cX7_openHours 29 = .ok (.aload_n 0, 1) := by decide +kernel
theorem dX7_openHours_30 : decode cX7_openHours 30 = .ok (.getfield 33, 3) := by decide +kernel
theorem dX7_openHours_33 : decode cX7_openHours 33 = .ok (.iload_n 1, 1) := by decide +kernel
theorem dX7_openHours_34 : decode cX7_openHours 34 = .ok (.iaload, 1) := by decide +kernel
theorem dX7_openHours_35 : decode cX7_openHours 35 = .ok (.goto 4, 3) := by decide +kernel
theorem dX7_openHours_38 : decode cX7_openHours 38 = .ok (.iconst 0, 1) := by decide +kernel
theorem dX7_openHours_39 : decode cX7_openHours 39 = .ok (.istore 6, 2) := by decide +kernel
theorem dX7_openHours_41 : decode cX7_openHours 41 = .ok (.iconst 0, 1) := by decide +kernel
theorem dX7_openHours_42 : decode cX7_openHours 42 = .ok (.istore 7, 2) := by decide +kernel
theorem dX7_openHours_44 : decode cX7_openHours 44 = .ok (.iload 6, 2) := by decide +kernel
theorem dX7_openHours_46 : decode cX7_openHours 46 = .ok (.ifCond .eq 47, 3) := by decide +kernel
theorem dX7_openHours_49 : decode cX7_openHours 49 = .ok (.iload 7, 2) := by decide +kernel
theorem dX7_openHours_51 : decode cX7_openHours 51 = .ok (.bipush 8, 2) := by decide +kernel
theorem dX7_openHours_53 : decode cX7_openHours 53 = .ok (.if_icmp .ge 40, 3) := by decide +kernel
theorem dX7_openHours_56 : decode cX7_openHours 56 = .ok (.iload 6, 2) := by decide +kernel
theorem dX7_openHours_58 : decode cX7_openHours 58 = .ok (.iconst 1, 1) := by decide +kernel
theorem dX7_openHours_59 : decode cX7_openHours 59 = .ok (.iand, 1) := by decide +kernel
theorem dX7_openHours_60 : decode cX7_openHours 60 = .ok (.ifCond .eq 21, 3) := by decide +kernel
theorem dX7_openHours_63 : decode cX7_openHours 63 = .ok (.aload_n 0, 1) := by decide +kernel
theorem dX7_openHours_64 : decode cX7_openHours 64 = .ok (.getfield 30, 3) := by decide +kernel
theorem dX7_openHours_67 : decode cX7_openHours 67 = .ok (.iload 7, 2) := by decide +kernel
theorem dX7_openHours_69 : decode cX7_openHours 69 = .ok (.iaload, 1) := by decide +kernel
theorem dX7_openHours_70 : decode cX7_openHours 70 = .ok (.lload_n 3, 1) := by decide +kernel
theorem dX7_openHours_71 : decode cX7_openHours 71 = .ok (.ldc2_w 143, 3) := by decide +kernel
theorem dX7_openHours_74 : decode cX7_openHours 74 = .ok (.lrem, 1) := by decide +kernel
theorem dX7_openHours_75 : decode cX7_openHours 75 = .ok (.l2i, 1) := by decide +kernel
theorem dX7_openHours_76 : decode cX7_openHours 76 = .ok (.if_icmp .ne 5, 3) := by decide +kernel
theorem dX7_openHours_79 : decode cX7_openHours 79 = .ok (.iconst 0, 1) := by decide +kernel
theorem dX7_openHours_80 : decode cX7_openHours 80 = .ok (.ireturn, 1) := by decide +kernel
theorem dX7_openHours_81 : decode cX7_openHours 81 = .ok (.iload 6, 2) := by decide +kernel
theorem dX7_openHours_83 : decode cX7_openHours 83 = .ok (.iconst 1, 1) := by decide +kernel
theorem dX7_openHours_84 : decode cX7_openHours 84 = .ok (.ishr, 1) := by decide +kernel
theorem dX7_openHours_85 : decode cX7_openHours 85 = .ok (.istore 6, 2) := by decide +kernel
theorem dX7_openHours_87 : decode cX7_openHours 87 = .ok (.iinc 7 1, 3) := by decide +kernel
theorem dX7_openHours_90 : decode cX7_openHours 90 = .ok (.goto (-46), 3) := by decide +kernel
theorem dX7_openHours_93 : decode cX7_openHours 93 = .ok (.ldc 145, 2) := by decide +kernel
theorem dX7_openHours_95 : decode cX7_openHours 95 = .ok (.aload_n 0, 1) := by decide +kernel
theorem dX7_openHours_96 : decode cX7_openHours 96 = .ok (.getfield 21, 3) := by decide +kernel
theorem dX7_openHours_99 : decode cX7_openHours 99 = .ok (.iload_n 1, 1) := by decide +kernel
theorem dX7_openHours_100 : decode cX7_openHours 100 = .ok (.iaload, 1) := by decide +kernel
theorem dX7_openHours_101 : decode cX7_openHours 101 = .ok (.iconst (-1), 1) := by decide +kernel
theorem dX7_openHours_102 : decode cX7_openHours 102 = .ok (.ixor, 1) := by decide +kernel
theorem dX7_openHours_103 : decode cX7_openHours 103 = .ok (.iand, 1) := by decide +kernel
theorem dX7_openHours_104 : decode cX7_openHours 104 = .ok (.ireturn, 1) := by decide +kernel
set_option maxRecDepth 20000 in
theorem ggX7_isOpen_X7_openHours : GoodIn wsX7_isOpen wsX7_openHours := goodIn_r _ [6, 7, 8, 9, 10, 11, 12, 13, 14, 15, 16, 17, 18, 19, 20, 21, 22, 23, 24, 25] (by decide +kernel) (by decide +kernel)
set_option maxRecDepth 20000 in
theorem gX7_isOpen_X7_openHours : GoodIn wsX7_isOpen (wsV RX7 148 RX7 yX7_openHours wsX7_openHours) := goodIn_app (goodIn_of _ (by decide +kernel)) ggX7_isOpen_X7_openHours
theorem dX7_isOpen_0 : decode cX7_isOpen 0 = .ok (.aload_n 0, 1) := by decide +kernel
theorem dX7_isOpen_1 : decode cX7_isOpen 1 = .ok (.iload_n 1, 1) := by decide +kernel
theorem dX7_isOpen_2 : decode cX7_isOpen 2 = .ok (.iload_n 2, 1) := by decide +kernel
theorem dX7_isOpen_3 : decode cX7_isOpen 3 = .ok (.lload_n 3, 1) := by decide +kernel
theorem dX7_isOpen_4 : decode cX7_isOpen 4 = .ok (.ldc2_w 146, 3) := by decide +kernel
theorem dX7_isOpen_7 : decode cX7_isOpen 7 = .ok (.ldiv, 1) := by decide +kernel
theorem dX7_isOpen_8 : decode cX7_isOpen 8 = .ok (.iload 5, 2) := by decide +kernel
theorem dX7_isOpen_10 : decode cX7_isOpen 10 = .ok (.invokevirtual 148, 3) := by decide +kernel
theorem dX7_isOpen_13 : decode cX7_isOpen 13 = .ok (.istore 6, 2) := by decide +kernel
theorem dX7_isOpen_15 : decode cX7_isOpen 15 = .ok (.iload 6, 2) := by decide +kernel
theorem dX7_isOpen_17 : decode cX7_isOpen 17 = .ok (.lload_n 3, 1) := by decide +kernel
theorem dX7_isOpen_18 : decode cX7_isOpen 18 = .ok (.ldc2_w 146, 3) := by decide +kernel
theorem dX7_isOpen_21 : decode cX7_isOpen 21 = .ok (.lrem, 1) := by decide +kernel
theorem dX7_isOpen_22 : decode cX7_isOpen 22 = .ok (.l2i, 1) := by decide +kernel
theorem dX7_isOpen_23 : decode cX7_isOpen 23 = .ok (.ishr, 1) := by decide +kernel
theorem dX7_isOpen_24 : decode cX7_isOpen 24 = .ok (.iconst 1, 1) := by decide +kernel
theorem dX7_isOpen_25 : decode cX7_isOpen 25 = .ok (.iand, 1) := by decide +kernel
theorem dX7_isOpen_26 : decode cX7_isOpen 26 = .ok (.ifCond .eq 7, 3) := by decide +kernel
theorem dX7_isOpen_29 : decode cX7_isOpen 29 = .ok (.iconst 1, 1) := by decide +kernel
theorem dX7_isOpen_30 : decode cX7_isOpen 30 = .ok (.goto 4, 3) := by decide +kernel
theorem dX7_isOpen_33 : decode cX7_isOpen 33 = .ok (.iconst 0, 1) := by decide +kernel
theorem dX7_isOpen_34 : decode cX7_isOpen 34 = .ok (.ireturn, 1) := by decide +kernel
theorem dX7_isNeverOpen_0 : decode cX7_isNeverOpen 0 = .ok (.aload_n 0, 1) := by decide +kernel
theorem dX7_isNeverOpen_1 : decode cX7_isNeverOpen 1 = .ok (.getfield 24, 3) := by decide +kernel
theorem dX7_isNeverOpen_4 : decode cX7_isNeverOpen 4 = .ok (.iconst 2, 1) := by decide +kernel
theorem dX7_isNeverOpen_5 : decode cX7_isNeverOpen 5 = .ok (.iload_n 1, 1) := by decide +kernel
theorem dX7_isNeverOpen_6 : decode cX7_isNeverOpen 6 = .ok (.imul, 1) := by decide +kernel
theorem dX7_isNeverOpen_7 : decode cX7_isNeverOpen 7 = .ok (.iload_n 2, 1) := by decide +kernel
theorem dX7_isNeverOpen_8 : decode cX7_isNeverOpen 8 = .ok (.iadd, 1) := by decide +kernel
theorem dX7_isNeverOpen_9 : decode cX7_isNeverOpen 9 = .ok (.iaload, 1) := by decide +kernel
theorem dX7_isNeverOpen_10 : decode cX7_isNeverOpen 10 = .ok (.ifCond .eq 14, 3) := by decide +kernel
theorem dX7_isNeverOpen_13 : decode cX7_isNeverOpen 13 = .ok (.aload_n 0, 1) := by decide +kernel
theorem dX7_isNeverOpen_14 : decode cX7_isNeverOpen 14 = .ok (.getfield 21, 3) := by decide +kernel
theorem dX7_isNeverOpen_17 : decode cX7_isNeverOpen 17 = .ok (.iload_n 1, 1) := by decide +kernel
theorem dX7_isNeverOpen_18 : decode cX7_isNeverOpen 18 = .ok (.iaload, 1) := by decide +kernel
theorem dX7_isNeverOpen_19 : decode cX7_isNeverOpen 19 = .ok (.ldc 145, 2) := by decide +kernel
theorem dX7_isNeverOpen_21 : decode cX7_isNeverOpen 21 = .ok (.if_icmp .ne 7, 3) := by decide +kernel
theorem dX7_isNeverOpen_24 : decode cX7_isNeverOpen 24 = .ok (.iconst 1, 1) := by decide +kernel
theorem dX7_isNeverOpen_25 : decode cX7_isNeverOpen 25 = .ok (.goto 4, 3) := by decide +kernel
theorem dX7_isNeverOpen_28 : decode cX7_isNeverOpen 28 = .ok (.iconst 0, 1) := by decide +kernel
theorem dX7_isNeverOpen_29 : decode cX7_isNeverOpen 29 = .ok (.ireturn, 1) := by decide +kernel
set_option maxRecDepth 20000 in
theorem ggX7_firstOpen_X7_isNeverOpen : GoodIn wsX7_firstOpen wsX7_isNeverOpen := goodIn_r _ [5, 6, 7, 8, 17, 18, 19, 20, 21, 22, 23, 24, 25, 26, 27, 28] (by decide +kernel) (by decide +kernel)
set_option maxRecDepth 20000 in
theorem gX7_firstOpen_X7_isNeverOpen : GoodIn wsX7_firstOpen (wsV RX7 152 RX7 yX7_isNeverOpen wsX7_isNeverOpen) := goodIn_app (goodIn_of _ (by decide +kernel)) ggX7_firstOpen_X7_isNeverOpen
set_option maxRecDepth 20000 in
theorem ggX7_firstOpen_X7_openHours : GoodIn wsX7_firstOpen wsX7_openHours := goodIn_r _ [12, 6, 13, 14, 15, 16, 8, 7, 17, 18, 19, 20, 21, 22, 23, 24, 25, 26, 27, 28] (by decide +kernel) (by decide +kernel)
set_option maxRecDepth 20000 in
theorem gX7_firstOpen_X7_openHours : GoodIn wsX7_firstOpen (wsV RX7 148 RX7 yX7_openHours wsX7_openHours) := goodIn_app (goodIn_of _ (by decide +kernel)) ggX7_firstOpen_X7_openHours
theorem dX7_firstOpen_0 : decode cX7_firstOpen 0 = .ok (.aload_n 0, 1) := by decide +kernel
theorem dX7_firstOpen_1 : decode cX7_firstOpen 1 = .ok (.iload_n 1, 1) := by decide +kernel
theorem dX7_firstOpen_2 : decode cX7_firstOpen 2 = .ok (.iload_n 2, 1) := by decide +kernel
theorem dX7_firstOpen_3 : decode cX7_firstOpen 3 = .ok (.invokevirtual 152, 3) := by decide +kernel
theorem dX7_firstOpen_6 : decode cX7_firstOpen 6 = .ok (.ifCond .eq 5, 3) := by decide +kernel
theorem dX7_firstOpen_9 : decode cX7_firstOpen 9 = .ok (.iconst (-1), 1) := by decide +kernel
theorem dX7_firstOpen_10 : decode cX7_firstOpen 10 = .ok (.ireturn, 1) := by decide +kernel
theorem dX7_firstOpen_11 : decode cX7_firstOpen 11 = .ok (.iconst (-1), 1) := by decide +kernel
theorem dX7_firstOpen_12 : decode cX7_firstOpen 12 = .ok (.iload_n 3, 1) := by decide +kernel
theorem dX7_firstOpen_13 : decode cX7_firstOpen 13 = .ok (.bipush 24, 2) := by decide +kernel
theorem dX7_firstOpen_15 : decode cX7_firstOpen 15 = .ok (.irem, 1) := by decide +kernel
theorem dX7_firstOpen_16 : decode cX7_firstOpen 16 = .ok (.ishl, 1) := by decide +kernel
theorem dX7_firstOpen_17 : decode cX7_firstOpen 17 = .ok (.istore 5, 2) := by decide +kernel
theorem dX7_firstOpen_19 : decode cX7_firstOpen 19 = .ok (.iload_n 3, 1) := by decide +kernel
theorem dX7_firstOpen_20 : decode cX7_firstOpen 20 = .ok (.bipush 24, 2) := by decide +kernel
theorem dX7_firstOpen_22 : decode cX7_firstOpen 22 = .ok (.idiv, 1) := by decide +kernel
theorem dX7_firstOpen_23 : decode cX7_firstOpen 23 = .ok (.istore 6, 2) := by decide +kernel
theorem dX7_firstOpen_25 : decode cX7_firstOpen 25 = .ok (.iload 6, 2) := by decide +kernel
theorem dX7_firstOpen_27 : decode cX7_firstOpen 27 = .ok (.bipush 24, 2) := by decide +kernel
theorem dX7_firstOpen_29 : decode cX7_firstOpen 29 = .ok (.imul, 1) := by decide +kernel
theorem dX7_firstOpen_30 : decode cX7_firstOpen 30 = .ok (.iload 4, 2) := by decide +kernel
theorem dX7_firstOpen_32 : decode cX7_firstOpen 32 = .ok (.if_icmp .gt 82, 3) := by decide +kernel
theorem dX7_firstOpen_35 : decode cX7_firstOpen 35 = .ok (.aload_n 0, 1) := by decide +kernel
theorem dX7_firstOpen_36 : decode cX7_firstOpen 36 = .ok (.iload_n 1, 1) := by decide +kernel
theorem dX7_firstOpen_37 : decode cX7_firstOpen 37 = .ok (.iload_n 2, 1) := by decide +kernel
theorem dX7_firstOpen_38 : decode cX7_firstOpen 38 = .ok (.iload 6, 2) := by decide +kernel
theorem dX7_firstOpen_40 : decode cX7_firstOpen 40 = .ok (.i2l, 1) := by decide +kernel
theorem dX7_firstOpen_41 : decode cX7_firstOpen 41 = .ok (.iconst 1, 1) := by decide +kernel
theorem dX7_firstOpen_42 : decode cX7_firstOpen 42 = .ok (.invokevirtual 148, 3) := by decide +kernel
theorem dX7_firstOpen_45 : decode cX7_firstOpen 45 = .ok (.iload 5, 2) := by decide +kernel
theorem dX7_firstOpen_47 : decode cX7_firstOpen 47 = .ok (.iand, 1) := by decide +kernel
theorem dX7_firstOpen_48 : decode cX7_firstOpen 48 = .ok (.istore 7, 2) := by decide +kernel
theorem dX7_firstOpen_50 : decode cX7_firstOpen 50 = .ok (.iconst (-1), 1) := by decide +kernel
theorem dX7_firstOpen_51 : decode cX7_firstOpen 51 = .ok (.istore 5, 2) := by decide +kernel
theorem dX7_firstOpen_53 : decode cX7_firstOpen 53 = .ok (.iconst 0, 1) := by decide +kernel
theorem dX7_firstOpen_54 : decode cX7_firstOpen 54 = .ok (.istore 8, 2) := by decide +kernel
theorem dX7_firstOpen_56 : decode cX7_firstOpen 56 = .ok (.iload 7, 2) := by decide +kernel
theorem dX7_firstOpen_58 : decode cX7_firstOpen 58 = .ok (.ifCond .eq 50, 3) := by decide +kernel
theorem dX7_firstOpen_61 : decode cX7_firstOpen 61 = .ok (.iload 8, 2) := by decide +kernel
theorem dX7_firstOpen_63 : decode cX7_firstOpen 63 = .ok (.bipush 24, 2) := by decide +kernel
theorem dX7_firstOpen_65 : decode cX7_firstOpen 65 = .ok (.if_icmp .ge 43, 3) := by decide +kernel
theorem dX7_firstOpen_68 : decode cX7_firstOpen 68 = .ok (.iload 7, 2) := by decide +kernel
theorem dX7_firstOpen_70 : decode cX7_firstOpen 70 = .ok (.iload 8, 2) := by decide +kernel
theorem dX7_firstOpen_72 : decode cX7_firstOpen 72 = .ok (.ishr, 1) := by decide +kernel
theorem dX7_firstOpen_73 : decode cX7_firstOpen 73 = .ok (.iconst 1, 1) := by decide +kernel
theorem dX7_firstOpen_74 : decode cX7_firstOpen 74 = .ok (.iand, 1) := by decide +kernel
theorem dX7_firstOpen_75 : decode cX7_firstOpen 75 = .ok (.ifCond .eq 27, 3) := by decide +kernel
theorem dX7_firstOpen_78 : decode cX7_firstOpen 78 = .ok (.iload 6, 2) := by decide +kernel
theorem dX7_firstOpen_80 : decode cX7_firstOpen 80 = .ok (.bipush 24, 2) := by decide +kernel
theorem dX7_firstOpen_82 : decode cX7_firstOpen 82 = .ok (.imul, 1) := by decide +kernel
theorem dX7_firstOpen_83 : decode cX7_firstOpen 83 = .ok (.iload 8, 2) := by decide +kernel
theorem dX7_firstOpen_85 : decode cX7_firstOpen 85 = .ok (.iadd, 1) := by decide +kernel
theorem dX7_firstOpen_86 : decode cX7_firstOpen 86 = .ok (.istore 9, 2) := by decide +kernel
theorem dX7_firstOpen_88 : decode cX7_firstOpen 88 = .ok (.iload 9, 2) := by decide +kernel
theorem dX7_firstOpen_90 : decode cX7_firstOpen 90 = .ok (.iload 4, 2) := by decide +kernel
theorem dX7_firstOpen_92 : decode cX7_firstOpen 92 = .ok (.if_icmp .gt 8, 3) := by decide +kernel
theorem dX7_firstOpen_95 : decode cX7_firstOpen 95 = .ok (.iload 9, 2) := by decide +kernel
theorem dX7_firstOpen_97 : decode cX7_firstOpen 97 = .ok (.goto 4, 3) := by decide +kernel
theorem dX7_firstOpen_100 : decode cX7_firstOpen 100 = .ok (.iconst (-1), 1) := by decide +kernel
theorem dX7_firstOpen_101 : decode cX7_firstOpen 101 = .ok (.ireturn, 1) := by decide +kernel
theorem dX7_firstOpen_102 : decode cX7_firstOpen 102 = .ok (.iinc 8 1, 3) := by decide +kernel
theorem dX7_firstOpen_105 : decode cX7_firstOpen 105 = .ok (.goto (-49), 3) := by decide +kernel
theorem dX7_firstOpen_108 : decode cX7_firstOpen 108 = .ok (.iinc 6 1, 3) := by decide +kernel
theorem dX7_firstOpen_111 : decode cX7_firstOpen 111 = .ok (.goto (-86), 3) := by decide +kernel
theorem dX7_firstOpen_114 : decode cX7_firstOpen 114 = .ok (.iconst (-1), 1) := by decide +kernel
theorem dX7_firstOpen_115 : decode cX7_firstOpen 115 = .ok (.ireturn, 1) := by decide +kernel
set_option maxRecDepth 20000 in
theorem ggX7_lastOpen_X7_isNeverOpen : GoodIn wsX7_lastOpen wsX7_isNeverOpen := goodIn_r _ [5, 6, 7, 8, 17, 18, 19, 20, 21, 22, 23, 24, 25, 26, 27, 28] (by decide +kernel) (by decide +kernel)
set_option maxRecDepth 20000 in
theorem gX7_lastOpen_X7_isNeverOpen : GoodIn wsX7_lastOpen (wsV RX7 152 RX7 yX7_isNeverOpen wsX7_isNeverOpen) := goodIn_app (goodIn_of _ (by decide +kernel)) ggX7_lastOpen_X7_isNeverOpen
set_option maxRecDepth 20000 in
theorem ggX7_lastOpen_X7_openHours : GoodIn wsX7_lastOpen wsX7_openHours := goodIn_r _ [12, 6, 13, 14, 15, 16, 8, 7, 17, 18, 19, 20, 21, 22, 23, 24, 25, 26, 27, 28] (by decide +kernel) (by decide +kernel)
set_option maxRecDepth 20000 in
theorem gX7_lastOpen_X7_openHours : GoodIn wsX7_lastOpen (wsV RX7 148 RX7 yX7_openHours wsX7_openHours) := goodIn_app (goodIn_of _ (by decide +kernel)) ggX7_lastOpen_X7_openHours
theorem dX7_lastOpen_0 : decode cX7_lastOpen 0 = .ok (.iload 4, 2) := by decide +kernel
theorem dX7_lastOpen_2 : decode cX7_lastOpen 2 = .ok (.iload_n 3, 1) := by decide +kernel
theorem dX7_lastOpen_3 : decode cX7_lastOpen 3 = .ok (.if_icmp .lt 12, 3) := by decide +kernel
theorem dX7_lastOpen_6 : decode cX7_lastOpen 6 = .ok (.aload_n 0, 1) := by decide +kernel
theorem dX7_lastOpen_7 : decode cX7_lastOpen 7 = .ok (.iload_n 1, 1) := by decide +kernel
theorem dX7_lastOpen_8 : decode cX7_lastOpen 8 = .ok (.iload_n 2, 1) := by decide +kernel
theorem dX7_lastOpen_9 : decode cX7_lastOpen 9 = .ok (.invokevirtual 152, 3) := by decide +kernel
theorem dX7_lastOpen_12 : decode cX7_lastOpen 12 = .ok (.ifCond .eq 5, 3) := by decide +kernel
theorem dX7_lastOpen_15 : decode cX7_lastOpen 15 = .ok (.iconst (-1), 1) := by decide +kernel
theorem dX7_lastOpen_16 : decode cX7_lastOpen 16 = .ok (.ireturn, 1) := by decide +kernel
theorem dX7_lastOpen_17 : decode cX7_lastOpen 17 = .ok (.iconst 2, 1) := by decide +kernel
theorem dX7_lastOpen_18 : decode cX7_lastOpen 18 = .ok (.iload 4, 2) := by decide +kernel
theorem dX7_lastOpen_20 : decode cX7_lastOpen 20 = .ok (.bipush 24, 2) := by decide +kernel
theorem dX7_lastOpen_22 : decode cX7_lastOpen 22 = .ok (.irem, 1) := by decide +kernel
theorem dX7_lastOpen_23 : decode cX7_lastOpen 23 = .ok (.ishl, 1) := by decide +kernel
theorem dX7_lastOpen_24 : decode cX7_lastOpen 24 = .ok (.iconst 1, 1) := by decide +kernel
theorem dX7_lastOpen_25 : decode cX7_lastOpen 25 = .ok (.isub, 1) := by decide +kernel
theorem dX7_lastOpen_26 : decode cX7_lastOpen 26 = .ok (.istore 5, 2) := by decide +kernel
theorem dX7_lastOpen_28 : decode cX7_lastOpen 28 = .ok (.iload 4, 2) := by decide +kernel
theorem dX7_lastOpen_30 : decode cX7_lastOpen 30 = .ok (.bipush 24, 2) := by decide +kernel
theorem dX7_lastOpen_32 : decode cX7_lastOpen 32 = .ok (.idiv, 1) := by decide +kernel
theorem dX7_lastOpen_33 : decode cX7_lastOpen 33 = .ok (.istore 6, 2) := by decide +kernel
theorem dX7_lastOpen_35 : decode cX7_lastOpen 35 = .ok (.iload 6, 2) := by decide +kernel
theorem dX7_lastOpen_37 : decode cX7_lastOpen 37 = .ok (.iload_n 3, 1) := by decide +kernel
theorem dX7_lastOpen_38 : decode cX7_lastOpen 38 = .ok (.bipush 24, 2) := by decide +kernel
theorem dX7_lastOpen_40 : decode cX7_lastOpen 40 = .ok (.idiv, 1) := by decide +kernel
theorem dX7_lastOpen_41 : decode cX7_lastOpen 41 = .ok (.if_icmp .lt 80, 3) := by decide +kernel
theorem dX7_lastOpen_44 : decode cX7_lastOpen 44 = .ok (.aload_n 0, 1) := by decide +kernel
theorem dX7_lastOpen_45 : decode cX7_lastOpen 45 = .ok (.iload_n 1, 1) := by decide +kernel
theorem dX7_lastOpen_46 : decode cX7_lastOpen 46 = .ok (.iload_n 2, 1) := by decide +kernel
theorem dX7_lastOpen_47 : decode cX7_lastOpen 47 = .ok (.iload 6, 2) := by decide +kernel
theorem dX7_lastOpen_49 : decode cX7_lastOpen 49 = .ok (.i2l, 1) := by decide +kernel
theorem dX7_lastOpen_50 : decode cX7_lastOpen 50 = .ok (.iconst 1, 1) := by decide +kernel
theorem dX7_lastOpen_51 : decode cX7_lastOpen 51 = .ok (.invokevirtual 148, 3) := by decide +kernel
theorem dX7_lastOpen_54 : decode cX7_lastOpen 54 = .ok (.iload 5, 2) := by decide +kernel
theorem dX7_lastOpen_56 : decode cX7_lastOpen 56 = .ok (.iand, 1) := by decide +kernel
theorem dX7_lastOpen_57 : decode cX7_lastOpen 57 = .ok (.istore 7, 2) := by decide +kernel
theorem dX7_lastOpen_59 : decode cX7_lastOpen 59 = .ok (.iconst (-1), 1) := by decide +kernel
theorem dX7_lastOpen_60 : decode cX7_lastOpen 60 = .ok (.istore 5, 2) := by decide +kernel
theorem dX7_lastOpen_62 : decode cX7_lastOpen 62 = .ok (.bipush 23, 2) := by decide +kernel
theorem dX7_lastOpen_64 : decode cX7_lastOpen 64 = .ok (.istore 8, 2) := by decide +kernel
theorem dX7_lastOpen_66 : decode cX7_lastOpen 66 = .ok (.iload 7, 2) := by decide +kernel
theorem dX7_lastOpen_68 : decode cX7_lastOpen 68 = .ok (.ifCond .eq 47, 3) := by decide +kernel
theorem dX7_lastOpen_71 : decode cX7_lastOpen 71 = .ok (.iload 8, 2) := by decide +kernel
theorem dX7_lastOpen_73 : decode cX7_lastOpen 73 = .ok (.ifCond .lt 42, 3) := by decide +kernel
theorem dX7_lastOpen_76 : decode cX7_lastOpen 76 = .ok (.iload 7, 2) := by decide +kernel
theorem dX7_lastOpen_78 : decode cX7_lastOpen 78 = .ok (.iload 8, 2) := by decide +kernel
theorem dX7_lastOpen_80 : decode cX7_lastOpen 80 = .ok (.ishr, 1) := by decide +kernel
theorem dX7_lastOpen_81 : decode cX7_lastOpen 81 = .ok (.iconst 1, 1) := by decide +kernel
theorem dX7_lastOpen_82 : decode cX7_lastOpen 82 = .ok (.iand, 1) := by decide +kernel
theorem dX7_lastOpen_83 : decode cX7_lastOpen 83 = .ok (.ifCond .eq 26, 3) := by decide +kernel
theorem dX7_lastOpen_86 : decode cX7_lastOpen 86 = .ok (.iload 6, 2) := by decide +kernel
theorem dX7_lastOpen_88 : decode cX7_lastOpen 88 = .ok (.bipush 24, 2) := by decide +kernel
theorem dX7_lastOpen_90 : decode cX7_lastOpen 90 = .ok (.imul, 1) := by decide +kernel
theorem dX7_lastOpen_91 : decode cX7_lastOpen 91 = .ok (.iload 8, 2) := by decide +kernel
theorem dX7_lastOpen_93 : decode cX7_lastOpen 93 = .ok (.iadd, 1) := by decide +kernel
theorem dX7_lastOpen_94 : decode cX7_lastOpen 94 = .ok (.istore 9, 2) := by decide +kernel
theorem dX7_lastOpen_96 : decode cX7_lastOpen 96 = .ok (.iload 9, 2) := by decide +kernel
theorem dX7_lastOpen_98 : decode cX7_lastOpen 98 = .ok (.iload_n 3, 1) := by decide +kernel
theorem dX7_lastOpen_99 : decode cX7_lastOpen 99 = .ok (.if_icmp .lt 8, 3) := by decide +kernel
theorem dX7_lastOpen_102 : decode cX7_lastOpen 102 = .ok (.iload 9, 2) := by decide +kernel
theorem dX7_lastOpen_104 : decode cX7_lastOpen 104 = .ok (.goto 4, 3) := by decide +kernel
theorem dX7_lastOpen_107 : decode cX7_lastOpen 107 = .ok (.iconst (-1), 1) := by decide +kernel
theorem dX7_lastOpen_108 : decode cX7_lastOpen 108 = .ok (.ireturn, 1) := by decide +kernel
theorem dX7_lastOpen_109 : decode cX7_lastOpen 109 = .ok (.iinc 8 (-1), 3) := by decide +kernel
theorem dX7_lastOpen_112 : decode cX7_lastOpen 112 = .ok (.goto (-46), 3) := by decide +kernel
theorem dX7_lastOpen_115 : decode cX7_lastOpen 115 = .ok (.iinc 6 (-1), 3) := by decide +kernel
theorem dX7_lastOpen_118 : decode cX7_lastOpen 118 = .ok (.goto (-83), 3) := by decide +kernel
theorem dX7_lastOpen_121 : decode cX7_lastOpen 121 = .ok (.iconst (-1), 1) := by decide +kernel
theorem dX7_lastOpen_122 : decode cX7_lastOpen 122 = .ok (.ireturn, 1) := by decide +kernel
set_option maxRecDepth 20000 in
theorem ggX7_daysWith_X7_signOn : GoodIn wsX7_daysWith wsX7_signOn := goodIn_r _ [5, 6, 7, 8, 9, 10, 11, 12, 13, 14, 15, 16, 17, 18] (by decide +kernel) (by decide +kernel)
set_option maxRecDepth 20000 in
theorem gX7_daysWith_X7_signOn : GoodIn wsX7_daysWith (wsV RX7 155 RX7 yX7_signOn wsX7_signOn) := goodIn_app (goodIn_of _ (by decide +kernel)) ggX7_daysWith_X7_signOn
theorem dX7_daysWith_0 : decode cX7_daysWith 0 = .ok (.iconst 0, 1) := by decide +kernel
theorem dX7_daysWith_1 : decode cX7_daysWith 1 = .ok (.istore_n 3, 1) := by decide +kernel
theorem dX7_daysWith_2 : decode cX7_daysWith 2 = .ok (.iconst 0, 1) := by decide +kernel
theorem dX7_daysWith_3 : decode cX7_daysWith 3 = .ok (.istore 4, 2) := by decide +kernel
theorem dX7_daysWith_5 : decode cX7_daysWith 5 = .ok (.iload 4, 2) := by decide +kernel
theorem dX7_daysWith_7 : decode cX7_daysWith 7 = .ok (.bipush 7, 2) := by decide +kernel
theorem dX7_daysWith_9 : decode cX7_daysWith 9 = .ok (.if_icmp .ge 23, 3) := by decide +kernel
theorem dX7_daysWith_12 : decode cX7_daysWith 12 = .ok (.aload_n 0, 1) := by decide +kernel
theorem dX7_daysWith_13 : decode cX7_daysWith 13 = .ok (.iload_n 1, 1) := by decide +kernel
theorem dX7_daysWith_14 : decode cX7_daysWith 14 = .ok (.iload 4, 2) := by decide +kernel
theorem dX7_daysWith_16 : decode cX7_daysWith 16 = .ok (.invokevirtual 155, 3) := by decide +kernel
theorem dX7_daysWith_19 : decode cX7_daysWith 19 = .ok (.iload_n 2, 1) := by decide +kernel
theorem dX7_daysWith_20 : decode cX7_daysWith 20 = .ok (.if_icmp .ne 6, 3) := by decide +kernel
theorem dX7_daysWith_23 : decode cX7_daysWith 23 = .ok (.iinc 3 1, 3) := by decide +kernel
theorem dX7_daysWith_26 : decode cX7_daysWith 26 = .ok (.iinc 4 1, 3) := by decide +kernel
theorem dX7_daysWith_29 : decode cX7_daysWith 29 = .ok (.goto (-24), 3) := by decide +kernel
theorem dX7_daysWith_32 : decode cX7_daysWith 32 = .ok (.iload_n 3, 1) := by decide +kernel
theorem dX7_daysWith_33 : decode cX7_daysWith 33 = .ok (.ireturn, 1) := by decide +kernel
set_option maxRecDepth 20000 in
theorem ggX7_commonSign_X7_daysWith : GoodIn wsX7_commonSign wsX7_daysWith := goodIn_r _ [5, 6, 7, 8, 4, 9, 10, 11, 12, 13, 14, 15, 16, 17, 18, 19, 20, 21, 22] (by decide +kernel) (by decide +kernel)
set_option maxRecDepth 20000 in
theorem gX7_commonSign_X7_daysWith : GoodIn wsX7_commonSign (wsV RX7 158 RX7 yX7_daysWith wsX7_daysWith) := goodIn_app (goodIn_of _ (by decide +kernel)) ggX7_commonSign_X7_daysWith
theorem dX7_commonSign_0 : decode cX7_commonSign 0 = .ok (.iconst 0, 1) := by decide +kernel
theorem dX7_commonSign_1 : decode cX7_commonSign 1 = .ok (.istore_n 2, 1) := by decide +kernel
theorem dX7_commonSign_2 : decode cX7_commonSign 2 = .ok (.iconst 1, 1) := by decide +kernel
theorem dX7_commonSign_3 : decode cX7_commonSign 3 = .ok (.istore_n 3, 1) := by decide +kernel
theorem dX7_commonSign_4 : decode cX7_commonSign 4 = .ok (.iload_n 3, 1) := by decide +kernel
theorem dX7_commonSign_5 : decode cX7_commonSign 5 = .ok (.iconst 3, 1) := by decide +kernel
theorem dX7_commonSign_6 : decode cX7_commonSign 6 = .ok (.if_icmp .gt 26, 3) := by decide +kernel
theorem dX7_commonSign_9 : decode cX7_commonSign 9 = .ok (.aload_n 0, 1) := by decide +kernel
theorem dX7_commonSign_10 : decode cX7_commonSign 10 = .ok (.iload_n 1, 1) := by decide +kernel
theorem dX7_commonSign_11 : decode cX7_commonSign 11 = .ok (.iload_n 3, 1) := by decide +kernel
theorem dX7_commonSign_12 : decode cX7_commonSign 12 = .ok (.invokevirtual 158, 3) := by decide +kernel
theorem dX7_commonSign_15 : decode cX7_commonSign 15 = .ok (.aload_n 0, 1) := by decide +kernel
theorem dX7_commonSign_16 : decode cX7_commonSign 16 = .ok (.iload_n 1, 1) := by decide +kernel
theorem dX7_commonSign_17 : decode cX7_commonSign 17 = .ok (.iload_n 2, 1) := by decide +kernel
theorem dX7_commonSign_18 : decode cX7_commonSign 18 = .ok (.invokevirtual 158, 3) := by decide +kernel
theorem dX7_commonSign_21 : decode cX7_commonSign 21 = .ok (.if_icmp .le 5, 3) := by decide +kernel
theorem dX7_commonSign_24 : decode cX7_commonSign 24 = .ok (.iload_n 3, 1) := by decide +kernel
theorem dX7_commonSign_25 : decode cX7_commonSign 25 = .ok (.istore_n 2, 1) := by decide +kernel
theorem dX7_commonSign_26 : decode cX7_commonSign 26 = .ok (.iinc 3 1, 3) := by decide +kernel
theorem dX7_commonSign_29 : decode cX7_commonSign 29 = .ok (.goto (-25), 3) := by decide +kernel
theorem dX7_commonSign_32 : decode cX7_commonSign 32 = .ok (.iload_n 2, 1) := by decide +kernel
theorem dX7_commonSign_33 : decode cX7_commonSign 33 = .ok (.ireturn, 1) := by decide +kernel
set_option maxRecDepth 20000 in
theorem ggX7_commonSignWrong_X7_commonSign : GoodIn wsX7_commonSignWrong wsX7_commonSign := goodIn_r _ [5, 6, 7, 8, 4, 9, 10, 11, 12, 13, 14, 15, 16, 17, 18, 19, 20, 21, 22, 23, 24, 25, 26] (by decide +kernel) (by decide +kernel)
set_option maxRecDepth 20000 in
theorem gX7_commonSignWrong_X7_commonSign : GoodIn wsX7_commonSignWrong (wsV RX7 161 RX7 yX7_commonSign wsX7_commonSign) := goodIn_app (goodIn_of _ (by decide +kernel)) ggX7_commonSignWrong_X7_commonSign
set_option maxRecDepth 20000 in
theorem ggX7_commonSignWrong_X7_daysWith : GoodIn wsX7_commonSignWrong wsX7_daysWith := goodIn_r _ [9, 10, 11, 12, 4, 13, 14, 15, 16, 17, 18, 19, 20, 21, 22, 23, 24, 25, 26] (by decide +kernel) (by decide +kernel)
set_option maxRecDepth 20000 in
theorem gX7_commonSignWrong_X7_daysWith : GoodIn wsX7_commonSignWrong (wsV RX7 158 RX7 yX7_daysWith wsX7_daysWith) := goodIn_app (goodIn_of _ (by decide +kernel)) ggX7_commonSignWrong_X7_daysWith
set_option maxRecDepth 20000 in
theorem ggX7_commonSignWrong_X7_signOn : GoodIn wsX7_commonSignWrong wsX7_signOn := goodIn_r _ [13, 14, 15, 16, 17, 18, 19, 20, 21, 22, 23, 24, 25, 26] (by decide +kernel) (by decide +kernel)
set_option maxRecDepth 20000 in
theorem gX7_commonSignWrong_X7_signOn : GoodIn wsX7_commonSignWrong (wsV RX7 155 RX7 yX7_signOn wsX7_signOn) := goodIn_app (goodIn_of _ (by decide +kernel)) ggX7_commonSignWrong_X7_signOn
theorem dX7_commonSignWrong_0 : decode cX7_commonSignWrong 0 = .ok (.aload_n 0, 1) := by decide +kernel
theorem dX7_commonSignWrong_1 : decode cX7_commonSignWrong 1 = .ok (.iload_n 1, 1) := by decide +kernel
theorem dX7_commonSignWrong_2 : decode cX7_commonSignWrong 2 = .ok (.invokevirtual 161, 3) := by decide +kernel
theorem dX7_commonSignWrong_5 : decode cX7_commonSignWrong 5 = .ok (.istore_n 3, 1) := by decide +kernel
theorem dX7_commonSignWrong_6 : decode cX7_commonSignWrong 6 = .ok (.iload_n 2, 1) := by decide +kernel
theorem dX7_commonSignWrong_7 : decode cX7_commonSignWrong 7 = .ok (.bipush 7, 2) := by decide +kernel
theorem dX7_commonSignWrong_9 : decode cX7_commonSignWrong 9 = .ok (.if_icmp .ne 13, 3) := by decide +kernel
theorem dX7_commonSignWrong_12 : decode cX7_commonSignWrong 12 = .ok (.bipush 7, 2) := by decide +kernel
theorem dX7_commonSignWrong_14 : decode cX7_commonSignWrong 14 = .ok (.aload_n 0, 1) := by decide +kernel
theorem dX7_commonSignWrong_15 : decode cX7_commonSignWrong 15 = .ok (.iload_n 1, 1) := by decide +kernel
theorem dX7_commonSignWrong_16 : decode cX7_commonSignWrong 16 = .ok (.iload_n 3, 1) := by decide +kernel
theorem dX7_commonSignWrong_17 : decode cX7_commonSignWrong 17 = .ok (.invokevirtual 158, 3) := by decide +kernel
theorem dX7_commonSignWrong_20 : decode cX7_commonSignWrong 20 = .ok (.isub, 1) := by decide +kernel
theorem dX7_commonSignWrong_21 : decode cX7_commonSignWrong 21 = .ok (.ireturn, 1) := by decide +kernel
theorem dX7_commonSignWrong_22 : decode cX7_commonSignWrong 22 = .ok (.aload_n 0, 1) := by decide +kernel
theorem dX7_commonSignWrong_23 : decode cX7_commonSignWrong 23 = .ok (.iload_n 1, 1) := by decide +kernel
theorem dX7_commonSignWrong_24 : decode cX7_commonSignWrong 24 = .ok (.iload_n 2, 1) := by decide +kernel
theorem dX7_commonSignWrong_25 : decode cX7_commonSignWrong 25 = .ok (.invokevirtual 155, 3) := by decide +kernel
theorem dX7_commonSignWrong_28 : decode cX7_commonSignWrong 28 = .ok (.iload_n 3, 1) := by decide +kernel
theorem dX7_commonSignWrong_29 : decode cX7_commonSignWrong 29 = .ok (.if_icmp .ne 7, 3) := by decide +kernel
theorem dX7_commonSignWrong_32 : decode cX7_commonSignWrong 32 = .ok (.iconst 0, 1) := by decide +kernel
theorem dX7_commonSignWrong_33 : decode cX7_commonSignWrong 33 = .ok (.goto 4, 3) := by decide +kernel
theorem dX7_commonSignWrong_36 : decode cX7_commonSignWrong 36 = .ok (.iconst 1, 1) := by decide +kernel
theorem dX7_commonSignWrong_37 : decode cX7_commonSignWrong 37 = .ok (.ireturn, 1) := by decide +kernel
set_option maxRecDepth 20000 in
theorem ggX8_init_X9_init : GoodIn wsX8_init wsX9_init := goodIn_r _ [16, 17, 2, 3] (by decide +kernel) (by decide +kernel)
set_option maxRecDepth 20000 in
theorem gX8_init_X9_init : GoodIn wsX8_init (wsX9_init) := ggX8_init_X9_init
theorem dX8_init_0 : decode cX8_init 0 = .ok (.aload_n 0, 1) := by decide +kernel
theorem dX8_init_1 : decode cX8_init 1 = .ok (.invokespecial 3, 3) := by decide +kernel
theorem dX8_init_4 : decode cX8_init 4 = .ok (.aload_n 0, 1) := by decide +kernel
theorem dX8_init_5 : decode cX8_init 5 = .ok (.new 9, 3) := by decide +kernel
theorem dX8_init_8 : decode cX8_init 8 = .ok (.dup, 1) := by decide +kernel
theorem dX8_init_9 : decode cX8_init 9 = .ok (.invokespecial 11, 3) := by decide +kernel
theorem dX8_init_12 : decode cX8_init 12 = .ok (.putfield 12, 3) := by decide +kernel
theorem dX8_init_15 : decode cX8_init 15 = .ok (.aload_n 0, 1) := by decide +kernel
theorem dX8_init_16 : decode cX8_init 16 = .ok (.sipush 301, 3) := by decide +kernel
theorem dX8_init_19 : decode cX8_init 19 = .ok (.newarray .int, 2) := by decide +kernel
theorem dX8_init_21 : decode cX8_init 21 = .ok (.putfield 18, 3) := by decide +kernel
theorem dX8_init_24 : decode cX8_init 24 = .ok (.aload_n 0, 1) := by decide +kernel
theorem dX8_init_25 : decode cX8_init 25 = .ok (.sipush 2420, 3) := by decide +kernel
theorem dX8_init_28 : decode cX8_init 28 = .ok (.newarray .int, 2) := by decide +kernel
theorem dX8_init_30 : decode cX8_init 30 = .ok (.putfield 22, 3) := by decide +kernel
theorem dX8_init_33 : decode cX8_init 33 = .ok (.aload_n 0, 1) := by decide +kernel
theorem dX8_init_34 : decode cX8_init 34 = .ok (.aload_n 1, 1) := by decide +kernel
theorem dX8_init_35 : decode cX8_init 35 = .ok (.putfield 25, 3) := by decide +kernel
theorem dX8_init_38 : decode cX8_init 38 = .ok (.aload_n 0, 1) := by decide +kernel
theorem dX8_init_39 : decode cX8_init 39 = .ok (.aload_n 2, 1) := by decide +kernel
theorem dX8_init_40 : decode cX8_init 40 = .ok (.putfield 29, 3) := by decide +kernel
theorem dX8_init_43 : decode cX8_init 43 = .ok (.aload_n 0, 1) := by decide +kernel
theorem dX8_init_44 : decode cX8_init 44 = .ok (.aload_n 3, 1) := by decide +kernel
theorem dX8_init_45 : decode cX8_init 45 = .ok (.putfield 33, 3) := by decide +kernel
theorem dX8_init_48 : decode cX8_init 48 = .ok (.return_, 1) := by decide +kernel
set_option maxRecDepth 20000 in
theorem ggX8_tellComing_X9_copyFrom : GoodIn wsX8_tellComing wsX9_copyFrom := goodIn_r _ [9, 10, 11, 12, 13, 14, 15, 16, 17, 18, 19, 20, 21, 8, 22, 23, 192, 193, 194, 195, 196, 197, 198, 199, 200] (by decide +kernel) (by decide +kernel)
set_option maxRecDepth 20000 in
theorem gX8_tellComing_X9_copyFrom : GoodIn wsX8_tellComing (wsV RX8 37 RX9 yX9_copyFrom wsX9_copyFrom) := goodIn_app (goodIn_of _ (by decide +kernel)) ggX8_tellComing_X9_copyFrom
set_option maxRecDepth 20000 in
theorem ggX8_tellComing_X1_takeSteps : GoodIn wsX8_tellComing wsX1_takeSteps := goodIn_r _ [28, 29, 30, 31, 27, 32, 33, 34, 35, 36, 37, 38, 39, 40, 41, 42, 43, 44, 45, 8, 46, 10, 11, 47, 48, 49, 50, 51, 52, 53, 54, 55, 56, 57, 58, 59, 60, 61, 62, 63, 64, 65, 66, 67, 18, 68, 69, 70, 71, 14, 72, 73, 74, 75, 76, 77, 78, 79, 80, 81, 82, 83, 84, 85, 86, 87, 88, 89, 90, 91, 92, 93, 94, 95, 96, 97, 98, 99, 100, 101, 102, 103, 104, 105, 106, 107, 108, 109, 110, 111, 112, 113, 114, 115, 116, 117, 118, 119, 120, 121, 122, 123, 124, 125, 126, 127, 128, 129, 130, 131, 132, 133, 134, 135, 136, 137, 138, 139, 140, 141, 142, 143, 144, 145, 146, 147, 148, 149, 150, 151, 152, 153, 154, 155, 156, 157, 158, 159, 160, 161, 162, 163, 164, 165, 166, 167, 168, 169, 170, 171, 172, 173, 174, 175, 176, 177, 178, 179, 180, 181, 182, 192, 193, 194, 195, 196, 197, 198, 199, 200, 201, 202, 203, 204, 205, 206, 207, 208, 209, 210, 211, 212, 213, 214, 215, 216, 217, 218, 219, 220, 221, 222, 223, 224, 225, 226, 227, 228, 229, 230, 231, 232, 233, 234, 235, 236, 237, 238, 239, 240, 241, 242, 243, 244, 245, 246] (by decide +kernel) (by decide +kernel)
set_option maxRecDepth 20000 in
theorem gX8_tellComing_X1_takeSteps : GoodIn wsX8_tellComing (wsV RX8 41 RX1 yX1_takeSteps wsX1_takeSteps) := goodIn_app (goodIn_of _ (by decide +kernel)) ggX8_tellComing_X1_takeSteps
set_option maxRecDepth 20000 in
theorem ggX8_tellComing_X9_isAtGoal : GoodIn wsX8_tellComing wsX9_isAtGoal := goodIn_r _ [46, 10, 11, 192, 193, 194, 195, 196, 197, 198, 199, 200] (by decide +kernel) (by decide +kernel)
set_option maxRecDepth 20000 in
theorem gX8_tellComing_X9_isAtGoal : GoodIn wsX8_tellComing (wsV RX8 47 RX9 yX9_isAtGoal wsX9_isAtGoal) := goodIn_app (goodIn_of _ (by decide +kernel)) ggX8_tellComing_X9_isAtGoal
theorem dX8_tellComing_0 : decode cX8_tellComing 0 = .ok (.aload_n 0, 1) := by decide +kernel
theorem dX8_tellComing_1 : decode cX8_tellComing 1 = .ok (.getfield 12, 3) := by decide +kernel
theorem dX8_tellComing_4 : decode cX8_tellComing 4 = .ok (.aload_n 1, 1) := by decide +kernel
theorem dX8_tellComing_5 : decode cX8_tellComing 5 = .ok (.invokevirtual 37, 3) := by decide +kernel
theorem dX8_tellComing_8 : decode cX8_tellComing 8 = .ok (.aload_n 0, 1) := by decide +kernel
theorem dX8_tellComing_9 : decode cX8_tellComing 9 = .ok (.getfield 33, 3) := by decide +kernel
theorem dX8_tellComing_12 : decode cX8_tellComing 12 = .ok (.aload_n 0, 1) := by decide +kernel
theorem dX8_tellComing_13 : decode cX8_tellComing 13 = .ok (.getfield 12, 3) := by decide +kernel
theorem dX8_tellComing_16 : decode cX8_tellComing 16 = .ok (.iload_n 2, 1) := by decide +kernel
theorem dX8_tellComing_17 : decode cX8_tellComing 17 = .ok (.invokevirtual 41, 3) := by decide +kernel
theorem dX8_tellComing_20 : decode cX8_tellComing 20 = .ok (.istore 4, 2) := by decide +kernel
theorem dX8_tellComing_22 : decode cX8_tellComing 22 = .ok (.iload_n 3, 1) := by decide +kernel
theorem dX8_tellComing_23 : decode cX8_tellComing 23 = .ok (.ifCond .ne 27, 3) := by decide +kernel
theorem dX8_tellComing_26 : decode cX8_tellComing 26 = .ok (.aload_n 0, 1) := by decide +kernel
theorem dX8_tellComing_27 : decode cX8_tellComing 27 = .ok (.getfield 12, 3) := by decide +kernel
theorem dX8_tellComing_30 : decode cX8_tellComing 30 = .ok (.invokevirtual 47, 3) := by decide +kernel
theorem dX8_tellComing_33 : decode cX8_tellComing 33 = .ok (.ifCond .eq 14, 3) := by decide +kernel
theorem dX8_tellComing_36 : decode cX8_tellComing 36 = .ok (.aload_n 0, 1) := by decide +kernel
theorem dX8_tellComing_37 : decode cX8_tellComing 37 = .ok (.getfield 12, 3) := by decide +kernel
theorem dX8_tellComing_40 : decode cX8_tellComing 40 = .ok (.getfield 51, 3) := by decide +kernel
theorem dX8_tellComing_43 : decode cX8_tellComing 43 = .ok (.l2i, 1) := by decide +kernel
theorem dX8_tellComing_44 : decode cX8_tellComing 44 = .ok (.goto 5, 3) := by decide +kernel
theorem dX8_tellComing_47 : decode cX8_tellComing 47 = .ok (.bipush (-2), 2) := by decide +kernel
theorem dX8_tellComing_49 : decode cX8_tellComing 49 = .ok (.ireturn, 1) := by decide +kernel
theorem dX8_tellComing_50 : decode cX8_tellComing 50 = .ok (.iload_n 3, 1) := by decide +kernel
theorem dX8_tellComing_51 : decode cX8_tellComing 51 = .ok (.iconst 1, 1) := by decide +kernel
theorem dX8_tellComing_52 : decode cX8_tellComing 52 = .ok (.if_icmp .ne 8, 3) := by decide +kernel
theorem dX8_tellComing_55 : decode cX8_tellComing 55 = .ok (.iload 4, 2) := by decide +kernel
theorem dX8_tellComing_57 : decode cX8_tellComing 57 = .ok (.goto 15, 3) := by decide +kernel
theorem dX8_tellComing_60 : decode cX8_tellComing 60 = .ok (.aload_n 0, 1) := by decide +kernel
theorem dX8_tellComing_61 : decode cX8_tellComing 61 = .ok (.getfield 12, 3) := by decide +kernel
theorem dX8_tellComing_64 : decode cX8_tellComing 64 = .ok (.getfield 55, 3) := by decide +kernel
theorem dX8_tellComing_67 : decode cX8_tellComing 67 = .ok (.aload_n 1, 1) := by decide +kernel
theorem dX8_tellComing_68 : decode cX8_tellComing 68 = .ok (.getfield 55, 3) := by decide +kernel
theorem dX8_tellComing_71 : decode cX8_tellComing 71 = .ok (.isub, 1) := by decide +kernel
theorem dX8_tellComing_72 : decode cX8_tellComing 72 = .ok (.ireturn, 1) := by decide +kernel
set_option maxRecDepth 20000 in
theorem ggX8_tellCircle_X9_copyFrom : GoodIn wsX8_tellCircle wsX9_copyFrom := goodIn_r _ [8, 9, 10, 11, 12, 13, 14, 15, 16, 17, 18, 19, 20, 7, 21, 22, 211, 212, 213, 214, 215, 216, 217, 218, 219] (by decide +kernel) (by decide +kernel)
set_option maxRecDepth 20000 in
theorem gX8_tellCircle_X9_copyFrom : GoodIn wsX8_tellCircle (wsV RX8 37 RX9 yX9_copyFrom wsX9_copyFrom) := goodIn_app (goodIn_of _ (by decide +kernel)) ggX8_tellCircle_X9_copyFrom
set_option maxRecDepth 20000 in
theorem ggX8_tellCircle_X8_findCircle : GoodIn wsX8_tellCircle wsX8_findCircle := goodIn_r _ [27, 28, 2, 1, 29, 30, 31, 26, 32, 33, 34, 35, 36, 37, 38, 39, 40, 41, 42, 43, 44, 45, 46, 47, 48, 49, 50, 51, 52, 53, 54, 7, 55, 9, 10, 56, 57, 58, 59, 60, 61, 62, 63, 64, 65, 66, 67, 68, 69, 70, 71, 72, 73, 74, 75, 76, 17, 77, 78, 79, 80, 13, 81, 82, 83, 84, 85, 86, 87, 88, 89, 90, 91, 92, 93, 94, 95, 96, 97, 98, 99, 100, 101, 102, 103, 104, 105, 106, 107, 108, 109, 110, 111, 112, 113, 114, 115, 116, 117, 118, 119, 120, 121, 122, 123, 124, 125, 126, 127, 128, 129, 130, 131, 132, 133, 134, 135, 136, 137, 138, 139, 140, 141, 142, 143, 144, 145, 146, 147, 148, 149, 150, 151, 152, 153, 154, 155, 156, 157, 158, 159, 160, 161, 162, 163, 164, 165, 166, 167, 168, 169, 170, 171, 172, 173, 174, 175, 176, 177, 178, 179, 180, 181, 182, 183, 184, 185, 186, 187, 188, 189, 190, 191, 192, 193, 194, 195, 196, 197, 198, 199, 200, 211, 212, 213, 214, 215, 216, 217, 218, 219, 201, 202, 203, 204, 205, 206, 207, 208, 209, 210, 220, 221, 222, 223, 224, 225, 226, 227, 228, 229, 230, 231, 232, 233, 234, 235, 236, 237, 238, 239, 240, 241, 242, 243, 244, 245, 246, 247, 248, 249, 250, 251, 252, 253, 254, 255] (by decide +kernel) (by decide +kernel)
set_option maxRecDepth 20000 in
theorem gX8_tellCircle_X8_findCircle : GoodIn wsX8_tellCircle (wsV RX8 63 RX8 yX8_findCircle wsX8_findCircle) := goodIn_app (goodIn_of _ (by decide +kernel)) ggX8_tellCircle_X8_findCircle
theorem dX8_tellCircle_0 : decode cX8_tellCircle 0 = .ok (.aload_n 0, 1) := by decide +kernel
theorem dX8_tellCircle_1 : decode cX8_tellCircle 1 = .ok (.getfield 12, 3) := by decide +kernel
theorem dX8_tellCircle_4 : decode cX8_tellCircle 4 = .ok (.aload_n 1, 1) := by decide +kernel
theorem dX8_tellCircle_5 : decode cX8_tellCircle 5 = .ok (.invokevirtual 37, 3) := by decide +kernel
theorem dX8_tellCircle_8 : decode cX8_tellCircle 8 = .ok (.aload_n 0, 1) := by decide +kernel
theorem dX8_tellCircle_9 : decode cX8_tellCircle 9 = .ok (.getfield 33, 3) := by decide +kernel
theorem dX8_tellCircle_12 : decode cX8_tellCircle 12 = .ok (.iconst 1, 1) := by decide +kernel
theorem dX8_tellCircle_13 : decode cX8_tellCircle 13 = .ok (.putfield 59, 3) := by decide +kernel
theorem dX8_tellCircle_16 : decode cX8_tellCircle 16 = .ok (.aload_n 0, 1) := by decide +kernel
theorem dX8_tellCircle_17 : decode cX8_tellCircle 17 = .ok (.iload_n 2, 1) := by decide +kernel
theorem dX8_tellCircle_18 : decode cX8_tellCircle 18 = .ok (.invokevirtual 63, 3) := by decide +kernel
theorem dX8_tellCircle_21 : decode cX8_tellCircle 21 = .ok (.istore_n 3, 1) := by decide +kernel
theorem dX8_tellCircle_22 : decode cX8_tellCircle 22 = .ok (.aload_n 0, 1) := by decide +kernel
theorem dX8_tellCircle_23 : decode cX8_tellCircle 23 = .ok (.getfield 33, 3) := by decide +kernel
theorem dX8_tellCircle_26 : decode cX8_tellCircle 26 = .ok (.iconst 0, 1) := by decide +kernel
theorem dX8_tellCircle_27 : decode cX8_tellCircle 27 = .ok (.putfield 59, 3) := by decide +kernel
theorem dX8_tellCircle_30 : decode cX8_tellCircle 30 = .ok (.iload_n 3, 1) := by decide +kernel
theorem dX8_tellCircle_31 : decode cX8_tellCircle 31 = .ok (.ireturn, 1) := by decide +kernel
set_option maxRecDepth 20000 in
theorem ggX8_findCircle_X8_ghostKey : GoodIn wsX8_findCircle wsX8_ghostKey := goodIn_r _ [8, 3, 9, 10, 11, 12, 174, 175, 176, 177, 178, 179, 180, 181, 182, 183, 184, 185, 186, 187, 188, 189, 190] (by decide +kernel) (by decide +kernel)
set_option maxRecDepth 20000 in
theorem gX8_findCircle_X8_ghostKey : GoodIn wsX8_findCircle (wsV RX8 67 RX8 yX8_ghostKey wsX8_ghostKey) := goodIn_app (goodIn_of _ (by decide +kernel)) ggX8_findCircle_X8_ghostKey
set_option maxRecDepth 20000 in
theorem ggX8_findCircle_X1_takeStep : GoodIn wsX8_findCircle wsX1_takeStep := goodIn_r _ [17, 18, 19, 20, 21, 22, 23, 24, 25, 26, 27, 28, 29, 30, 31, 32, 33, 34, 35, 36, 37, 16, 38, 39, 40, 41, 42, 43, 44, 45, 46, 47, 48, 49, 50, 51, 52, 53, 54, 55, 56, 57, 58, 59, 60, 61, 62, 63, 64, 65, 66, 67, 68, 69, 70, 71, 72, 73, 74, 75, 76, 77, 78, 79, 80, 81, 82, 83, 84, 85, 86, 87, 88, 89, 90, 91, 92, 93, 94, 95, 96, 97, 98, 99, 100, 101, 102, 103, 104, 105, 106, 107, 108, 109, 110, 111, 112, 113, 114, 115, 116, 117, 118, 119, 120, 121, 122, 123, 124, 125, 126, 127, 128, 129, 130, 131, 132, 133, 134, 135, 136, 137, 138, 139, 140, 141, 142, 143, 144, 145, 146, 147, 148, 149, 150, 151, 152, 153, 154, 155, 156, 157, 158, 159, 160, 161, 162, 163, 164, 165, 166, 167, 168, 169, 170, 171, 172, 182, 183, 184, 185, 186, 187, 188, 189, 190, 191, 192, 193, 194, 195, 196, 197, 198, 199, 200, 201, 202, 203, 204, 205, 206, 207, 208, 209, 210, 211, 212, 213, 214, 215, 216, 217, 218, 219, 220, 221, 222, 223, 224, 225, 226, 227, 228, 229, 230, 231, 232, 233, 234, 235, 236] (by decide +kernel) (by decide +kernel)
set_option maxRecDepth 20000 in
theorem gX8_findCircle_X1_takeStep : GoodIn wsX8_findCircle (wsV RX8 71 RX1 yX1_takeStep wsX1_takeStep) := goodIn_app (goodIn_of _ (by decide +kernel)) ggX8_findCircle_X1_takeStep
set_option maxRecDepth 20000 in
theorem ggX8_findCircle_X9_isAtGoal : GoodIn wsX8_findCircle wsX9_isAtGoal := goodIn_r _ [32, 33, 34, 182, 183, 184, 185, 186, 187, 188, 189, 190] (by decide +kernel) (by decide +kernel)
set_option maxRecDepth 20000 in
theorem gX8_findCircle_X9_isAtGoal : GoodIn wsX8_findCircle (wsV RX8 47 RX9 yX9_isAtGoal wsX9_isAtGoal) := goodIn_app (goodIn_of _ (by decide +kernel)) ggX8_findCircle_X9_isAtGoal
theorem dX8_findCircle_0 : decode cX8_findCircle 0 = .ok (.aload_n 0, 1) := by decide +kernel
theorem dX8_findCircle_1 : decode cX8_findCircle 1 = .ok (.getfield 18, 3) := by decide +kernel
theorem dX8_findCircle_4 : decode cX8_findCircle 4 = .ok (.iconst 0, 1) := by decide +kernel
theorem dX8_findCircle_5 : decode cX8_findCircle 5 = .ok (.aload_n 0, 1) := by decide +kernel
theorem dX8_findCircle_6 : decode cX8_findCircle 6 = .ok (.invokevirtual 67, 3) := by decide +kernel
theorem dX8_findCircle_9 : decode cX8_findCircle 9 = .ok (.iastore, 1) := by decide +kernel
theorem dX8_findCircle_10 : decode cX8_findCircle 10 = .ok (.iconst 1, 1) := by decide +kernel
theorem dX8_findCircle_11 : decode cX8_findCircle 11 = .ok (.istore_n 2, 1) := by decide +kernel
theorem dX8_findCircle_12 : decode cX8_findCircle 12 = .ok (.iload_n 2, 1) := by decide +kernel
theorem dX8_findCircle_13 : decode cX8_findCircle 13 = .ok (.sipush 300, 3) := by decide +kernel
theorem dX8_findCircle_16 : decode cX8_findCircle 16 = .ok (.if_icmp .gt 84, 3) := by decide +kernel
theorem dX8_findCircle_19 : decode cX8_findCircle 19 = .ok (.aload_n 0, 1) := by decide +kernel
theorem dX8_findCircle_20 : decode cX8_findCircle 20 = .ok (.getfield 33, 3) := by decide +kernel
theorem dX8_findCircle_23 : decode cX8_findCircle 23 = .ok (.aload_n 0, 1) := by decide +kernel
theorem dX8_findCircle_24 : decode cX8_findCircle 24 = .ok (.getfield 12, 3) := by decide +kernel
theorem dX8_findCircle_27 : decode cX8_findCircle 27 = .ok (.invokevirtual 71, 3) := by decide +kernel
theorem dX8_findCircle_30 : decode cX8_findCircle 30 = .ok (.pop, 1) := by decide +kernel
theorem dX8_findCircle_31 : decode cX8_findCircle 31 = .ok (.aload_n 0, 1) := by decide +kernel
theorem dX8_findCircle_32 : decode cX8_findCircle 32 = .ok (.getfield 12, 3) := by decide +kernel
theorem dX8_findCircle_35 : decode cX8_findCircle 35 = .ok (.invokevirtual 47, 3) := by decide +kernel
theorem dX8_findCircle_38 : decode cX8_findCircle 38 = .ok (.ifCond .eq 6, 3) := by decide +kernel
theorem dX8_findCircle_41 : decode cX8_findCircle 41 = .ok (.bipush (-2), 2) := by decide +kernel
theorem dX8_findCircle_43 : decode cX8_findCircle 43 = .ok (.ireturn, 1) := by decide +kernel
theorem dX8_findCircle_44 : decode cX8_findCircle 44 = .ok (.aload_n 0, 1) := by decide +kernel
theorem dX8_findCircle_45 : decode cX8_findCircle 45 = .ok (.getfield 18, 3) := by decide +kernel
theorem dX8_findCircle_48 : decode cX8_findCircle 48 = .ok (.iload_n 2, 1) := by decide +kernel
theorem dX8_findCircle_49 : decode cX8_findCircle 49 = .ok (.aload_n 0, 1) := by decide +kernel
theorem dX8_findCircle_50 : decode cX8_findCircle 50 = .ok (.invokevirtual 67, 3) := by decide +kernel
theorem dX8_findCircle_53 : decode cX8_findCircle 53 = .ok (.iastore, 1) := by decide +kernel
theorem dX8_findCircle_54 : decode cX8_findCircle 54 = .ok (.iconst 0, 1) := by decide +kernel
theorem dX8_findCircle_55 : decode cX8_findCircle 55 = .ok (.istore_n 3, 1) := by decide +kernel
theorem dX8_findCircle_56 : decode cX8_findCircle 56 = .ok (.iload_n 3, 1) := by decide +kernel
theorem dX8_findCircle_57 : decode cX8_findCircle 57 = .ok (.iload_n 2, 1) := by decide +kernel
theorem dX8_findCircle_58 : decode cX8_findCircle 58 = .ok (.if_icmp .ge 36, 3) := by decide +kernel
theorem dX8_findCircle_61 : decode cX8_findCircle 61 = .ok (.aload_n 0, 1) := by decide +kernel
theorem dX8_findCircle_62 : decode cX8_findCircle 62 = .ok (.getfield 18, 3) := by decide +kernel
theorem dX8_findCircle_65 : decode cX8_findCircle 65 = .ok (.iload_n 3, 1) := by decide +kernel
theorem dX8_findCircle_66 : decode cX8_findCircle 66 = .ok (.iaload, 1) := by decide +kernel
theorem dX8_findCircle_67 : decode cX8_findCircle 67 = .ok (.aload_n 0, 1) := by decide +kernel
theorem dX8_findCircle_68 : decode cX8_findCircle 68 = .ok (.getfield 18, 3) := by decide +kernel
theorem dX8_findCircle_71 : decode cX8_findCircle 71 = .ok (.iload_n 2, 1) := by decide +kernel
theorem dX8_findCircle_72 : decode cX8_findCircle 72 = .ok (.iaload, 1) := by decide +kernel
theorem dX8_findCircle_73 : decode cX8_findCircle 73 = .ok (.if_icmp .ne 15, 3) := by decide +kernel
theorem dX8_findCircle_76 : decode cX8_findCircle 76 = .ok (.iload_n 1, 1) := by decide +kernel
theorem dX8_findCircle_77 : decode cX8_findCircle 77 = .ok (.ifCond .ne 7, 3) := by decide +kernel
theorem dX8_findCircle_80 : decode cX8_findCircle 80 = .ok (.iload_n 3, 1) := by decide +kernel
theorem dX8_findCircle_81 : decode cX8_findCircle 81 = .ok (.goto 6, 3) := by decide +kernel
theorem dX8_findCircle_84 : decode cX8_findCircle 84 = .ok (.iload_n 2, 1) := by decide +kernel
theorem dX8_findCircle_85 : decode cX8_findCircle 85 = .ok (.iload_n 3, 1) := by decide +kernel
theorem dX8_findCircle_86 : decode cX8_findCircle 86 = .ok (.isub, 1) := by decide +kernel
theorem dX8_findCircle_87 : decode cX8_findCircle 87 = .ok (.ireturn, 1) := by decide +kernel
theorem dX8_findCircle_88 : decode cX8_findCircle 88 = .ok (.iinc 3 1, 3) := by decide +kernel
theorem dX8_findCircle_91 : decode cX8_findCircle 91 = .ok (.goto (-35), 3) := by decide +kernel
theorem dX8_findCircle_94 : decode cX8_findCircle 94 = .ok (.iinc 2 1, 3) := by decide +kernel
theorem dX8_findCircle_97 : decode cX8_findCircle 97 = .ok (.goto (-85), 3) := by decide +kernel
theorem dX8_findCircle_100 : decode cX8_findCircle 100 = .ok (.bipush (-2), 2) := by decide +kernel
theorem dX8_findCircle_102 : decode cX8_findCircle 102 = .ok (.ireturn, 1) := by decide +kernel
theorem dX8_ghostKey_0 : decode cX8_ghostKey 0 = .ok (.aload_n 0, 1) := by decide +kernel
theorem dX8_ghostKey_1 : decode cX8_ghostKey 1 = .ok (.getfield 12, 3) := by decide +kernel
theorem dX8_ghostKey_4 : decode cX8_ghostKey 4 = .ok (.getfield 51, 3) := by decide +kernel
theorem dX8_ghostKey_7 : decode cX8_ghostKey 7 = .ok (.ldc2_w 75, 3) := by decide +kernel
theorem dX8_ghostKey_10 : decode cX8_ghostKey 10 = .ok (.lrem, 1) := by decide +kernel
theorem dX8_ghostKey_11 : decode cX8_ghostKey 11 = .ok (.l2i, 1) := by decide +kernel
theorem dX8_ghostKey_12 : decode cX8_ghostKey 12 = .ok (.istore_n 1, 1) := by decide +kernel
theorem dX8_ghostKey_13 : decode cX8_ghostKey 13 = .ok (.iload_n 1, 1) := by decide +kernel
theorem dX8_ghostKey_14 : decode cX8_ghostKey 14 = .ok (.bipush 10, 2) := by decide +kernel
theorem dX8_ghostKey_16 : decode cX8_ghostKey 16 = .ok (.imul, 1) := by decide +kernel
theorem dX8_ghostKey_17 : decode cX8_ghostKey 17 = .ok (.aload_n 0, 1) := by decide +kernel
theorem dX8_ghostKey_18 : decode cX8_ghostKey 18 = .ok (.getfield 12, 3) := by decide +kernel
theorem dX8_ghostKey_21 : decode cX8_ghostKey 21 = .ok (.getfield 77, 3) := by decide +kernel
theorem dX8_ghostKey_24 : decode cX8_ghostKey 24 = .ok (.iadd, 1) := by decide +kernel
theorem dX8_ghostKey_25 : decode cX8_ghostKey 25 = .ok (.bipush 11, 2) := by decide +kernel
theorem dX8_ghostKey_27 : decode cX8_ghostKey 27 = .ok (.imul, 1) := by decide +kernel
theorem dX8_ghostKey_28 : decode cX8_ghostKey 28 = .ok (.aload_n 0, 1) := by decide +kernel
theorem dX8_ghostKey_29 : decode cX8_ghostKey 29 = .ok (.getfield 12, 3) := by decide +kernel
theorem dX8_ghostKey_32 : decode cX8_ghostKey 32 = .ok (.getfield 80, 3) := by decide +kernel
theorem dX8_ghostKey_35 : decode cX8_ghostKey 35 = .ok (.iadd, 1) := by decide +kernel
theorem dX8_ghostKey_36 : decode cX8_ghostKey 36 = .ok (.iconst 1, 1) := by decide +kernel
theorem dX8_ghostKey_37 : decode cX8_ghostKey 37 = .ok (.iadd, 1) := by decide +kernel
theorem dX8_ghostKey_38 : decode cX8_ghostKey 38 = .ok (.ireturn, 1) := by decide +kernel
set_option maxRecDepth 20000 in
theorem ggX8_fewestQuestions_J7_fill_53178 : GoodIn wsX8_fewestQuestions wsJ7_fill_53178 := goodIn_r _ [12] (by decide +kernel) (by decide +kernel)
set_option maxRecDepth 20000 in
theorem gX8_fewestQuestions_J7_fill_53178 : GoodIn wsX8_fewestQuestions (va_wsS RX8 87 yJ7_fill_53178 wsJ7_fill_53178) := goodIn_app (goodIn_of _ (by decide +kernel)) ggX8_fewestQuestions_J7_fill_53178
set_option maxRecDepth 20000 in
theorem ggX8_fewestQuestions_X9_askedToday : GoodIn wsX8_fewestQuestions wsX9_askedToday := goodIn_r _ [17, 18, 19, 20, 21, 16, 22, 23, 24, 90, 91, 92, 93, 94, 95, 96, 97, 98] (by decide +kernel) (by decide +kernel)
set_option maxRecDepth 20000 in
theorem gX8_fewestQuestions_X9_askedToday : GoodIn wsX8_fewestQuestions (wsV RX8 93 RX9 yX9_askedToday wsX9_askedToday) := goodIn_app (goodIn_of _ (by decide +kernel)) ggX8_fewestQuestions_X9_askedToday
set_option maxRecDepth 20000 in
theorem ggX8_fewestQuestions_X8_spread : GoodIn wsX8_fewestQuestions wsX8_spread := goodIn_r _ [29, 30, 31, 32, 33, 8, 5, 6, 34, 35, 36, 37, 28, 38, 1, 2, 39, 40, 41, 42, 43, 44, 45, 46, 47, 48, 49, 50, 51, 52, 53, 54, 55, 56, 57, 58, 59, 60, 61, 62, 63, 64, 65, 66, 67, 68, 69, 70, 71, 72, 73, 74, 75, 76, 77, 78, 79, 80, 81, 90, 91, 92, 93, 94, 95, 96, 97, 98, 82, 83, 84, 85, 86, 87, 88, 89, 99, 100, 101, 102, 103, 104, 105, 106, 107, 108, 109, 110, 111, 112, 113, 114, 115, 116, 117, 118, 119, 120, 121, 122, 123, 124, 125, 126, 127, 128] (by decide +kernel) (by decide +kernel)
set_option maxRecDepth 20000 in
theorem gX8_fewestQuestions_X8_spread : GoodIn wsX8_fewestQuestions (wsV RX8 110 RX8 yX8_spread wsX8_spread) := goodIn_app (goodIn_of _ (by decide +kernel)) ggX8_fewestQuestions_X8_spread
theorem dX8_fewestQuestions_0 : decode cX8_fewestQuestions 0 = .ok (.aload_n 0, 1) := by decide +kernel
theorem dX8_fewestQuestions_1 : decode cX8_fewestQuestions 1 = .ok (.iload_n 2, 1) := by decide +kernel
theorem dX8_fewestQuestions_2 : decode cX8_fewestQuestions 2 = .ok (.putfield 83, 3) := by decide +kernel
theorem dX8_fewestQuestions_5 : decode cX8_fewestQuestions 5 = .ok (.aload_n 0, 1) := by decide +kernel
theorem dX8_fewestQuestions_6 : decode cX8_fewestQuestions 6 = .ok (.getfield 22, 3) := by decide +kernel
theorem dX8_fewestQuestions_9 : decode cX8_fewestQuestions 9 = .ok (.ldc 86, 2) := by decide +kernel
theorem dX8_fewestQuestions_11 : decode cX8_fewestQuestions 11 = .ok (.invokestatic 87, 3) := by decide +kernel
theorem dX8_fewestQuestions_14 : decode cX8_fewestQuestions 14 = .ok (.aload_n 0, 1) := by decide +kernel
theorem dX8_fewestQuestions_15 : decode cX8_fewestQuestions 15 = .ok (.getfield 22, 3) := by decide +kernel
theorem dX8_fewestQuestions_18 : decode cX8_fewestQuestions 18 = .ok (.iconst 2, 1) := by decide +kernel
theorem dX8_fewestQuestions_19 : decode cX8_fewestQuestions 19 = .ok (.aload_n 1, 1) := by decide +kernel
theorem dX8_fewestQuestions_20 : decode cX8_fewestQuestions 20 = .ok (.getfield 77, 3) := by decide +kernel
theorem dX8_fewestQuestions_23 : decode cX8_fewestQuestions 23 = .ok (.imul, 1) := by decide +kernel
theorem dX8_fewestQuestions_24 : decode cX8_fewestQuestions 24 = .ok (.aload_n 1, 1) := by decide +kernel
theorem dX8_fewestQuestions_25 : decode cX8_fewestQuestions 25 = .ok (.invokevirtual 93, 3) := by decide +kernel
theorem dX8_fewestQuestions_28 : decode cX8_fewestQuestions 28 = .ok (.ifCond .eq 7, 3) := by decide +kernel
theorem dX8_fewestQuestions_31 : decode cX8_fewestQuestions 31 = .ok (.iconst 1, 1) := by decide +kernel
theorem dX8_fewestQuestions_32 : decode cX8_fewestQuestions 32 = .ok (.goto 4, 3) := by decide +kernel
theorem dX8_fewestQuestions_35 : decode cX8_fewestQuestions 35 = .ok (.iconst 0, 1) := by decide +kernel
theorem dX8_fewestQuestions_36 : decode cX8_fewestQuestions 36 = .ok (.iadd, 1) := by decide +kernel
theorem dX8_fewestQuestions_37 : decode cX8_fewestQuestions 37 = .ok (.iconst 0, 1) := by decide +kernel
theorem dX8_fewestQuestions_38 : decode cX8_fewestQuestions 38 = .ok (.iastore, 1) := by decide +kernel
theorem dX8_fewestQuestions_39 : decode cX8_fewestQuestions 39 = .ok (.ldc 86, 2) := by decide +kernel
theorem dX8_fewestQuestions_41 : decode cX8_fewestQuestions 41 = .ok (.istore_n 3, 1) := by decide +kernel
theorem dX8_fewestQuestions_42 : decode cX8_fewestQuestions 42 = .ok (.iconst 0, 1) := by decide +kernel
theorem dX8_fewestQuestions_43 : decode cX8_fewestQuestions 43 = .ok (.istore 4, 2) := by decide +kernel
theorem dX8_fewestQuestions_45 : decode cX8_fewestQuestions 45 = .ok (.iload 4, 2) := by decide +kernel
theorem dX8_fewestQuestions_47 : decode cX8_fewestQuestions 47 = .ok (.iload_n 2, 1) := by decide +kernel
theorem dX8_fewestQuestions_48 : decode cX8_fewestQuestions 48 = .ok (.if_icmp .gt 87, 3) := by decide +kernel
theorem dX8_fewestQuestions_51 : decode cX8_fewestQuestions 51 = .ok (.iconst 0, 1) := by decide +kernel
theorem dX8_fewestQuestions_52 : decode cX8_fewestQuestions 52 = .ok (.istore 5, 2) := by decide +kernel
theorem dX8_fewestQuestions_54 : decode cX8_fewestQuestions 54 = .ok (.iload 5, 2) := by decide +kernel
theorem dX8_fewestQuestions_56 : decode cX8_fewestQuestions 56 = .ok (.iconst 2, 1) := by decide +kernel
theorem dX8_fewestQuestions_57 : decode cX8_fewestQuestions 57 = .ok (.aload_n 0, 1) := by decide +kernel
theorem dX8_fewestQuestions_58 : decode cX8_fewestQuestions 58 = .ok (.getfield 25, 3) := by decide +kernel
theorem dX8_fewestQuestions_61 : decode cX8_fewestQuestions 61 = .ok (.getfield 96, 3) := by decide +kernel
theorem dX8_fewestQuestions_64 : decode cX8_fewestQuestions 64 = .ok (.getfield 102, 3) := by decide +kernel
theorem dX8_fewestQuestions_67 : decode cX8_fewestQuestions 67 = .ok (.imul, 1) := by decide +kernel
theorem dX8_fewestQuestions_68 : decode cX8_fewestQuestions 68 = .ok (.if_icmp .ge 61, 3) := by decide +kernel
theorem dX8_fewestQuestions_71 : decode cX8_fewestQuestions 71 = .ok (.aload_n 0, 1) := by decide +kernel
theorem dX8_fewestQuestions_72 : decode cX8_fewestQuestions 72 = .ok (.getfield 22, 3) := by decide +kernel
theorem dX8_fewestQuestions_75 : decode cX8_fewestQuestions 75 = .ok (.iload 4, 2) := by decide +kernel
theorem dX8_fewestQuestions_77 : decode cX8_fewestQuestions 77 = .ok (.bipush 20, 2) := by decide +kernel
theorem dX8_fewestQuestions_79 : decode cX8_fewestQuestions 79 = .ok (.imul, 1) := by decide +kernel
theorem dX8_fewestQuestions_80 : decode cX8_fewestQuestions 80 = .ok (.iload 5, 2) := by decide +kernel
theorem dX8_fewestQuestions_82 : decode cX8_fewestQuestions 82 = .ok (.iadd, 1) := by decide +kernel
theorem dX8_fewestQuestions_83 : decode cX8_fewestQuestions 83 = .ok (.iaload, 1) := by decide +kernel
theorem dX8_fewestQuestions_84 : decode cX8_fewestQuestions 84 = .ok (.istore 6, 2) := by decide +kernel
theorem dX8_fewestQuestions_86 : decode cX8_fewestQuestions 86 = .ok (.iload 6, 2) := by decide +kernel
theorem dX8_fewestQuestions_88 : decode cX8_fewestQuestions 88 = .ok (.iload_n 3, 1) := by decide +kernel
theorem dX8_fewestQuestions_89 : decode cX8_fewestQuestions 89 = .ok (.if_icmp .lt 6, 3) := by decide +kernel
theorem dX8_fewestQuestions_92 : decode cX8_fewestQuestions 92 = .ok (.goto 31, 3) := by decide +kernel
theorem dX8_fewestQuestions_95 : decode cX8_fewestQuestions 95 = .ok (.iload 5, 2) := by decide +kernel
theorem dX8_fewestQuestions_97 : decode cX8_fewestQuestions 97 = .ok (.iconst 2, 1) := by decide +kernel
theorem dX8_fewestQuestions_98 : decode cX8_fewestQuestions 98 = .ok (.idiv, 1) := by decide +kernel
theorem dX8_fewestQuestions_99 : decode cX8_fewestQuestions 99 = .ok (.aload_n 1, 1) := by decide +kernel
theorem dX8_fewestQuestions_100 : decode cX8_fewestQuestions 100 = .ok (.getfield 107, 3) := by decide +kernel
theorem dX8_fewestQuestions_103 : decode cX8_fewestQuestions 103 = .ok (.if_icmp .ne 9, 3) := by decide +kernel
theorem dX8_fewestQuestions_106 : decode cX8_fewestQuestions 106 = .ok (.iload 6, 2) := by decide +kernel
theorem dX8_fewestQuestions_108 : decode cX8_fewestQuestions 108 = .ok (.istore_n 3, 1) := by decide +kernel
theorem dX8_fewestQuestions_109 : decode cX8_fewestQuestions 109 = .ok (.goto 14, 3) := by decide +kernel
theorem dX8_fewestQuestions_112 : decode cX8_fewestQuestions 112 = .ok (.aload_n 0, 1) := by decide +kernel
theorem dX8_fewestQuestions_113 : decode cX8_fewestQuestions 113 = .ok (.aload_n 1, 1) := by decide +kernel
theorem dX8_fewestQuestions_114 : decode cX8_fewestQuestions 114 = .ok (.iload 4, 2) := by decide +kernel
theorem dX8_fewestQuestions_116 : decode cX8_fewestQuestions 116 = .ok (.iload 5, 2) := by decide +kernel
theorem dX8_fewestQuestions_118 : decode cX8_fewestQuestions 118 = .ok (.iload 6, 2) := by decide +kernel
theorem dX8_fewestQuestions_120 : decode cX8_fewestQuestions 120 = .ok (.invokevirtual 110, 3) := by decide +kernel
theorem dX8_fewestQuestions_123 : decode cX8_fewestQuestions 123 = .ok (.iinc 5 1, 3) := by decide +kernel
theorem dX8_fewestQuestions_126 : decode cX8_fewestQuestions 126 = .ok (.goto (-72), 3) := by decide +kernel
theorem dX8_fewestQuestions_129 : decode cX8_fewestQuestions 129 = .ok (.iinc 4 1, 3) := by decide +kernel
theorem dX8_fewestQuestions_132 : decode cX8_fewestQuestions 132 = .ok (.goto (-87), 3) := by decide +kernel
theorem dX8_fewestQuestions_135 : decode cX8_fewestQuestions 135 = .ok (.iload_n 3, 1) := by decide +kernel
theorem dX8_fewestQuestions_136 : decode cX8_fewestQuestions 136 = .ok (.ldc 86, 2) := by decide +kernel
theorem dX8_fewestQuestions_138 : decode cX8_fewestQuestions 138 = .ok (.if_icmp .ne 8, 3) := by decide +kernel
theorem dX8_fewestQuestions_141 : decode cX8_fewestQuestions 141 = .ok (.bipush (-2), 2) := by decide +kernel
theorem dX8_fewestQuestions_143 : decode cX8_fewestQuestions 143 = .ok (.goto 4, 3) := by decide +kernel
theorem dX8_fewestQuestions_146 : decode cX8_fewestQuestions 146 = .ok (.iload_n 3, 1) := by decide +kernel
theorem dX8_fewestQuestions_147 : decode cX8_fewestQuestions 147 = .ok (.ireturn, 1) := by decide +kernel
set_option maxRecDepth 20000 in
theorem ggX8_spread_X8_note : GoodIn wsX8_spread wsX8_note := goodIn_r _ [13, 14, 2, 15, 16, 17, 18, 19, 68, 69, 70, 71, 72, 73, 74, 75] (by decide +kernel) (by decide +kernel)
set_option maxRecDepth 20000 in
theorem gX8_spread_X8_note : GoodIn wsX8_spread (wsV RX8 114 RX8 yX8_note wsX8_note) := goodIn_app (goodIn_of _ (by decide +kernel)) ggX8_spread_X8_note
set_option maxRecDepth 20000 in
theorem ggX8_spread_X0_ofWeekday : GoodIn wsX8_spread wsX0_ofWeekday := goodIn_r _ [23, 24] (by decide +kernel) (by decide +kernel)
set_option maxRecDepth 20000 in
theorem gX8_spread_X0_ofWeekday : GoodIn wsX8_spread (va_wsS RX8 120 yX0_ofWeekday wsX0_ofWeekday) := goodIn_app (goodIn_of _ (by decide +kernel)) ggX8_spread_X0_ofWeekday
set_option maxRecDepth 20000 in
theorem ggX8_spread_X0_streetBy : GoodIn wsX8_spread wsX0_streetBy := goodIn_r _ [28, 29, 30, 31, 22, 32, 102, 103, 104, 105] (by decide +kernel) (by decide +kernel)
set_option maxRecDepth 20000 in
theorem gX8_spread_X0_streetBy : GoodIn wsX8_spread (wsV RX8 129 RX0 yX0_streetBy wsX0_streetBy) := goodIn_app (goodIn_of _ (by decide +kernel)) ggX8_spread_X0_streetBy
set_option maxRecDepth 20000 in
theorem ggX8_spread_X7_sideOf : GoodIn wsX8_spread wsX7_sideOf := goodIn_r _ [37, 38, 90, 91, 92, 93, 94, 95, 96, 97, 98, 99, 100, 101] (by decide +kernel) (by decide +kernel)
set_option maxRecDepth 20000 in
theorem gX8_spread_X7_sideOf : GoodIn wsX8_spread (wsV RX8 133 RX7 yX7_sideOf wsX7_sideOf) := goodIn_app (goodIn_of _ (by decide +kernel)) ggX8_spread_X7_sideOf
set_option maxRecDepth 20000 in
theorem ggX8_spread_X7_isOpen : GoodIn wsX8_spread wsX7_isOpen := goodIn_r _ [42, 43, 44, 45, 46, 36, 47, 48, 49, 50, 51, 52, 53, 54, 90, 91, 92, 93, 94, 95, 96, 97, 98, 99, 100, 101] (by decide +kernel) (by decide +kernel)
set_option maxRecDepth 20000 in
theorem gX8_spread_X7_isOpen : GoodIn wsX8_spread (wsV RX8 137 RX7 yX7_isOpen wsX7_isOpen) := goodIn_app (goodIn_of _ (by decide +kernel)) ggX8_spread_X7_isOpen
set_option maxRecDepth 20000 in
theorem ggX8_spread_X7_cornerAcross : GoodIn wsX8_spread wsX7_cornerAcross := goodIn_r _ [58, 38, 90, 91, 92, 93, 94, 95, 96, 97, 98, 99, 100, 101] (by decide +kernel) (by decide +kernel)
set_option maxRecDepth 20000 in
theorem gX8_spread_X7_cornerAcross : GoodIn wsX8_spread (wsV RX8 141 RX7 yX7_cornerAcross wsX7_cornerAcross) := goodIn_app (goodIn_of _ (by decide +kernel)) ggX8_spread_X7_cornerAcross
theorem dX8_spread_0 : decode cX8_spread 0 = .ok (.iload_n 3, 1) := by decide +kernel
theorem dX8_spread_1 : decode cX8_spread 1 = .ok (.iconst 2, 1) := by decide +kernel
theorem dX8_spread_2 : decode cX8_spread 2 = .ok (.idiv, 1) := by decide +kernel
theorem dX8_spread_3 : decode cX8_spread 3 = .ok (.istore 5, 2) := by decide +kernel
theorem dX8_spread_5 : decode cX8_spread 5 = .ok (.iload_n 3, 1) := by decide +kernel
theorem dX8_spread_6 : decode cX8_spread 6 = .ok (.iconst 2, 1) := by decide +kernel
theorem dX8_spread_7 : decode cX8_spread 7 = .ok (.irem, 1) := by decide +kernel
theorem dX8_spread_8 : decode cX8_spread 8 = .ok (.istore 6, 2) := by decide +kernel
theorem dX8_spread_10 : decode cX8_spread 10 = .ok (.aload_n 1, 1) := by decide +kernel
theorem dX8_spread_11 : decode cX8_spread 11 = .ok (.getfield 51, 3) := by decide +kernel
theorem dX8_spread_14 : decode cX8_spread 14 = .ok (.iload_n 2, 1) := by decide +kernel
theorem dX8_spread_15 : decode cX8_spread 15 = .ok (.i2l, 1) := by decide +kernel
theorem dX8_spread_16 : decode cX8_spread 16 = .ok (.ladd, 1) := by decide +kernel
theorem dX8_spread_17 : decode cX8_spread 17 = .ok (.lstore 7, 2) := by decide +kernel
theorem dX8_spread_19 : decode cX8_spread 19 = .ok (.aload_n 0, 1) := by decide +kernel
theorem dX8_spread_20 : decode cX8_spread 20 = .ok (.lload 7, 2) := by decide +kernel
theorem dX8_spread_22 : decode cX8_spread 22 = .ok (.iload_n 2, 1) := by decide +kernel
theorem dX8_spread_23 : decode cX8_spread 23 = .ok (.iconst 1, 1) := by decide +kernel
theorem dX8_spread_24 : decode cX8_spread 24 = .ok (.iload_n 3, 1) := by decide +kernel
theorem dX8_spread_25 : decode cX8_spread 25 = .ok (.iload 4, 2) := by decide +kernel
theorem dX8_spread_27 : decode cX8_spread 27 = .ok (.invokevirtual 114, 3) := by decide +kernel
theorem dX8_spread_30 : decode cX8_spread 30 = .ok (.iload 6, 2) := by decide +kernel
theorem dX8_spread_32 : decode cX8_spread 32 = .ok (.ifCond .ne 18, 3) := by decide +kernel
theorem dX8_spread_35 : decode cX8_spread 35 = .ok (.aload_n 0, 1) := by decide +kernel
theorem dX8_spread_36 : decode cX8_spread 36 = .ok (.lload 7, 2) := by decide +kernel
theorem dX8_spread_38 : decode cX8_spread 38 = .ok (.iload_n 2, 1) := by decide +kernel
theorem dX8_spread_39 : decode cX8_spread 39 = .ok (.iconst 1, 1) := by decide +kernel
theorem dX8_spread_40 : decode cX8_spread 40 = .ok (.iload_n 3, 1) := by decide +kernel
theorem dX8_spread_41 : decode cX8_spread 41 = .ok (.iconst 1, 1) := by decide +kernel
theorem dX8_spread_42 : decode cX8_spread 42 = .ok (.iadd, 1) := by decide +kernel
theorem dX8_spread_43 : decode cX8_spread 43 = .ok (.iload 4, 2) := by decide +kernel
theorem dX8_spread_45 : decode cX8_spread 45 = .ok (.iconst 1, 1) := by decide +kernel
theorem dX8_spread_46 : decode cX8_spread 46 = .ok (.iadd, 1) := by decide +kernel
theorem dX8_spread_47 : decode cX8_spread 47 = .ok (.invokevirtual 114, 3) := by decide +kernel
theorem dX8_spread_50 : decode cX8_spread 50 = .ok (.iload 6, 2) := by decide +kernel
theorem dX8_spread_52 : decode cX8_spread 52 = .ok (.iconst 1, 1) := by decide +kernel
theorem dX8_spread_53 : decode cX8_spread 53 = .ok (.if_icmp .ne 15, 3) := by decide +kernel
theorem dX8_spread_56 : decode cX8_spread 56 = .ok (.lload 7, 2) := by decide +kernel
theorem dX8_spread_58 : decode cX8_spread 58 = .ok (.ldc2_w 118, 3) := by decide +kernel
theorem dX8_spread_61 : decode cX8_spread 61 = .ok (.ldiv, 1) := by decide +kernel
theorem dX8_spread_62 : decode cX8_spread 62 = .ok (.invokestatic 120, 3) := by decide +kernel
theorem dX8_spread_65 : decode cX8_spread 65 = .ok (.goto 7, 3) := by decide +kernel
theorem dX8_spread_68 : decode cX8_spread 68 = .ok (.aload_n 1, 1) := by decide +kernel
theorem dX8_spread_69 : decode cX8_spread 69 = .ok (.getfield 126, 3) := by decide +kernel
theorem dX8_spread_72 : decode cX8_spread 72 = .ok (.istore 9, 2) := by decide +kernel
theorem dX8_spread_74 : decode cX8_spread 74 = .ok (.aload_n 0, 1) := by decide +kernel
theorem dX8_spread_75 : decode cX8_spread 75 = .ok (.getfield 29, 3) := by decide +kernel
theorem dX8_spread_78 : decode cX8_spread 78 = .ok (.iload 9, 2) := by decide +kernel
theorem dX8_spread_80 : decode cX8_spread 80 = .ok (.iload 5, 2) := by decide +kernel
theorem dX8_spread_82 : decode cX8_spread 82 = .ok (.aload_n 1, 1) := by decide +kernel
theorem dX8_spread_83 : decode cX8_spread 83 = .ok (.getfield 107, 3) := by decide +kernel
theorem dX8_spread_86 : decode cX8_spread 86 = .ok (.invokevirtual 129, 3) := by decide +kernel
theorem dX8_spread_89 : decode cX8_spread 89 = .ok (.istore 10, 2) := by decide +kernel
theorem dX8_spread_91 : decode cX8_spread 91 = .ok (.iload 10, 2) := by decide +kernel
theorem dX8_spread_93 : decode cX8_spread 93 = .ok (.iconst (-1), 1) := by decide +kernel
theorem dX8_spread_94 : decode cX8_spread 94 = .ok (.if_icmp .ne 4, 3) := by decide +kernel
theorem dX8_spread_97 : decode cX8_spread 97 = .ok (.return_, 1) := by decide +kernel
theorem dX8_spread_98 : decode cX8_spread 98 = .ok (.aload_n 0, 1) := by decide +kernel
theorem dX8_spread_99 : decode cX8_spread 99 = .ok (.getfield 25, 3) := by decide +kernel
theorem dX8_spread_102 : decode cX8_spread 102 = .ok (.getfield 96, 3) := by decide +kernel
theorem dX8_spread_105 : decode cX8_spread 105 = .ok (.iload 10, 2) := by decide +kernel
theorem dX8_spread_107 : decode cX8_spread 107 = .ok (.iload 5, 2) := by decide +kernel
theorem dX8_spread_109 : decode cX8_spread 109 = .ok (.invokevirtual 133, 3) := by decide +kernel
theorem dX8_spread_112 : decode cX8_spread 112 = .ok (.istore 11, 2) := by decide +kernel
theorem dX8_spread_114 : decode cX8_spread 114 = .ok (.iload 11, 2) := by decide +kernel
theorem dX8_spread_116 : decode cX8_spread 116 = .ok (.iconst (-1), 1) := by decide +kernel
theorem dX8_spread_117 : decode cX8_spread 117 = .ok (.if_icmp .eq 68, 3) := by decide +kernel
theorem dX8_spread_120 : decode cX8_spread 120 = .ok (.aload_n 0, 1) := by decide +kernel
theorem dX8_spread_121 : decode cX8_spread 121 = .ok (.getfield 25, 3) := by decide +kernel
theorem dX8_spread_124 : decode cX8_spread 124 = .ok (.getfield 96, 3) := by decide +kernel
theorem dX8_spread_127 : decode cX8_spread 127 = .ok (.iload 10, 2) := by decide +kernel
theorem dX8_spread_129 : decode cX8_spread 129 = .ok (.iload 11, 2) := by decide +kernel
theorem dX8_spread_131 : decode cX8_spread 131 = .ok (.lload 7, 2) := by decide +kernel
theorem dX8_spread_133 : decode cX8_spread 133 = .ok (.iconst 1, 1) := by decide +kernel
theorem dX8_spread_134 : decode cX8_spread 134 = .ok (.invokevirtual 137, 3) := by decide +kernel
theorem dX8_spread_137 : decode cX8_spread 137 = .ok (.ifCond .eq 48, 3) := by decide +kernel
theorem dX8_spread_140 : decode cX8_spread 140 = .ok (.iconst 2, 1) := by decide +kernel
theorem dX8_spread_141 : decode cX8_spread 141 = .ok (.aload_n 0, 1) := by decide +kernel
theorem dX8_spread_142 : decode cX8_spread 142 = .ok (.getfield 25, 3) := by decide +kernel
theorem dX8_spread_145 : decode cX8_spread 145 = .ok (.getfield 96, 3) := by decide +kernel
theorem dX8_spread_148 : decode cX8_spread 148 = .ok (.iload 10, 2) := by decide +kernel
theorem dX8_spread_150 : decode cX8_spread 150 = .ok (.iload 11, 2) := by decide +kernel
theorem dX8_spread_152 : decode cX8_spread 152 = .ok (.invokevirtual 141, 3) := by decide +kernel
theorem dX8_spread_155 : decode cX8_spread 155 = .ok (.imul, 1) := by decide +kernel
theorem dX8_spread_156 : decode cX8_spread 156 = .ok (.iload 6, 2) := by decide +kernel
theorem dX8_spread_158 : decode cX8_spread 158 = .ok (.iadd, 1) := by decide +kernel
theorem dX8_spread_159 : decode cX8_spread 159 = .ok (.istore 12, 2) := by decide +kernel
theorem dX8_spread_161 : decode cX8_spread 161 = .ok (.aload_n 0, 1) := by decide +kernel
theorem dX8_spread_162 : decode cX8_spread 162 = .ok (.lload 7, 2) := by decide +kernel
theorem dX8_spread_164 : decode cX8_spread 164 = .ok (.iload_n 2, 1) := by decide +kernel
theorem dX8_spread_165 : decode cX8_spread 165 = .ok (.aload_n 0, 1) := by decide +kernel
theorem dX8_spread_166 : decode cX8_spread 166 = .ok (.getfield 25, 3) := by decide +kernel
theorem dX8_spread_169 : decode cX8_spread 169 = .ok (.getfield 96, 3) := by decide +kernel
theorem dX8_spread_172 : decode cX8_spread 172 = .ok (.getfield 144, 3) := by decide +kernel
theorem dX8_spread_175 : decode cX8_spread 175 = .ok (.iload 10, 2) := by decide +kernel
theorem dX8_spread_177 : decode cX8_spread 177 = .ok (.iaload, 1) := by decide +kernel
theorem dX8_spread_178 : decode cX8_spread 178 = .ok (.iload 12, 2) := by decide +kernel
theorem dX8_spread_180 : decode cX8_spread 180 = .ok (.iload 4, 2) := by decide +kernel
theorem dX8_spread_182 : decode cX8_spread 182 = .ok (.invokevirtual 114, 3) := by decide +kernel
theorem dX8_spread_185 : decode cX8_spread 185 = .ok (.return_, 1) := by decide +kernel
theorem dX8_note_0 : decode cX8_note 0 = .ok (.iload_n 3, 1) := by decide +kernel
theorem dX8_note_1 : decode cX8_note 1 = .ok (.iload 4, 2) := by decide +kernel
theorem dX8_note_3 : decode cX8_note 3 = .ok (.iadd, 1) := by decide +kernel
theorem dX8_note_4 : decode cX8_note 4 = .ok (.aload_n 0, 1) := by decide +kernel
theorem dX8_note_5 : decode cX8_note 5 = .ok (.getfield 83, 3) := by decide +kernel
theorem dX8_note_8 : decode cX8_note 8 = .ok (.if_icmp .le 4, 3) := by decide +kernel
theorem dX8_note_11 : decode cX8_note 11 = .ok (.return_, 1) := by decide +kernel
theorem dX8_note_12 : decode cX8_note 12 = .ok (.lload_n 1, 1) := by decide +kernel
theorem dX8_note_13 : decode cX8_note 13 = .ok (.ldc2_w 118, 3) := by decide +kernel
theorem dX8_note_16 : decode cX8_note 16 = .ok (.ldiv, 1) := by decide +kernel
theorem dX8_note_17 : decode cX8_note 17 = .ok (.lload_n 1, 1) := by decide +kernel
theorem dX8_note_18 : decode cX8_note 18 = .ok (.iload 4, 2) := by decide +kernel
theorem dX8_note_20 : decode cX8_note 20 = .ok (.i2l, 1) := by decide +kernel
theorem dX8_note_21 : decode cX8_note 21 = .ok (.ladd, 1) := by decide +kernel
theorem dX8_note_22 : decode cX8_note 22 = .ok (.ldc2_w 118, 3) := by decide +kernel
theorem dX8_note_25 : decode cX8_note 25 = .ok (.ldiv, 1) := by decide +kernel
theorem dX8_note_26 : decode cX8_note 26 = .ok (.lcmp, 1) := by decide +kernel
theorem dX8_note_27 : decode cX8_note 27 = .ok (.ifCond .ne 7, 3) := by decide +kernel
theorem dX8_note_30 : decode cX8_note 30 = .ok (.iconst 1, 1) := by decide +kernel
theorem dX8_note_31 : decode cX8_note 31 = .ok (.goto 4, 3) := by decide +kernel
theorem dX8_note_34 : decode cX8_note 34 = .ok (.iconst 0, 1) := by decide +kernel
theorem dX8_note_35 : decode cX8_note 35 = .ok (.istore 7, 2) := by decide +kernel
theorem dX8_note_37 : decode cX8_note 37 = .ok (.iload_n 3, 1) := by decide +kernel
theorem dX8_note_38 : decode cX8_note 38 = .ok (.iload 4, 2) := by decide +kernel
theorem dX8_note_40 : decode cX8_note 40 = .ok (.iadd, 1) := by decide +kernel
theorem dX8_note_41 : decode cX8_note 41 = .ok (.bipush 20, 2) := by decide +kernel
theorem dX8_note_43 : decode cX8_note 43 = .ok (.imul, 1) := by decide +kernel
theorem dX8_note_44 : decode cX8_note 44 = .ok (.iload 7, 2) := by decide +kernel
theorem dX8_note_46 : decode cX8_note 46 = .ok (.ifCond .eq 8, 3) := by decide +kernel
theorem dX8_note_49 : decode cX8_note 49 = .ok (.iload 5, 2) := by decide +kernel
theorem dX8_note_51 : decode cX8_note 51 = .ok (.goto 10, 3) := by decide +kernel
theorem dX8_note_54 : decode cX8_note 54 = .ok (.iload 5, 2) := by decide +kernel
theorem dX8_note_56 : decode cX8_note 56 = .ok (.iload 5, 2) := by decide +kernel
theorem dX8_note_58 : decode cX8_note 58 = .ok (.iconst 2, 1) := by decide +kernel
theorem dX8_note_59 : decode cX8_note 59 = .ok (.irem, 1) := by decide +kernel
theorem dX8_note_60 : decode cX8_note 60 = .ok (.isub, 1) := by decide +kernel
theorem dX8_note_61 : decode cX8_note 61 = .ok (.iadd, 1) := by decide +kernel
theorem dX8_note_62 : decode cX8_note 62 = .ok (.istore 8, 2) := by decide +kernel
theorem dX8_note_64 : decode cX8_note 64 = .ok (.aload_n 0, 1) := by decide +kernel
theorem dX8_note_65 : decode cX8_note 65 = .ok (.getfield 22, 3) := by decide +kernel
theorem dX8_note_68 : decode cX8_note 68 = .ok (.iload 8, 2) := by decide +kernel
theorem dX8_note_70 : decode cX8_note 70 = .ok (.aload_n 0, 1) := by decide +kernel
theorem dX8_note_71 : decode cX8_note 71 = .ok (.getfield 22, 3) := by decide +kernel
theorem dX8_note_74 : decode cX8_note 74 = .ok (.iload 8, 2) := by decide +kernel
theorem dX8_note_76 : decode cX8_note 76 = .ok (.iaload, 1) := by decide +kernel
theorem dX8_note_77 : decode cX8_note 77 = .ok (.iload 6, 2) := by decide +kernel
theorem dX8_note_79 : decode cX8_note 79 = .ok (.invokestatic 147, 3) := by decide +kernel
theorem dX8_note_82 : decode cX8_note 82 = .ok (.iastore, 1) := by decide +kernel
theorem dX8_note_83 : decode cX8_note 83 = .ok (.return_, 1) := by decide +kernel
set_option maxRecDepth 20000 in
theorem ggX8_fittingMaps_X9_copyFrom : GoodIn wsX8_fittingMaps wsX9_copyFrom := goodIn_r _ [9, 10, 11, 12, 13, 14, 15, 16, 17, 18, 19, 20, 21, 8, 22, 23, 210, 211, 212, 213, 214, 215, 216, 217, 218] (by decide +kernel) (by decide +kernel)
set_option maxRecDepth 20000 in
theorem gX8_fittingMaps_X9_copyFrom : GoodIn wsX8_fittingMaps (wsV RX8 37 RX9 yX9_copyFrom wsX9_copyFrom) := goodIn_app (goodIn_of _ (by decide +kernel)) ggX8_fittingMaps_X9_copyFrom
set_option maxRecDepth 20000 in
theorem ggX8_fittingMaps_X8_ghostComesAsTold : GoodIn wsX8_fittingMaps wsX8_ghostComesAsTold := goodIn_r _ [28, 1, 29, 30, 3, 31, 32, 33, 34, 35, 36, 37, 38, 39, 40, 41, 42, 43, 44, 45, 46, 47, 48, 49, 50, 8, 51, 10, 11, 52, 53, 54, 55, 56, 57, 58, 59, 60, 61, 62, 63, 64, 65, 66, 67, 68, 69, 70, 71, 72, 18, 73, 74, 75, 76, 14, 77, 78, 79, 80, 81, 82, 83, 84, 85, 86, 87, 88, 89, 90, 91, 92, 93, 94, 95, 96, 97, 98, 99, 100, 101, 102, 103, 104, 105, 106, 107, 108, 109, 110, 111, 112, 113, 114, 115, 116, 117, 118, 119, 120, 121, 122, 123, 124, 125, 126, 127, 128, 129, 130, 131, 132, 133, 134, 135, 136, 137, 138, 139, 140, 141, 142, 143, 144, 145, 146, 147, 148, 149, 150, 151, 152, 153, 154, 155, 156, 157, 158, 159, 160, 161, 162, 163, 164, 165, 166, 167, 168, 169, 170, 171, 172, 173, 174, 175, 176, 177, 178, 179, 180, 181, 182, 183, 184, 185, 186, 187, 188, 189, 190, 191, 192, 193, 194, 195, 196, 197, 198, 199, 200, 201, 202, 203, 204, 205, 206, 207, 208, 209, 210, 211, 212, 213, 214, 215, 216, 217, 218, 219, 220, 221, 222, 223, 224, 225, 226, 227, 228, 229, 230, 231, 232, 233, 234, 235, 236, 237, 238, 239, 240, 241, 242, 243, 244, 245, 246, 247, 248, 249, 250] (by decide +kernel) (by decide +kernel)
set_option maxRecDepth 20000 in
theorem gX8_fittingMaps_X8_ghostComesAsTold : GoodIn wsX8_fittingMaps (wsV RX8 155 RX8 yX8_ghostComesAsTold wsX8_ghostComesAsTold) := goodIn_app (goodIn_of _ (by decide +kernel)) ggX8_fittingMaps_X8_ghostComesAsTold
theorem dX8_fittingMaps_0 : decode cX8_fittingMaps 0 = .ok (.iconst 0, 1) := by decide +kernel
theorem dX8_fittingMaps_1 : decode cX8_fittingMaps 1 = .ok (.istore_n 2, 1) := by decide +kernel
theorem dX8_fittingMaps_2 : decode cX8_fittingMaps 2 = .ok (.iconst 0, 1) := by decide +kernel
theorem dX8_fittingMaps_3 : decode cX8_fittingMaps 3 = .ok (.istore_n 3, 1) := by decide +kernel
theorem dX8_fittingMaps_4 : decode cX8_fittingMaps 4 = .ok (.iload_n 3, 1) := by decide +kernel
theorem dX8_fittingMaps_5 : decode cX8_fittingMaps 5 = .ok (.aload_n 0, 1) := by decide +kernel
theorem dX8_fittingMaps_6 : decode cX8_fittingMaps 6 = .ok (.getfield 25, 3) := by decide +kernel
theorem dX8_fittingMaps_9 : decode cX8_fittingMaps 9 = .ok (.getfield 152, 3) := by decide +kernel
theorem dX8_fittingMaps_12 : decode cX8_fittingMaps 12 = .ok (.if_icmp .ge 38, 3) := by decide +kernel
theorem dX8_fittingMaps_15 : decode cX8_fittingMaps 15 = .ok (.aload_n 0, 1) := by decide +kernel
theorem dX8_fittingMaps_16 : decode cX8_fittingMaps 16 = .ok (.getfield 12, 3) := by decide +kernel
theorem dX8_fittingMaps_19 : decode cX8_fittingMaps 19 = .ok (.aload_n 1, 1) := by decide +kernel
theorem dX8_fittingMaps_20 : decode cX8_fittingMaps 20 = .ok (.invokevirtual 37, 3) := by decide +kernel
theorem dX8_fittingMaps_23 : decode cX8_fittingMaps 23 = .ok (.aload_n 0, 1) := by decide +kernel
theorem dX8_fittingMaps_24 : decode cX8_fittingMaps 24 = .ok (.getfield 12, 3) := by decide +kernel
theorem dX8_fittingMaps_27 : decode cX8_fittingMaps 27 = .ok (.iload_n 3, 1) := by decide +kernel
theorem dX8_fittingMaps_28 : decode cX8_fittingMaps 28 = .ok (.putfield 126, 3) := by decide +kernel
theorem dX8_fittingMaps_31 : decode cX8_fittingMaps 31 = .ok (.aload_n 0, 1) := by decide +kernel
theorem dX8_fittingMaps_32 : decode cX8_fittingMaps 32 = .ok (.invokevirtual 155, 3) := by decide +kernel
theorem dX8_fittingMaps_35 : decode cX8_fittingMaps 35 = .ok (.ifCond .eq 9, 3) := by decide +kernel
theorem dX8_fittingMaps_38 : decode cX8_fittingMaps 38 = .ok (.iload_n 2, 1) := by decide +kernel
theorem dX8_fittingMaps_39 : decode cX8_fittingMaps 39 = .ok (.iconst 1, 1) := by decide +kernel
theorem dX8_fittingMaps_40 : decode cX8_fittingMaps 40 = .ok (.iload_n 3, 1) := by decide +kernel
theorem dX8_fittingMaps_41 : decode cX8_fittingMaps 41 = .ok (.ishl, 1) := by decide +kernel
theorem dX8_fittingMaps_42 : decode cX8_fittingMaps 42 = .ok (.ior, 1) := by decide +kernel
theorem dX8_fittingMaps_43 : decode cX8_fittingMaps 43 = .ok (.istore_n 2, 1) := by decide +kernel
theorem dX8_fittingMaps_44 : decode cX8_fittingMaps 44 = .ok (.iinc 3 1, 3) := by decide +kernel
theorem dX8_fittingMaps_47 : decode cX8_fittingMaps 47 = .ok (.goto (-43), 3) := by decide +kernel
theorem dX8_fittingMaps_50 : decode cX8_fittingMaps 50 = .ok (.iload_n 2, 1) := by decide +kernel
theorem dX8_fittingMaps_51 : decode cX8_fittingMaps 51 = .ok (.ireturn, 1) := by decide +kernel
set_option maxRecDepth 20000 in
theorem ggX8_ghostComesAsTold_X1_takeStep : GoodIn wsX8_ghostComesAsTold wsX1_takeStep := goodIn_r _ [11, 12, 13, 14, 15, 16, 17, 18, 19, 20, 21, 22, 23, 24, 25, 26, 27, 28, 29, 30, 31, 10, 32, 33, 34, 35, 36, 37, 38, 39, 40, 41, 42, 43, 44, 45, 46, 47, 48, 49, 50, 51, 52, 53, 54, 55, 56, 57, 58, 59, 60, 61, 62, 63, 64, 65, 66, 67, 68, 69, 70, 71, 72, 73, 74, 75, 76, 77, 78, 79, 80, 81, 82, 83, 84, 85, 86, 87, 88, 89, 90, 91, 92, 93, 94, 95, 96, 97, 98, 99, 100, 101, 102, 103, 104, 105, 106, 107, 108, 109, 110, 111, 112, 113, 114, 115, 116, 117, 118, 119, 120, 121, 122, 123, 124, 125, 126, 127, 128, 129, 130, 131, 132, 133, 134, 135, 136, 137, 138, 139, 140, 141, 142, 143, 144, 145, 146, 147, 148, 149, 150, 151, 152, 153, 154, 155, 156, 157, 158, 159, 160, 161, 162, 163, 164, 165, 166, 189, 190, 191, 192, 193, 194, 195, 196, 197, 198, 199, 200, 201, 202, 203, 204, 205, 206, 207, 208, 209, 210, 211, 212, 213, 175, 176, 177, 178, 179, 180, 181, 182, 183, 184, 185, 186, 187, 188, 214, 215, 216, 217, 218, 219, 220, 221, 222, 223, 224, 225, 226, 227, 228, 229] (by decide +kernel) (by decide +kernel)
set_option maxRecDepth 20000 in
theorem gX8_ghostComesAsTold_X1_takeStep : GoodIn wsX8_ghostComesAsTold (wsV RX8 71 RX1 yX1_takeStep wsX1_takeStep) := goodIn_app (goodIn_of _ (by decide +kernel)) ggX8_ghostComesAsTold_X1_takeStep
theorem dX8_ghostComesAsTold_0 : decode cX8_ghostComesAsTold 0 = .ok (.iconst 0, 1) := by decide +kernel
theorem dX8_ghostComesAsTold_1 : decode cX8_ghostComesAsTold 1 = .ok (.istore_n 1, 1) := by decide +kernel
theorem dX8_ghostComesAsTold_2 : decode cX8_ghostComesAsTold 2 = .ok (.iconst 0, 1) := by decide +kernel
theorem dX8_ghostComesAsTold_3 : decode cX8_ghostComesAsTold 3 = .ok (.istore_n 2, 1) := by decide +kernel
theorem dX8_ghostComesAsTold_4 : decode cX8_ghostComesAsTold 4 = .ok (.iload_n 2, 1) := by decide +kernel
theorem dX8_ghostComesAsTold_5 : decode cX8_ghostComesAsTold 5 = .ok (.bipush 100, 2) := by decide +kernel
theorem dX8_ghostComesAsTold_7 : decode cX8_ghostComesAsTold 7 = .ok (.if_icmp .ge 72, 3) := by decide +kernel
theorem dX8_ghostComesAsTold_10 : decode cX8_ghostComesAsTold 10 = .ok (.iload_n 1, 1) := by decide +kernel
theorem dX8_ghostComesAsTold_11 : decode cX8_ghostComesAsTold 11 = .ok (.aload_n 0, 1) := by decide +kernel
theorem dX8_ghostComesAsTold_12 : decode cX8_ghostComesAsTold 12 = .ok (.getfield 25, 3) := by decide +kernel
theorem dX8_ghostComesAsTold_15 : decode cX8_ghostComesAsTold 15 = .ok (.getfield 158, 3) := by decide +kernel
theorem dX8_ghostComesAsTold_18 : decode cX8_ghostComesAsTold 18 = .ok (.if_icmp .ge 61, 3) := by decide +kernel
theorem dX8_ghostComesAsTold_21 : decode cX8_ghostComesAsTold 21 = .ok (.aload_n 0, 1) := by decide +kernel
theorem dX8_ghostComesAsTold_22 : decode cX8_ghostComesAsTold 22 = .ok (.getfield 33, 3) := by decide +kernel
theorem dX8_ghostComesAsTold_25 : decode cX8_ghostComesAsTold 25 = .ok (.aload_n 0, 1) := by decide +kernel
theorem dX8_ghostComesAsTold_26 : decode cX8_ghostComesAsTold 26 = .ok (.getfield 12, 3) := by decide +kernel
theorem dX8_ghostComesAsTold_29 : decode cX8_ghostComesAsTold 29 = .ok (.invokevirtual 71, 3) := by decide +kernel
theorem dX8_ghostComesAsTold_32 : decode cX8_ghostComesAsTold 32 = .ok (.istore_n 3, 1) := by decide +kernel
theorem dX8_ghostComesAsTold_33 : decode cX8_ghostComesAsTold 33 = .ok (.iload_n 3, 1) := by decide +kernel
theorem dX8_ghostComesAsTold_34 : decode cX8_ghostComesAsTold 34 = .ok (.iconst 4, 1) := by decide +kernel
theorem dX8_ghostComesAsTold_35 : decode cX8_ghostComesAsTold 35 = .ok (.if_icmp .ne 5, 3) := by decide +kernel
theorem dX8_ghostComesAsTold_38 : decode cX8_ghostComesAsTold 38 = .ok (.iconst 0, 1) := by decide +kernel
theorem dX8_ghostComesAsTold_39 : decode cX8_ghostComesAsTold 39 = .ok (.ireturn, 1) := by decide +kernel
theorem dX8_ghostComesAsTold_40 : decode cX8_ghostComesAsTold 40 = .ok (.iload_n 3, 1) := by decide +kernel
theorem dX8_ghostComesAsTold_41 : decode cX8_ghostComesAsTold 41 = .ok (.ifCond .eq 8, 3) := by decide +kernel
theorem dX8_ghostComesAsTold_44 : decode cX8_ghostComesAsTold 44 = .ok (.iload_n 3, 1) := by decide +kernel
theorem dX8_ghostComesAsTold_45 : decode cX8_ghostComesAsTold 45 = .ok (.iconst 1, 1) := by decide +kernel
theorem dX8_ghostComesAsTold_46 : decode cX8_ghostComesAsTold 46 = .ok (.if_icmp .ne 27, 3) := by decide +kernel
theorem dX8_ghostComesAsTold_49 : decode cX8_ghostComesAsTold 49 = .ok (.aload_n 0, 1) := by decide +kernel
theorem dX8_ghostComesAsTold_50 : decode cX8_ghostComesAsTold 50 = .ok (.getfield 12, 3) := by decide +kernel
theorem dX8_ghostComesAsTold_53 : decode cX8_ghostComesAsTold 53 = .ok (.getfield 77, 3) := by decide +kernel
theorem dX8_ghostComesAsTold_56 : decode cX8_ghostComesAsTold 56 = .ok (.aload_n 0, 1) := by decide +kernel
theorem dX8_ghostComesAsTold_57 : decode cX8_ghostComesAsTold 57 = .ok (.getfield 25, 3) := by decide +kernel
theorem dX8_ghostComesAsTold_60 : decode cX8_ghostComesAsTold 60 = .ok (.getfield 161, 3) := by decide +kernel
theorem dX8_ghostComesAsTold_63 : decode cX8_ghostComesAsTold 63 = .ok (.iload_n 1, 1) := by decide +kernel
theorem dX8_ghostComesAsTold_64 : decode cX8_ghostComesAsTold 64 = .ok (.iaload, 1) := by decide +kernel
theorem dX8_ghostComesAsTold_65 : decode cX8_ghostComesAsTold 65 = .ok (.if_icmp .eq 5, 3) := by decide +kernel
theorem dX8_ghostComesAsTold_68 : decode cX8_ghostComesAsTold 68 = .ok (.iconst 0, 1) := by decide +kernel
theorem dX8_ghostComesAsTold_69 : decode cX8_ghostComesAsTold 69 = .ok (.ireturn, 1) := by decide +kernel
theorem dX8_ghostComesAsTold_70 : decode cX8_ghostComesAsTold 70 = .ok (.iinc 1 1, 3) := by decide +kernel
theorem dX8_ghostComesAsTold_73 : decode cX8_ghostComesAsTold 73 = .ok (.iinc 2 1, 3) := by decide +kernel
theorem dX8_ghostComesAsTold_76 : decode cX8_ghostComesAsTold 76 = .ok (.goto (-72), 3) := by decide +kernel
theorem dX8_ghostComesAsTold_79 : decode cX8_ghostComesAsTold 79 = .ok (.iload_n 1, 1) := by decide +kernel
theorem dX8_ghostComesAsTold_80 : decode cX8_ghostComesAsTold 80 = .ok (.aload_n 0, 1) := by decide +kernel
theorem dX8_ghostComesAsTold_81 : decode cX8_ghostComesAsTold 81 = .ok (.getfield 25, 3) := by decide +kernel
theorem dX8_ghostComesAsTold_84 : decode cX8_ghostComesAsTold 84 = .ok (.getfield 158, 3) := by decide +kernel
theorem dX8_ghostComesAsTold_87 : decode cX8_ghostComesAsTold 87 = .ok (.if_icmp .ne 7, 3) := by decide +kernel
theorem dX8_ghostComesAsTold_90 : decode cX8_ghostComesAsTold 90 = .ok (.iconst 1, 1) := by decide +kernel
theorem dX8_ghostComesAsTold_91 : decode cX8_ghostComesAsTold 91 = .ok (.goto 4, 3) := by decide +kernel
theorem dX8_ghostComesAsTold_94 : decode cX8_ghostComesAsTold 94 = .ok (.iconst 0, 1) := by decide +kernel
theorem dX8_ghostComesAsTold_95 : decode cX8_ghostComesAsTold 95 = .ok (.ireturn, 1) := by decide +kernel
set_option maxRecDepth 20000 in
theorem ggX8_tellStrangers_X8_drawBelow : GoodIn wsX8_tellStrangers wsX8_drawBelow := goodIn_r _ [14, 3, 15, 16, 17, 193, 194, 195, 196, 197, 198, 199, 200] (by decide +kernel) (by decide +kernel)
set_option maxRecDepth 20000 in
theorem gX8_tellStrangers_X8_drawBelow : GoodIn wsX8_tellStrangers (wsV RX8 170 RX8 yX8_drawBelow wsX8_drawBelow) := goodIn_app (goodIn_of _ (by decide +kernel)) ggX8_tellStrangers_X8_drawBelow
set_option maxRecDepth 20000 in
theorem ggX8_tellStrangers_X9_setOut : GoodIn wsX8_tellStrangers wsX9_setOut := goodIn_r _ [22, 23, 24, 25, 26, 27, 28, 29, 30, 31, 32, 227, 228, 229, 230, 231, 232, 233, 234, 235] (by decide +kernel) (by decide +kernel)
set_option maxRecDepth 20000 in
theorem gX8_tellStrangers_X9_setOut : GoodIn wsX8_tellStrangers (wsV RX8 173 RX9 yX9_setOut wsX9_setOut) := goodIn_app (goodIn_of _ (by decide +kernel)) ggX8_tellStrangers_X9_setOut
set_option maxRecDepth 20000 in
theorem ggX8_tellStrangers_X1_takeSteps : GoodIn wsX8_tellStrangers wsX1_takeSteps := goodIn_r _ [37, 38, 39, 40, 36, 41, 42, 43, 44, 45, 46, 47, 48, 49, 50, 51, 52, 53, 54, 21, 55, 23, 24, 56, 57, 58, 59, 60, 61, 62, 63, 64, 65, 66, 67, 68, 69, 70, 71, 72, 73, 74, 75, 76, 32, 77, 78, 79, 80, 27, 81, 82, 83, 84, 85, 86, 87, 88, 89, 90, 91, 92, 93, 94, 95, 96, 97, 98, 99, 100, 101, 102, 103, 104, 105, 106, 107, 108, 109, 110, 111, 112, 113, 114, 115, 116, 117, 118, 119, 120, 121, 122, 123, 124, 125, 126, 127, 128, 129, 130, 131, 132, 133, 134, 135, 136, 137, 138, 139, 140, 141, 142, 143, 144, 145, 146, 147, 148, 149, 150, 151, 152, 153, 154, 155, 156, 157, 158, 159, 160, 161, 162, 163, 164, 165, 166, 167, 168, 169, 170, 171, 172, 173, 174, 175, 176, 177, 178, 179, 180, 181, 182, 183, 184, 185, 186, 187, 188, 189, 190, 191, 227, 228, 229, 230, 231, 232, 233, 234, 235, 236, 237, 238, 239, 240, 241, 242, 243, 244, 245, 246, 247, 248, 249, 250, 251, 201, 202, 203, 204, 205, 206, 207, 208, 209, 210, 211, 212, 213, 214, 215, 216, 217, 218, 219, 220, 221, 222, 223, 224, 225, 226, 252, 253, 254, 255] (by decide +kernel) (by decide +kernel)
set_option maxRecDepth 20000 in
theorem gX8_tellStrangers_X1_takeSteps : GoodIn wsX8_tellStrangers (wsV RX8 41 RX1 yX1_takeSteps wsX1_takeSteps) := goodIn_app (goodIn_of _ (by decide +kernel)) ggX8_tellStrangers_X1_takeSteps
set_option maxRecDepth 20000 in
theorem ggX8_tellStrangers_X9_isAtGoal : GoodIn wsX8_tellStrangers wsX9_isAtGoal := goodIn_r _ [55, 23, 24, 227, 228, 229, 230, 231, 232, 233, 234, 235] (by decide +kernel) (by decide +kernel)
set_option maxRecDepth 20000 in
theorem gX8_tellStrangers_X9_isAtGoal : GoodIn wsX8_tellStrangers (wsV RX8 47 RX9 yX9_isAtGoal wsX9_isAtGoal) := goodIn_app (goodIn_of _ (by decide +kernel)) ggX8_tellStrangers_X9_isAtGoal
theorem dX8_tellStrangers_0 : decode cX8_tellStrangers 0 = .ok (.aload_n 0, 1) := by decide +kernel
theorem dX8_tellStrangers_1 : decode cX8_tellStrangers 1 = .ok (.aload_n 0, 1) := by decide +kernel
theorem dX8_tellStrangers_2 : decode cX8_tellStrangers 2 = .ok (.getfield 25, 3) := by decide +kernel
theorem dX8_tellStrangers_5 : decode cX8_tellStrangers 5 = .ok (.getfield 164, 3) := by decide +kernel
theorem dX8_tellStrangers_8 : decode cX8_tellStrangers 8 = .ok (.putfield 167, 3) := by decide +kernel
theorem dX8_tellStrangers_11 : decode cX8_tellStrangers 11 = .ok (.iconst 0, 1) := by decide +kernel
theorem dX8_tellStrangers_12 : decode cX8_tellStrangers 12 = .ok (.istore 5, 2) := by decide +kernel
theorem dX8_tellStrangers_14 : decode cX8_tellStrangers 14 = .ok (.lconst 0, 1) := by decide +kernel
theorem dX8_tellStrangers_15 : decode cX8_tellStrangers 15 = .ok (.lstore 6, 2) := by decide +kernel
theorem dX8_tellStrangers_17 : decode cX8_tellStrangers 17 = .ok (.iconst 0, 1) := by decide +kernel
theorem dX8_tellStrangers_18 : decode cX8_tellStrangers 18 = .ok (.istore 8, 2) := by decide +kernel
theorem dX8_tellStrangers_20 : decode cX8_tellStrangers 20 = .ok (.iload 8, 2) := by decide +kernel
theorem dX8_tellStrangers_22 : decode cX8_tellStrangers 22 = .ok (.iload_n 2, 1) := by decide +kernel
theorem dX8_tellStrangers_23 : decode cX8_tellStrangers 23 = .ok (.if_icmp .ge 122, 3) := by decide +kernel
theorem dX8_tellStrangers_26 : decode cX8_tellStrangers 26 = .ok (.aload_n 0, 1) := by decide +kernel
theorem dX8_tellStrangers_27 : decode cX8_tellStrangers 27 = .ok (.aload_n 0, 1) := by decide +kernel
theorem dX8_tellStrangers_28 : decode cX8_tellStrangers 28 = .ok (.getfield 25, 3) := by decide +kernel
theorem dX8_tellStrangers_31 : decode cX8_tellStrangers 31 = .ok (.getfield 96, 3) := by decide +kernel
theorem dX8_tellStrangers_34 : decode cX8_tellStrangers 34 = .ok (.getfield 102, 3) := by decide +kernel
theorem dX8_tellStrangers_37 : decode cX8_tellStrangers 37 = .ok (.invokevirtual 170, 3) := by decide +kernel
theorem dX8_tellStrangers_40 : decode cX8_tellStrangers 40 = .ok (.istore 9, 2) := by decide +kernel
theorem dX8_tellStrangers_42 : decode cX8_tellStrangers 42 = .ok (.aload_n 0, 1) := by decide +kernel
theorem dX8_tellStrangers_43 : decode cX8_tellStrangers 43 = .ok (.aload_n 0, 1) := by decide +kernel
theorem dX8_tellStrangers_44 : decode cX8_tellStrangers 44 = .ok (.getfield 25, 3) := by decide +kernel
theorem dX8_tellStrangers_47 : decode cX8_tellStrangers 47 = .ok (.getfield 96, 3) := by decide +kernel
theorem dX8_tellStrangers_50 : decode cX8_tellStrangers 50 = .ok (.getfield 102, 3) := by decide +kernel
theorem dX8_tellStrangers_53 : decode cX8_tellStrangers 53 = .ok (.invokevirtual 170, 3) := by decide +kernel
theorem dX8_tellStrangers_56 : decode cX8_tellStrangers 56 = .ok (.istore 10, 2) := by decide +kernel
theorem dX8_tellStrangers_58 : decode cX8_tellStrangers 58 = .ok (.aload_n 0, 1) := by decide +kernel
theorem dX8_tellStrangers_59 : decode cX8_tellStrangers 59 = .ok (.aload_n 0, 1) := by decide +kernel
theorem dX8_tellStrangers_60 : decode cX8_tellStrangers 60 = .ok (.getfield 25, 3) := by decide +kernel
theorem dX8_tellStrangers_63 : decode cX8_tellStrangers 63 = .ok (.getfield 152, 3) := by decide +kernel
theorem dX8_tellStrangers_66 : decode cX8_tellStrangers 66 = .ok (.invokevirtual 170, 3) := by decide +kernel
theorem dX8_tellStrangers_69 : decode cX8_tellStrangers 69 = .ok (.istore 11, 2) := by decide +kernel
theorem dX8_tellStrangers_71 : decode cX8_tellStrangers 71 = .ok (.aload_n 0, 1) := by decide +kernel
theorem dX8_tellStrangers_72 : decode cX8_tellStrangers 72 = .ok (.sipush 168, 3) := by decide +kernel
theorem dX8_tellStrangers_75 : decode cX8_tellStrangers 75 = .ok (.invokevirtual 170, 3) := by decide +kernel
theorem dX8_tellStrangers_78 : decode cX8_tellStrangers 78 = .ok (.istore 12, 2) := by decide +kernel
theorem dX8_tellStrangers_80 : decode cX8_tellStrangers 80 = .ok (.aload_n 0, 1) := by decide +kernel
theorem dX8_tellStrangers_81 : decode cX8_tellStrangers 81 = .ok (.getfield 12, 3) := by decide +kernel
theorem dX8_tellStrangers_84 : decode cX8_tellStrangers 84 = .ok (.iload 9, 2) := by decide +kernel
theorem dX8_tellStrangers_86 : decode cX8_tellStrangers 86 = .ok (.iload 10, 2) := by decide +kernel
theorem dX8_tellStrangers_88 : decode cX8_tellStrangers 88 = .ok (.iload 11, 2) := by decide +kernel
theorem dX8_tellStrangers_90 : decode cX8_tellStrangers 90 = .ok (.iload_n 1, 1) := by decide +kernel
theorem dX8_tellStrangers_91 : decode cX8_tellStrangers 91 = .ok (.iload 12, 2) := by decide +kernel
theorem dX8_tellStrangers_93 : decode cX8_tellStrangers 93 = .ok (.i2l, 1) := by decide +kernel
theorem dX8_tellStrangers_94 : decode cX8_tellStrangers 94 = .ok (.invokevirtual 173, 3) := by decide +kernel
theorem dX8_tellStrangers_97 : decode cX8_tellStrangers 97 = .ok (.aload_n 0, 1) := by decide +kernel
theorem dX8_tellStrangers_98 : decode cX8_tellStrangers 98 = .ok (.getfield 33, 3) := by decide +kernel
theorem dX8_tellStrangers_101 : decode cX8_tellStrangers 101 = .ok (.aload_n 0, 1) := by decide +kernel
theorem dX8_tellStrangers_102 : decode cX8_tellStrangers 102 = .ok (.getfield 12, 3) := by decide +kernel
theorem dX8_tellStrangers_105 : decode cX8_tellStrangers 105 = .ok (.iload_n 3, 1) := by decide +kernel
theorem dX8_tellStrangers_106 : decode cX8_tellStrangers 106 = .ok (.invokevirtual 41, 3) := by decide +kernel
theorem dX8_tellStrangers_109 : decode cX8_tellStrangers 109 = .ok (.pop, 1) := by decide +kernel
theorem dX8_tellStrangers_110 : decode cX8_tellStrangers 110 = .ok (.aload_n 0, 1) := by decide +kernel
theorem dX8_tellStrangers_111 : decode cX8_tellStrangers 111 = .ok (.getfield 12, 3) := by decide +kernel
theorem dX8_tellStrangers_114 : decode cX8_tellStrangers 114 = .ok (.invokevirtual 47, 3) := by decide +kernel
theorem dX8_tellStrangers_117 : decode cX8_tellStrangers 117 = .ok (.ifCond .eq 22, 3) := by decide +kernel
theorem dX8_tellStrangers_120 : decode cX8_tellStrangers 120 = .ok (.iinc 5 1, 3) := by decide +kernel
theorem dX8_tellStrangers_123 : decode cX8_tellStrangers 123 = .ok (.lload 6, 2) := by decide +kernel
theorem dX8_tellStrangers_125 : decode cX8_tellStrangers 125 = .ok (.aload_n 0, 1) := by decide +kernel
theorem dX8_tellStrangers_126 : decode cX8_tellStrangers 126 = .ok (.getfield 12, 3) := by decide +kernel
theorem dX8_tellStrangers_129 : decode cX8_tellStrangers 129 = .ok (.getfield 51, 3) := by decide +kernel
theorem dX8_tellStrangers_132 : decode cX8_tellStrangers 132 = .ok (.iload 12, 2) := by decide +kernel
theorem dX8_tellStrangers_134 : decode cX8_tellStrangers 134 = .ok (.i2l, 1) := by decide +kernel
theorem dX8_tellStrangers_135 : decode cX8_tellStrangers 135 = .ok (.lsub, 1) := by decide +kernel
theorem dX8_tellStrangers_136 : decode cX8_tellStrangers 136 = .ok (.ladd, 1) := by decide +kernel
theorem dX8_tellStrangers_137 : decode cX8_tellStrangers 137 = .ok (.lstore 6, 2) := by decide +kernel
theorem dX8_tellStrangers_139 : decode cX8_tellStrangers 139 = .ok (.iinc 8 1, 3) := by decide +kernel
theorem dX8_tellStrangers_142 : decode cX8_tellStrangers 142 = .ok (.goto (-122), 3) := by decide +kernel
theorem dX8_tellStrangers_145 : decode cX8_tellStrangers 145 = .ok (.iload 4, 2) := by decide +kernel
theorem dX8_tellStrangers_147 : decode cX8_tellStrangers 147 = .ok (.ifCond .ne 8, 3) := by decide +kernel
theorem dX8_tellStrangers_150 : decode cX8_tellStrangers 150 = .ok (.iload 5, 2) := by decide +kernel
theorem dX8_tellStrangers_152 : decode cX8_tellStrangers 152 = .ok (.goto 6, 3) := by decide +kernel
theorem dX8_tellStrangers_155 : decode cX8_tellStrangers 155 = .ok (.lload 6, 2) := by decide +kernel
theorem dX8_tellStrangers_157 : decode cX8_tellStrangers 157 = .ok (.l2i, 1) := by decide +kernel
theorem dX8_tellStrangers_158 : decode cX8_tellStrangers 158 = .ok (.ireturn, 1) := by decide +kernel
theorem dX8_drawBelow_0 : decode cX8_drawBelow 0 = .ok (.aload_n 0, 1) := by decide +kernel
theorem dX8_drawBelow_1 : decode cX8_drawBelow 1 = .ok (.aload_n 0, 1) := by decide +kernel
theorem dX8_drawBelow_2 : decode cX8_drawBelow 2 = .ok (.getfield 167, 3) := by decide +kernel
theorem dX8_drawBelow_5 : decode cX8_drawBelow 5 = .ok (.i2l, 1) := by decide +kernel
theorem dX8_drawBelow_6 : decode cX8_drawBelow 6 = .ok (.ldc2_w 177, 3) := by decide +kernel
theorem dX8_drawBelow_9 : decode cX8_drawBelow 9 = .ok (.lmul, 1) := by decide +kernel
theorem dX8_drawBelow_10 : decode cX8_drawBelow 10 = .ok (.ldc2_w 179, 3) := by decide +kernel
theorem dX8_drawBelow_13 : decode cX8_drawBelow 13 = .ok (.ladd, 1) := by decide +kernel
theorem dX8_drawBelow_14 : decode cX8_drawBelow 14 = .ok (.ldc2_w 181, 3) := by decide +kernel
theorem dX8_drawBelow_17 : decode cX8_drawBelow 17 = .ok (.land, 1) := by decide +kernel
theorem dX8_drawBelow_18 : decode cX8_drawBelow 18 = .ok (.l2i, 1) := by decide +kernel
theorem dX8_drawBelow_19 : decode cX8_drawBelow 19 = .ok (.putfield 167, 3) := by decide +kernel
theorem dX8_drawBelow_22 : decode cX8_drawBelow 22 = .ok (.iload_n 1, 1) := by decide +kernel
theorem dX8_drawBelow_23 : decode cX8_drawBelow 23 = .ok (.ifCond .le 15, 3) := by decide +kernel
theorem dX8_drawBelow_26 : decode cX8_drawBelow 26 = .ok (.aload_n 0, 1) := by decide +kernel
theorem dX8_drawBelow_27 : decode cX8_drawBelow 27 = .ok (.getfield 167, 3) := by decide +kernel
theorem dX8_drawBelow_30 : decode cX8_drawBelow 30 = .ok (.bipush 16, 2) := by decide +kernel
theorem dX8_drawBelow_32 : decode cX8_drawBelow 32 = .ok (.ishr, 1) := by decide +kernel
theorem dX8_drawBelow_33 : decode cX8_drawBelow 33 = .ok (.iload_n 1, 1) := by decide +kernel
theorem dX8_drawBelow_34 : decode cX8_drawBelow 34 = .ok (.irem, 1) := by decide +kernel
theorem dX8_drawBelow_35 : decode cX8_drawBelow 35 = .ok (.goto 4, 3) := by decide +kernel
theorem dX8_drawBelow_38 : decode cX8_drawBelow 38 = .ok (.iconst 0, 1) := by decide +kernel
theorem dX8_drawBelow_39 : decode cX8_drawBelow 39 = .ok (.ireturn, 1) := by decide +kernel
theorem dX9_init_0 : decode cX9_init 0 = .ok (.aload_n 0, 1) := by decide +kernel
theorem dX9_init_1 : decode cX9_init 1 = .ok (.invokespecial 3, 3) := by decide +kernel
theorem dX9_init_4 : decode cX9_init 4 = .ok (.return_, 1) := by decide +kernel
theorem dX9_setOut_0 : decode cX9_setOut 0 = .ok (.aload_n 0, 1) := by decide +kernel
theorem dX9_setOut_1 : decode cX9_setOut 1 = .ok (.iload_n 1, 1) := by decide +kernel
theorem dX9_setOut_2 : decode cX9_setOut 2 = .ok (.putfield 9, 3) := by decide +kernel
theorem dX9_setOut_5 : decode cX9_setOut 5 = .ok (.aload_n 0, 1) := by decide +kernel
theorem dX9_setOut_6 : decode cX9_setOut 6 = .ok (.iload_n 2, 1) := by decide +kernel
theorem dX9_setOut_7 : decode cX9_setOut 7 = .ok (.putfield 15, 3) := by decide +kernel
theorem dX9_setOut_10 : decode cX9_setOut 10 = .ok (.aload_n 0, 1) := by decide +kernel
theorem dX9_setOut_11 : decode cX9_setOut 11 = .ok (.iload_n 3, 1) := by decide +kernel
theorem dX9_setOut_12 : decode cX9_setOut 12 = .ok (.putfield 18, 3) := by decide +kernel
theorem dX9_setOut_15 : decode cX9_setOut 15 = .ok (.aload_n 0, 1) := by decide +kernel
theorem dX9_setOut_16 : decode cX9_setOut 16 = .ok (.iload 4, 2) := by decide +kernel
theorem dX9_setOut_18 : decode cX9_setOut 18 = .ok (.putfield 21, 3) := by decide +kernel
theorem dX9_setOut_21 : decode cX9_setOut 21 = .ok (.aload_n 0, 1) := by decide +kernel
theorem dX9_setOut_22 : decode cX9_setOut 22 = .ok (.lload 5, 2) := by decide +kernel
theorem dX9_setOut_24 : decode cX9_setOut 24 = .ok (.putfield 24, 3) := by decide +kernel
theorem dX9_setOut_27 : decode cX9_setOut 27 = .ok (.aload_n 0, 1) := by decide +kernel
theorem dX9_setOut_28 : decode cX9_setOut 28 = .ok (.iconst 0, 1) := by decide +kernel
theorem dX9_setOut_29 : decode cX9_setOut 29 = .ok (.putfield 28, 3) := by decide +kernel
theorem dX9_setOut_32 : decode cX9_setOut 32 = .ok (.aload_n 0, 1) := by decide +kernel
theorem dX9_setOut_33 : decode cX9_setOut 33 = .ok (.iconst 0, 1) := by decide +kernel
theorem dX9_setOut_34 : decode cX9_setOut 34 = .ok (.putfield 31, 3) := by decide +kernel
theorem dX9_setOut_37 : decode cX9_setOut 37 = .ok (.aload_n 0, 1) := by decide +kernel
theorem dX9_setOut_38 : decode cX9_setOut 38 = .ok (.iconst (-1), 1) := by decide +kernel
theorem dX9_setOut_39 : decode cX9_setOut 39 = .ok (.putfield 34, 3) := by decide +kernel
theorem dX9_setOut_42 : decode cX9_setOut 42 = .ok (.aload_n 0, 1) := by decide +kernel
theorem dX9_setOut_43 : decode cX9_setOut 43 = .ok (.ldc2_w 37, 3) := by decide +kernel
theorem dX9_setOut_46 : decode cX9_setOut 46 = .ok (.putfield 39, 3) := by decide +kernel
theorem dX9_setOut_49 : decode cX9_setOut 49 = .ok (.return_, 1) := by decide +kernel
set_option maxRecDepth 20000 in
theorem ggX9_copyFrom_X9_setOut : GoodIn wsX9_copyFrom wsX9_setOut := goodIn_r _ [14, 1, 2, 3, 4, 5, 6, 7, 8, 15, 9, 16, 17, 18, 19, 20, 21, 22, 23, 24] (by decide +kernel) (by decide +kernel)
set_option maxRecDepth 20000 in
theorem gX9_copyFrom_X9_setOut : GoodIn wsX9_copyFrom (wsV RX9 42 RX9 yX9_setOut wsX9_setOut) := goodIn_app (goodIn_of _ (by decide +kernel)) ggX9_copyFrom_X9_setOut
theorem dX9_copyFrom_0 : decode cX9_copyFrom 0 = .ok (.aload_n 0, 1) := by decide +kernel
theorem dX9_copyFrom_1 : decode cX9_copyFrom 1 = .ok (.aload_n 1, 1) := by decide +kernel
theorem dX9_copyFrom_2 : decode cX9_copyFrom 2 = .ok (.getfield 9, 3) := by decide +kernel
theorem dX9_copyFrom_5 : decode cX9_copyFrom 5 = .ok (.aload_n 1, 1) := by decide +kernel
theorem dX9_copyFrom_6 : decode cX9_copyFrom 6 = .ok (.getfield 15, 3) := by decide +kernel
theorem dX9_copyFrom_9 : decode cX9_copyFrom 9 = .ok (.aload_n 1, 1) := by decide +kernel
theorem dX9_copyFrom_10 : decode cX9_copyFrom 10 = .ok (.getfield 18, 3) := by decide +kernel
theorem dX9_copyFrom_13 : decode cX9_copyFrom 13 = .ok (.aload_n 1, 1) := by decide +kernel
theorem dX9_copyFrom_14 : decode cX9_copyFrom 14 = .ok (.getfield 21, 3) := by decide +kernel
theorem dX9_copyFrom_17 : decode cX9_copyFrom 17 = .ok (.aload_n 1, 1) := by decide +kernel
theorem dX9_copyFrom_18 : decode cX9_copyFrom 18 = .ok (.getfield 24, 3) := by decide +kernel
theorem dX9_copyFrom_21 : decode cX9_copyFrom 21 = .ok (.invokevirtual 42, 3) := by decide +kernel
theorem dX9_copyFrom_24 : decode cX9_copyFrom 24 = .ok (.aload_n 0, 1) := by decide +kernel
theorem dX9_copyFrom_25 : decode cX9_copyFrom 25 = .ok (.aload_n 1, 1) := by decide +kernel
theorem dX9_copyFrom_26 : decode cX9_copyFrom 26 = .ok (.getfield 28, 3) := by decide +kernel
theorem dX9_copyFrom_29 : decode cX9_copyFrom 29 = .ok (.putfield 28, 3) := by decide +kernel
theorem dX9_copyFrom_32 : decode cX9_copyFrom 32 = .ok (.aload_n 0, 1) := by decide +kernel
theorem dX9_copyFrom_33 : decode cX9_copyFrom 33 = .ok (.aload_n 1, 1) := by decide +kernel
theorem dX9_copyFrom_34 : decode cX9_copyFrom 34 = .ok (.getfield 31, 3) := by decide +kernel
theorem dX9_copyFrom_37 : decode cX9_copyFrom 37 = .ok (.putfield 31, 3) := by decide +kernel
theorem dX9_copyFrom_40 : decode cX9_copyFrom 40 = .ok (.aload_n 0, 1) := by decide +kernel
theorem dX9_copyFrom_41 : decode cX9_copyFrom 41 = .ok (.aload_n 1, 1) := by decide +kernel
theorem dX9_copyFrom_42 : decode cX9_copyFrom 42 = .ok (.getfield 34, 3) := by decide +kernel
theorem dX9_copyFrom_45 : decode cX9_copyFrom 45 = .ok (.putfield 34, 3) := by decide +kernel
theorem dX9_copyFrom_48 : decode cX9_copyFrom 48 = .ok (.aload_n 0, 1) := by decide +kernel
theorem dX9_copyFrom_49 : decode cX9_copyFrom 49 = .ok (.aload_n 1, 1) := by decide +kernel
theorem dX9_copyFrom_50 : decode cX9_copyFrom 50 = .ok (.getfield 39, 3) := by decide +kernel
theorem dX9_copyFrom_53 : decode cX9_copyFrom 53 = .ok (.putfield 39, 3) := by decide +kernel
theorem dX9_copyFrom_56 : decode cX9_copyFrom 56 = .ok (.return_, 1) := by decide +kernel
theorem dX9_isAtGoal_0 : decode cX9_isAtGoal 0 = .ok (.aload_n 0, 1) := by decide +kernel
theorem dX9_isAtGoal_1 : decode cX9_isAtGoal 1 = .ok (.getfield 9, 3) := by decide +kernel
theorem dX9_isAtGoal_4 : decode cX9_isAtGoal 4 = .ok (.aload_n 0, 1) := by decide +kernel
theorem dX9_isAtGoal_5 : decode cX9_isAtGoal 5 = .ok (.getfield 15, 3) := by decide +kernel
theorem dX9_isAtGoal_8 : decode cX9_isAtGoal 8 = .ok (.if_icmp .ne 7, 3) := by decide +kernel
theorem dX9_isAtGoal_11 : decode cX9_isAtGoal 11 = .ok (.iconst 1, 1) := by decide +kernel
theorem dX9_isAtGoal_12 : decode cX9_isAtGoal 12 = .ok (.goto 4, 3) := by decide +kernel
theorem dX9_isAtGoal_15 : decode cX9_isAtGoal 15 = .ok (.iconst 0, 1) := by decide +kernel
theorem dX9_isAtGoal_16 : decode cX9_isAtGoal 16 = .ok (.ireturn, 1) := by decide +kernel
theorem dX9_dayNow_0 : decode cX9_dayNow 0 = .ok (.aload_n 0, 1) := by decide +kernel
theorem dX9_dayNow_1 : decode cX9_dayNow 1 = .ok (.getfield 24, 3) := by decide +kernel
theorem dX9_dayNow_4 : decode cX9_dayNow 4 = .ok (.ldc2_w 46, 3) := by decide +kernel
theorem dX9_dayNow_7 : decode cX9_dayNow 7 = .ok (.ldiv, 1) := by decide +kernel
theorem dX9_dayNow_8 : decode cX9_dayNow 8 = .ok (.lreturn, 1) := by decide +kernel
set_option maxRecDepth 20000 in
theorem ggX9_askedToday_X9_dayNow : GoodIn wsX9_askedToday wsX9_dayNow := goodIn_r _ [6, 7, 8, 9, 10, 11, 12, 13, 14, 15, 16, 17] (by decide +kernel) (by decide +kernel)
set_option maxRecDepth 20000 in
theorem gX9_askedToday_X9_dayNow : GoodIn wsX9_askedToday (wsV RX9 48 RX9 yX9_dayNow wsX9_dayNow) := goodIn_app (goodIn_of _ (by decide +kernel)) ggX9_askedToday_X9_dayNow
theorem dX9_askedToday_0 : decode cX9_askedToday 0 = .ok (.aload_n 0, 1) := by decide +kernel
theorem dX9_askedToday_1 : decode cX9_askedToday 1 = .ok (.getfield 39, 3) := by decide +kernel
theorem dX9_askedToday_4 : decode cX9_askedToday 4 = .ok (.aload_n 0, 1) := by decide +kernel
theorem dX9_askedToday_5 : decode cX9_askedToday 5 = .ok (.invokevirtual 48, 3) := by decide +kernel
theorem dX9_askedToday_8 : decode cX9_askedToday 8 = .ok (.lcmp, 1) := by decide +kernel
theorem dX9_askedToday_9 : decode cX9_askedToday 9 = .ok (.ifCond .ne 7, 3) := by decide +kernel
theorem dX9_askedToday_12 : decode cX9_askedToday 12 = .ok (.iconst 1, 1) := by decide +kernel
theorem dX9_askedToday_13 : decode cX9_askedToday 13 = .ok (.goto 4, 3) := by decide +kernel
theorem dX9_askedToday_16 : decode cX9_askedToday 16 = .ok (.iconst 0, 1) := by decide +kernel
theorem dX9_askedToday_17 : decode cX9_askedToday 17 = .ok (.ireturn, 1) := by decide +kernel
theorem dX9_tell_0 : decode cX9_tell 0 = .ok (.iload_n 1, 1) := by decide +kernel
theorem dX9_tell_1 : decode cX9_tell 1 = .ok (.tableswitch 79 0 6 #[43, 48, 53, 58, 63, 69, 74], 43) := by decide +kernel
theorem dX9_tell_44 : decode cX9_tell 44 = .ok (.aload_n 0, 1) := by decide +kernel
theorem dX9_tell_45 : decode cX9_tell 45 = .ok (.getfield 9, 3) := by decide +kernel
theorem dX9_tell_48 : decode cX9_tell 48 = .ok (.ireturn, 1) := by decide +kernel
theorem dX9_tell_49 : decode cX9_tell 49 = .ok (.aload_n 0, 1) := by decide +kernel
theorem dX9_tell_50 : decode cX9_tell 50 = .ok (.getfield 15, 3) := by decide +kernel
theorem dX9_tell_53 : decode cX9_tell 53 = .ok (.ireturn, 1) := by decide +kernel
theorem dX9_tell_54 : decode cX9_tell 54 = .ok (.aload_n 0, 1) := by decide +kernel
theorem dX9_tell_55 : decode cX9_tell 55 = .ok (.getfield 18, 3) := by decide +kernel
theorem dX9_tell_58 : decode cX9_tell 58 = .ok (.ireturn, 1) := by decide +kernel
theorem dX9_tell_59 : decode cX9_tell 59 = .ok (.aload_n 0, 1) := by decide +kernel
theorem dX9_tell_60 : decode cX9_tell 60 = .ok (.getfield 21, 3) := by decide +kernel
theorem dX9_tell_63 : decode cX9_tell 63 = .ok (.ireturn, 1) := by decide +kernel
theorem dX9_tell_64 : decode cX9_tell 64 = .ok (.aload_n 0, 1) := by decide +kernel
theorem dX9_tell_65 : decode cX9_tell 65 = .ok (.getfield 24, 3) := by decide +kernel
theorem dX9_tell_68 : decode cX9_tell 68 = .ok (.l2i, 1) := by decide +kernel
theorem dX9_tell_69 : decode cX9_tell 69 = .ok (.ireturn, 1) := by decide +kernel
theorem dX9_tell_70 : decode cX9_tell 70 = .ok (.aload_n 0, 1) := by decide +kernel
theorem dX9_tell_71 : decode cX9_tell 71 = .ok (.getfield 28, 3) := by decide +kernel
theorem dX9_tell_74 : decode cX9_tell 74 = .ok (.ireturn, 1) := by decide +kernel
theorem dX9_tell_75 : decode cX9_tell 75 = .ok (.aload_n 0, 1) := by decide +kernel
theorem dX9_tell_76 : decode cX9_tell 76 = .ok (.getfield 31, 3) := by decide +kernel
theorem dX9_tell_79 : decode cX9_tell 79 = .ok (.ireturn, 1) := by decide +kernel
theorem dX9_tell_80 : decode cX9_tell 80 = .ok (.aload_n 0, 1) := by decide +kernel
theorem dX9_tell_81 : decode cX9_tell 81 = .ok (.getfield 34, 3) := by decide +kernel
theorem dX9_tell_84 : decode cX9_tell 84 = .ok (.ireturn, 1) := by decide +kernel
theorem dX10_init_0 : decode cX10_init 0 = .ok (.aload_n 0, 1) := by decide +kernel
theorem dX10_init_1 : decode cX10_init 1 = .ok (.invokespecial 3, 3) := by decide +kernel
theorem dX10_init_4 : decode cX10_init 4 = .ok (.aload_n 0, 1) := by decide +kernel
theorem dX10_init_5 : decode cX10_init 5 = .ok (.bipush 12, 2) := by decide +kernel
theorem dX10_init_7 : decode cX10_init 7 = .ok (.newarray .int, 2) := by decide +kernel
theorem dX10_init_9 : decode cX10_init 9 = .ok (.putfield 9, 3) := by decide +kernel
theorem dX10_init_12 : decode cX10_init 12 = .ok (.aload_n 0, 1) := by decide +kernel
theorem dX10_init_13 : decode cX10_init 13 = .ok (.bipush 10, 2) := by decide +kernel
theorem dX10_init_15 : decode cX10_init 15 = .ok (.newarray .int, 2) := by decide +kernel
theorem dX10_init_17 : decode cX10_init 17 = .ok (.putfield 15, 3) := by decide +kernel
theorem dX10_init_20 : decode cX10_init 20 = .ok (.aload_n 0, 1) := by decide +kernel
theorem dX10_init_21 : decode cX10_init 21 = .ok (.aload_n 1, 1) := by decide +kernel
theorem dX10_init_22 : decode cX10_init 22 = .ok (.putfield 18, 3) := by decide +kernel
theorem dX10_init_25 : decode cX10_init 25 = .ok (.aload_n 0, 1) := by decide +kernel
theorem dX10_init_26 : decode cX10_init 26 = .ok (.aload_n 1, 1) := by decide +kernel
theorem dX10_init_27 : decode cX10_init 27 = .ok (.getfield 22, 3) := by decide +kernel
theorem dX10_init_30 : decode cX10_init 30 = .ok (.putfield 28, 3) := by decide +kernel
theorem dX10_init_33 : decode cX10_init 33 = .ok (.return_, 1) := by decide +kernel
set_option maxRecDepth 20000 in
theorem ggX10_takeDay_X7_signOn : GoodIn wsX10_takeDay wsX7_signOn := goodIn_r _ [9, 10, 16, 17, 18, 19, 20, 21, 22, 23, 24, 25, 26, 27] (by decide +kernel) (by decide +kernel)
set_option maxRecDepth 20000 in
theorem gX10_takeDay_X7_signOn : GoodIn wsX10_takeDay (wsV RX10 38 RX7 yX7_signOn wsX7_signOn) := goodIn_app (goodIn_of _ (by decide +kernel)) ggX10_takeDay_X7_signOn
theorem dX10_takeDay_0 : decode cX10_takeDay 0 = .ok (.aload_n 0, 1) := by decide +kernel
theorem dX10_takeDay_1 : decode cX10_takeDay 1 = .ok (.iconst 0, 1) := by decide +kernel
theorem dX10_takeDay_2 : decode cX10_takeDay 2 = .ok (.putfield 29, 3) := by decide +kernel
theorem dX10_takeDay_5 : decode cX10_takeDay 5 = .ok (.iconst 0, 1) := by decide +kernel
theorem dX10_takeDay_6 : decode cX10_takeDay 6 = .ok (.istore_n 2, 1) := by decide +kernel
theorem dX10_takeDay_7 : decode cX10_takeDay 7 = .ok (.iload_n 2, 1) := by decide +kernel
theorem dX10_takeDay_8 : decode cX10_takeDay 8 = .ok (.aload_n 0, 1) := by decide +kernel
theorem dX10_takeDay_9 : decode cX10_takeDay 9 = .ok (.getfield 28, 3) := by decide +kernel
theorem dX10_takeDay_12 : decode cX10_takeDay 12 = .ok (.getfield 33, 3) := by decide +kernel
theorem dX10_takeDay_15 : decode cX10_takeDay 15 = .ok (.if_icmp .ge 50, 3) := by decide +kernel
theorem dX10_takeDay_18 : decode cX10_takeDay 18 = .ok (.aload_n 0, 1) := by decide +kernel
theorem dX10_takeDay_19 : decode cX10_takeDay 19 = .ok (.getfield 29, 3) := by decide +kernel
theorem dX10_takeDay_22 : decode cX10_takeDay 22 = .ok (.bipush 12, 2) := by decide +kernel
theorem dX10_takeDay_24 : decode cX10_takeDay 24 = .ok (.if_icmp .ge 41, 3) := by decide +kernel
theorem dX10_takeDay_27 : decode cX10_takeDay 27 = .ok (.aload_n 0, 1) := by decide +kernel
theorem dX10_takeDay_28 : decode cX10_takeDay 28 = .ok (.getfield 28, 3) := by decide +kernel
theorem dX10_takeDay_31 : decode cX10_takeDay 31 = .ok (.iload_n 2, 1) := by decide +kernel
theorem dX10_takeDay_32 : decode cX10_takeDay 32 = .ok (.iload_n 1, 1) := by decide +kernel
theorem dX10_takeDay_33 : decode cX10_takeDay 33 = .ok (.invokevirtual 38, 3) := by decide +kernel
theorem dX10_takeDay_36 : decode cX10_takeDay 36 = .ok (.ifCond .eq 23, 3) := by decide +kernel
theorem dX10_takeDay_39 : decode cX10_takeDay 39 = .ok (.aload_n 0, 1) := by decide +kernel
theorem dX10_takeDay_40 : decode cX10_takeDay 40 = .ok (.getfield 9, 3) := by decide +kernel
theorem dX10_takeDay_43 : decode cX10_takeDay 43 = .ok (.aload_n 0, 1) := by decide +kernel
theorem dX10_takeDay_44 : decode cX10_takeDay 44 = .ok (.getfield 29, 3) := by decide +kernel
theorem dX10_takeDay_47 : decode cX10_takeDay 47 = .ok (.iload_n 2, 1) := by decide +kernel
theorem dX10_takeDay_48 : decode cX10_takeDay 48 = .ok (.iastore, 1) := by decide +kernel
theorem dX10_takeDay_49 : decode cX10_takeDay 49 = .ok (.aload_n 0, 1) := by decide +kernel
theorem dX10_takeDay_50 : decode cX10_takeDay 50 = .ok (.dup, 1) := by decide +kernel
theorem dX10_takeDay_51 : decode cX10_takeDay 51 = .ok (.getfield 29, 3) := by decide +kernel
theorem dX10_takeDay_54 : decode cX10_takeDay 54 = .ok (.iconst 1, 1) := by decide +kernel
theorem dX10_takeDay_55 : decode cX10_takeDay 55 = .ok (.iadd, 1) := by decide +kernel
theorem dX10_takeDay_56 : decode cX10_takeDay 56 = .ok (.putfield 29, 3) := by decide +kernel
theorem dX10_takeDay_59 : decode cX10_takeDay 59 = .ok (.iinc 2 1, 3) := by decide +kernel
theorem dX10_takeDay_62 : decode cX10_takeDay 62 = .ok (.goto (-55), 3) := by decide +kernel
theorem dX10_takeDay_65 : decode cX10_takeDay 65 = .ok (.return_, 1) := by decide +kernel
set_option maxRecDepth 20000 in
theorem ggX10_findClash_X10_layRoads : GoodIn wsX10_findClash wsX10_layRoads := goodIn_r _ [8, 9, 1, 10, 11, 12, 32, 33, 34, 35, 36, 51, 52, 53, 54, 55, 56, 57, 58, 59, 60, 61, 62] (by decide +kernel) (by decide +kernel)
set_option maxRecDepth 20000 in
theorem gX10_findClash_X10_layRoads : GoodIn wsX10_findClash (wsV RX10 42 RX10 yX10_layRoads wsX10_layRoads) := goodIn_app (goodIn_of _ (by decide +kernel)) ggX10_findClash_X10_layRoads
set_option maxRecDepth 20000 in
theorem ggX10_findClash_X10_canDo : GoodIn wsX10_findClash wsX10_canDo := goodIn_r _ [16, 2, 17, 18, 19, 20, 21, 7, 22, 10, 23, 9, 32, 33, 34, 35, 36, 37, 38, 39, 40, 41, 42, 43, 44, 45, 46, 47, 48, 49, 50, 51, 52, 53, 54, 55, 56, 57, 58, 59, 60, 61, 62] (by decide +kernel) (by decide +kernel)
set_option maxRecDepth 20000 in
theorem gX10_findClash_X10_canDo : GoodIn wsX10_findClash (wsV RX10 49 RX10 yX10_canDo wsX10_canDo) := goodIn_app (goodIn_of _ (by decide +kernel)) ggX10_findClash_X10_canDo
set_option maxRecDepth 20000 in
theorem ggX10_findClash_X10_oddsOver : GoodIn wsX10_findClash wsX10_oddsOver := goodIn_r _ [27, 1, 10, 11, 12, 2, 3, 4, 5, 6, 7, 8, 9, 19, 20, 21, 22, 23, 28, 29, 30, 31, 17, 18, 32, 33, 34, 35, 36, 51, 52, 53, 54, 55, 56, 57, 58, 59, 60, 61, 62, 37, 38, 39, 40, 41, 42, 43, 44, 45, 46, 47, 48, 49, 50] (by decide +kernel) (by decide +kernel)
set_option maxRecDepth 20000 in
theorem gX10_findClash_X10_oddsOver : GoodIn wsX10_findClash (wsV RX10 53 RX10 yX10_oddsOver wsX10_oddsOver) := goodIn_app (goodIn_of _ (by decide +kernel)) ggX10_findClash_X10_oddsOver
theorem dX10_findClash_0 : decode cX10_findClash 0 = .ok (.aload_n 0, 1) := by decide +kernel
theorem dX10_findClash_1 : decode cX10_findClash 1 = .ok (.aload_n 0, 1) := by decide +kernel
theorem dX10_findClash_2 : decode cX10_findClash 2 = .ok (.getfield 29, 3) := by decide +kernel
theorem dX10_findClash_5 : decode cX10_findClash 5 = .ok (.iconst 0, 1) := by decide +kernel
theorem dX10_findClash_6 : decode cX10_findClash 6 = .ok (.iconst (-1), 1) := by decide +kernel
theorem dX10_findClash_7 : decode cX10_findClash 7 = .ok (.invokevirtual 42, 3) := by decide +kernel
theorem dX10_findClash_10 : decode cX10_findClash 10 = .ok (.iconst 0, 1) := by decide +kernel
theorem dX10_findClash_11 : decode cX10_findClash 11 = .ok (.istore_n 1, 1) := by decide +kernel
theorem dX10_findClash_12 : decode cX10_findClash 12 = .ok (.iload_n 1, 1) := by decide +kernel
theorem dX10_findClash_13 : decode cX10_findClash 13 = .ok (.aload_n 0, 1) := by decide +kernel
theorem dX10_findClash_14 : decode cX10_findClash 14 = .ok (.getfield 18, 3) := by decide +kernel
theorem dX10_findClash_17 : decode cX10_findClash 17 = .ok (.getfield 46, 3) := by decide +kernel
theorem dX10_findClash_20 : decode cX10_findClash 20 = .ok (.if_icmp .ge 21, 3) := by decide +kernel
theorem dX10_findClash_23 : decode cX10_findClash 23 = .ok (.aload_n 0, 1) := by decide +kernel
theorem dX10_findClash_24 : decode cX10_findClash 24 = .ok (.iload_n 1, 1) := by decide +kernel
theorem dX10_findClash_25 : decode cX10_findClash 25 = .ok (.invokevirtual 49, 3) := by decide +kernel
theorem dX10_findClash_28 : decode cX10_findClash 28 = .ok (.ifCond .ne 7, 3) := by decide +kernel
theorem dX10_findClash_31 : decode cX10_findClash 31 = .ok (.iconst 1, 1) := by decide +kernel
theorem dX10_findClash_32 : decode cX10_findClash 32 = .ok (.iload_n 1, 1) := by decide +kernel
theorem dX10_findClash_33 : decode cX10_findClash 33 = .ok (.ishl, 1) := by decide +kernel
theorem dX10_findClash_34 : decode cX10_findClash 34 = .ok (.ireturn, 1) := by decide +kernel
theorem dX10_findClash_35 : decode cX10_findClash 35 = .ok (.iinc 1 1, 3) := by decide +kernel
theorem dX10_findClash_38 : decode cX10_findClash 38 = .ok (.goto (-26), 3) := by decide +kernel
theorem dX10_findClash_41 : decode cX10_findClash 41 = .ok (.iconst 0, 1) := by decide +kernel
theorem dX10_findClash_42 : decode cX10_findClash 42 = .ok (.istore_n 1, 1) := by decide +kernel
theorem dX10_findClash_43 : decode cX10_findClash 43 = .ok (.iconst 0, 1) := by decide +kernel
theorem dX10_findClash_44 : decode cX10_findClash 44 = .ok (.istore_n 2, 1) := by decide +kernel
theorem dX10_findClash_45 : decode cX10_findClash 45 = .ok (.iload_n 2, 1) := by decide +kernel
theorem dX10_findClash_46 : decode cX10_findClash 46 = .ok (.aload_n 0, 1) := by decide +kernel
theorem dX10_findClash_47 : decode cX10_findClash 47 = .ok (.getfield 29, 3) := by decide +kernel
theorem dX10_findClash_50 : decode cX10_findClash 50 = .ok (.if_icmp .ge 30, 3) := by decide +kernel
theorem dX10_findClash_53 : decode cX10_findClash 53 = .ok (.aload_n 0, 1) := by decide +kernel
theorem dX10_findClash_54 : decode cX10_findClash 54 = .ok (.iload_n 2, 1) := by decide +kernel
theorem dX10_findClash_55 : decode cX10_findClash 55 = .ok (.invokevirtual 53, 3) := by decide +kernel
theorem dX10_findClash_58 : decode cX10_findClash 58 = .ok (.istore_n 3, 1) := by decide +kernel
theorem dX10_findClash_59 : decode cX10_findClash 59 = .ok (.iload_n 3, 1) := by decide +kernel
theorem dX10_findClash_60 : decode cX10_findClash 60 = .ok (.ifCond .eq 14, 3) := by decide +kernel
theorem dX10_findClash_63 : decode cX10_findClash 63 = .ok (.iload_n 1, 1) := by decide +kernel
theorem dX10_findClash_64 : decode cX10_findClash 64 = .ok (.ifCond .eq 8, 3) := by decide +kernel
theorem dX10_findClash_67 : decode cX10_findClash 67 = .ok (.iload_n 3, 1) := by decide +kernel
theorem dX10_findClash_68 : decode cX10_findClash 68 = .ok (.iload_n 1, 1) := by decide +kernel
theorem dX10_findClash_69 : decode cX10_findClash 69 = .ok (.if_icmp .ge 5, 3) := by decide +kernel
theorem dX10_findClash_72 : decode cX10_findClash 72 = .ok (.iload_n 3, 1) := by decide +kernel
theorem dX10_findClash_73 : decode cX10_findClash 73 = .ok (.istore_n 1, 1) := by decide +kernel
theorem dX10_findClash_74 : decode cX10_findClash 74 = .ok (.iinc 2 1, 3) := by decide +kernel
theorem dX10_findClash_77 : decode cX10_findClash 77 = .ok (.goto (-32), 3) := by decide +kernel
theorem dX10_findClash_80 : decode cX10_findClash 80 = .ok (.iload_n 1, 1) := by decide +kernel
theorem dX10_findClash_81 : decode cX10_findClash 81 = .ok (.ireturn, 1) := by decide +kernel
set_option maxRecDepth 20000 in
theorem ggX10_oddsOver_X10_layRoads : GoodIn wsX10_oddsOver wsX10_layRoads := goodIn_r _ [11, 12, 1, 2, 3, 4, 24, 25, 26, 27, 28, 29, 30, 31, 32, 33, 34, 35, 36, 37, 38, 39, 40] (by decide +kernel) (by decide +kernel)
set_option maxRecDepth 20000 in
theorem gX10_oddsOver_X10_layRoads : GoodIn wsX10_oddsOver (wsV RX10 42 RX10 yX10_layRoads wsX10_layRoads) := goodIn_app (goodIn_of _ (by decide +kernel)) ggX10_oddsOver_X10_layRoads
set_option maxRecDepth 20000 in
theorem ggX10_oddsOver_X10_cornersFrom : GoodIn wsX10_oddsOver wsX10_cornersFrom := goodIn_r _ [16, 2, 17, 12, 24, 25, 26, 27, 28, 29, 30, 31, 32, 33, 34, 35, 36, 37, 38, 39, 40] (by decide +kernel) (by decide +kernel)
set_option maxRecDepth 20000 in
theorem gX10_oddsOver_X10_cornersFrom : GoodIn wsX10_oddsOver (wsV RX10 60 RX10 yX10_cornersFrom wsX10_cornersFrom) := goodIn_app (goodIn_of _ (by decide +kernel)) ggX10_oddsOver_X10_cornersFrom
set_option maxRecDepth 20000 in
theorem ggX10_oddsOver_X10_crossing : GoodIn wsX10_oddsOver wsX10_crossing := goodIn_r _ [21, 5, 22, 23, 24, 25, 26, 27, 28, 41, 42, 43, 44, 45, 46, 47, 48, 49, 50, 51, 52, 53, 54] (by decide +kernel) (by decide +kernel)
set_option maxRecDepth 20000 in
theorem gX10_oddsOver_X10_crossing : GoodIn wsX10_oddsOver (wsV RX10 63 RX10 yX10_crossing wsX10_crossing) := goodIn_app (goodIn_of _ (by decide +kernel)) ggX10_oddsOver_X10_crossing
theorem dX10_oddsOver_0 : decode cX10_oddsOver 0 = .ok (.aload_n 0, 1) := by decide +kernel
theorem dX10_oddsOver_1 : decode cX10_oddsOver 1 = .ok (.aload_n 0, 1) := by decide +kernel
theorem dX10_oddsOver_2 : decode cX10_oddsOver 2 = .ok (.getfield 29, 3) := by decide +kernel
theorem dX10_oddsOver_5 : decode cX10_oddsOver 5 = .ok (.iconst 0, 1) := by decide +kernel
theorem dX10_oddsOver_6 : decode cX10_oddsOver 6 = .ok (.iload_n 1, 1) := by decide +kernel
theorem dX10_oddsOver_7 : decode cX10_oddsOver 7 = .ok (.invokevirtual 42, 3) := by decide +kernel
theorem dX10_oddsOver_10 : decode cX10_oddsOver 10 = .ok (.aload_n 0, 1) := by decide +kernel
theorem dX10_oddsOver_11 : decode cX10_oddsOver 11 = .ok (.aload_n 0, 1) := by decide +kernel
theorem dX10_oddsOver_12 : decode cX10_oddsOver 12 = .ok (.getfield 28, 3) := by decide +kernel
theorem dX10_oddsOver_15 : decode cX10_oddsOver 15 = .ok (.getfield 57, 3) := by decide +kernel
theorem dX10_oddsOver_18 : decode cX10_oddsOver 18 = .ok (.iconst 2, 1) := by decide +kernel
theorem dX10_oddsOver_19 : decode cX10_oddsOver 19 = .ok (.aload_n 0, 1) := by decide +kernel
theorem dX10_oddsOver_20 : decode cX10_oddsOver 20 = .ok (.getfield 9, 3) := by decide +kernel
theorem dX10_oddsOver_23 : decode cX10_oddsOver 23 = .ok (.iload_n 1, 1) := by decide +kernel
theorem dX10_oddsOver_24 : decode cX10_oddsOver 24 = .ok (.iaload, 1) := by decide +kernel
theorem dX10_oddsOver_25 : decode cX10_oddsOver 25 = .ok (.imul, 1) := by decide +kernel
theorem dX10_oddsOver_26 : decode cX10_oddsOver 26 = .ok (.iaload, 1) := by decide +kernel
theorem dX10_oddsOver_27 : decode cX10_oddsOver 27 = .ok (.invokevirtual 60, 3) := by decide +kernel
theorem dX10_oddsOver_30 : decode cX10_oddsOver 30 = .ok (.istore_n 2, 1) := by decide +kernel
theorem dX10_oddsOver_31 : decode cX10_oddsOver 31 = .ok (.iconst 0, 1) := by decide +kernel
theorem dX10_oddsOver_32 : decode cX10_oddsOver 32 = .ok (.istore_n 3, 1) := by decide +kernel
theorem dX10_oddsOver_33 : decode cX10_oddsOver 33 = .ok (.iconst 0, 1) := by decide +kernel
theorem dX10_oddsOver_34 : decode cX10_oddsOver 34 = .ok (.istore 4, 2) := by decide +kernel
theorem dX10_oddsOver_36 : decode cX10_oddsOver 36 = .ok (.iload 4, 2) := by decide +kernel
theorem dX10_oddsOver_38 : decode cX10_oddsOver 38 = .ok (.aload_n 0, 1) := by decide +kernel
theorem dX10_oddsOver_39 : decode cX10_oddsOver 39 = .ok (.getfield 18, 3) := by decide +kernel
theorem dX10_oddsOver_42 : decode cX10_oddsOver 42 = .ok (.getfield 46, 3) := by decide +kernel
theorem dX10_oddsOver_45 : decode cX10_oddsOver 45 = .ok (.if_icmp .ge 75, 3) := by decide +kernel
theorem dX10_oddsOver_48 : decode cX10_oddsOver 48 = .ok (.iload 4, 2) := by decide +kernel
theorem dX10_oddsOver_50 : decode cX10_oddsOver 50 = .ok (.iconst 1, 1) := by decide +kernel
theorem dX10_oddsOver_51 : decode cX10_oddsOver 51 = .ok (.iadd, 1) := by decide +kernel
theorem dX10_oddsOver_52 : decode cX10_oddsOver 52 = .ok (.istore 5, 2) := by decide +kernel
theorem dX10_oddsOver_54 : decode cX10_oddsOver 54 = .ok (.iload 5, 2) := by decide +kernel
theorem dX10_oddsOver_56 : decode cX10_oddsOver 56 = .ok (.aload_n 0, 1) := by decide +kernel
theorem dX10_oddsOver_57 : decode cX10_oddsOver 57 = .ok (.getfield 18, 3) := by decide +kernel
theorem dX10_oddsOver_60 : decode cX10_oddsOver 60 = .ok (.getfield 46, 3) := by decide +kernel
theorem dX10_oddsOver_63 : decode cX10_oddsOver 63 = .ok (.if_icmp .ge 51, 3) := by decide +kernel
theorem dX10_oddsOver_66 : decode cX10_oddsOver 66 = .ok (.iconst 1, 1) := by decide +kernel
theorem dX10_oddsOver_67 : decode cX10_oddsOver 67 = .ok (.iload 4, 2) := by decide +kernel
theorem dX10_oddsOver_69 : decode cX10_oddsOver 69 = .ok (.ishl, 1) := by decide +kernel
theorem dX10_oddsOver_70 : decode cX10_oddsOver 70 = .ok (.iconst 1, 1) := by decide +kernel
theorem dX10_oddsOver_71 : decode cX10_oddsOver 71 = .ok (.iload 5, 2) := by decide +kernel
theorem dX10_oddsOver_73 : decode cX10_oddsOver 73 = .ok (.ishl, 1) := by decide +kernel
theorem dX10_oddsOver_74 : decode cX10_oddsOver 74 = .ok (.ior, 1) := by decide +kernel
theorem dX10_oddsOver_75 : decode cX10_oddsOver 75 = .ok (.istore 6, 2) := by decide +kernel
theorem dX10_oddsOver_77 : decode cX10_oddsOver 77 = .ok (.aload_n 0, 1) := by decide +kernel
theorem dX10_oddsOver_78 : decode cX10_oddsOver 78 = .ok (.iload 4, 2) := by decide +kernel
theorem dX10_oddsOver_80 : decode cX10_oddsOver 80 = .ok (.iload_n 2, 1) := by decide +kernel
theorem dX10_oddsOver_81 : decode cX10_oddsOver 81 = .ok (.invokevirtual 63, 3) := by decide +kernel
theorem dX10_oddsOver_84 : decode cX10_oddsOver 84 = .ok (.aload_n 0, 1) := by decide +kernel
theorem dX10_oddsOver_85 : decode cX10_oddsOver 85 = .ok (.iload 5, 2) := by decide +kernel
theorem dX10_oddsOver_87 : decode cX10_oddsOver 87 = .ok (.iload_n 2, 1) := by decide +kernel
theorem dX10_oddsOver_88 : decode cX10_oddsOver 88 = .ok (.invokevirtual 63, 3) := by decide +kernel
theorem dX10_oddsOver_91 : decode cX10_oddsOver 91 = .ok (.imul, 1) := by decide +kernel
theorem dX10_oddsOver_92 : decode cX10_oddsOver 92 = .ok (.ifCond .ge 16, 3) := by decide +kernel
theorem dX10_oddsOver_95 : decode cX10_oddsOver 95 = .ok (.iload_n 3, 1) := by decide +kernel
theorem dX10_oddsOver_96 : decode cX10_oddsOver 96 = .ok (.ifCond .eq 9, 3) := by decide +kernel
theorem dX10_oddsOver_99 : decode cX10_oddsOver 99 = .ok (.iload 6, 2) := by decide +kernel
theorem dX10_oddsOver_101 : decode cX10_oddsOver 101 = .ok (.iload_n 3, 1) := by decide +kernel
theorem dX10_oddsOver_102 : decode cX10_oddsOver 102 = .ok (.if_icmp .ge 6, 3) := by decide +kernel
theorem dX10_oddsOver_105 : decode cX10_oddsOver 105 = .ok (.iload 6, 2) := by decide +kernel
theorem dX10_oddsOver_107 : decode cX10_oddsOver 107 = .ok (.istore_n 3, 1) := by decide +kernel
theorem dX10_oddsOver_108 : decode cX10_oddsOver 108 = .ok (.iinc 5 1, 3) := by decide +kernel
theorem dX10_oddsOver_111 : decode cX10_oddsOver 111 = .ok (.goto (-57), 3) := by decide +kernel
theorem dX10_oddsOver_114 : decode cX10_oddsOver 114 = .ok (.iinc 4 1, 3) := by decide +kernel
theorem dX10_oddsOver_117 : decode cX10_oddsOver 117 = .ok (.goto (-81), 3) := by decide +kernel
theorem dX10_oddsOver_120 : decode cX10_oddsOver 120 = .ok (.iload_n 3, 1) := by decide +kernel
theorem dX10_oddsOver_121 : decode cX10_oddsOver 121 = .ok (.ireturn, 1) := by decide +kernel
theorem dX10_crossing_0 : decode cX10_crossing 0 = .ok (.iload_n 2, 1) := by decide +kernel
theorem dX10_crossing_1 : decode cX10_crossing 1 = .ok (.aload_n 0, 1) := by decide +kernel
theorem dX10_crossing_2 : decode cX10_crossing 2 = .ok (.getfield 18, 3) := by decide +kernel
theorem dX10_crossing_5 : decode cX10_crossing 5 = .ok (.getfield 66, 3) := by decide +kernel
theorem dX10_crossing_8 : decode cX10_crossing 8 = .ok (.iload_n 1, 1) := by decide +kernel
theorem dX10_crossing_9 : decode cX10_crossing 9 = .ok (.iaload, 1) := by decide +kernel
theorem dX10_crossing_10 : decode cX10_crossing 10 = .ok (.ishr, 1) := by decide +kernel
theorem dX10_crossing_11 : decode cX10_crossing 11 = .ok (.iconst 1, 1) := by decide +kernel
theorem dX10_crossing_12 : decode cX10_crossing 12 = .ok (.iand, 1) := by decide +kernel
theorem dX10_crossing_13 : decode cX10_crossing 13 = .ok (.iload_n 2, 1) := by decide +kernel
theorem dX10_crossing_14 : decode cX10_crossing 14 = .ok (.aload_n 0, 1) := by decide +kernel
theorem dX10_crossing_15 : decode cX10_crossing 15 = .ok (.getfield 18, 3) := by decide +kernel
theorem dX10_crossing_18 : decode cX10_crossing 18 = .ok (.getfield 69, 3) := by decide +kernel
theorem dX10_crossing_21 : decode cX10_crossing 21 = .ok (.iload_n 1, 1) := by decide +kernel
theorem dX10_crossing_22 : decode cX10_crossing 22 = .ok (.iaload, 1) := by decide +kernel
theorem dX10_crossing_23 : decode cX10_crossing 23 = .ok (.ishr, 1) := by decide +kernel
theorem dX10_crossing_24 : decode cX10_crossing 24 = .ok (.iconst 1, 1) := by decide +kernel
theorem dX10_crossing_25 : decode cX10_crossing 25 = .ok (.iand, 1) := by decide +kernel
theorem dX10_crossing_26 : decode cX10_crossing 26 = .ok (.isub, 1) := by decide +kernel
theorem dX10_crossing_27 : decode cX10_crossing 27 = .ok (.ireturn, 1) := by decide +kernel
set_option maxRecDepth 20000 in
theorem ggX10_findLeast_X10_leastBelow : GoodIn wsX10_findLeast wsX10_leastBelow := goodIn_r _ [6, 7, 8, 9, 10, 11, 5, 12, 13, 1, 14, 15, 16, 17, 18, 19, 20, 21, 22, 23, 24, 25, 26, 27, 2, 3, 4, 28, 29, 30, 31, 32, 33, 34, 35, 36, 37, 38, 39, 40, 41, 42, 43, 44, 45, 46, 47, 48, 49, 50, 51, 52, 53, 54, 55, 56, 57, 58] (by decide +kernel) (by decide +kernel)
set_option maxRecDepth 20000 in
theorem gX10_findLeast_X10_leastBelow : GoodIn wsX10_findLeast (wsV RX10 72 RX10 yX10_leastBelow wsX10_leastBelow) := goodIn_app (goodIn_of _ (by decide +kernel)) ggX10_findLeast_X10_leastBelow
theorem dX10_findLeast_0 : decode cX10_findLeast 0 = .ok (.aload_n 0, 1) := by decide +kernel
theorem dX10_findLeast_1 : decode cX10_findLeast 1 = .ok (.aload_n 0, 1) := by decide +kernel
theorem dX10_findLeast_2 : decode cX10_findLeast 2 = .ok (.getfield 29, 3) := by decide +kernel
theorem dX10_findLeast_5 : decode cX10_findLeast 5 = .ok (.iconst 0, 1) := by decide +kernel
theorem dX10_findLeast_6 : decode cX10_findLeast 6 = .ok (.invokevirtual 72, 3) := by decide +kernel
theorem dX10_findLeast_9 : decode cX10_findLeast 9 = .ok (.ireturn, 1) := by decide +kernel
set_option maxRecDepth 20000 in
theorem ggX10_leastBelow_X10_layRoads : GoodIn wsX10_leastBelow wsX10_layRoads := goodIn_r _ [7, 8, 9, 10, 11, 12, 27, 28, 29, 30, 31, 46, 47, 48, 49, 50, 51, 52, 53, 54, 55, 56, 57] (by decide +kernel) (by decide +kernel)
set_option maxRecDepth 20000 in
theorem gX10_leastBelow_X10_layRoads : GoodIn wsX10_leastBelow (wsV RX10 42 RX10 yX10_layRoads wsX10_layRoads) := goodIn_app (goodIn_of _ (by decide +kernel)) ggX10_leastBelow_X10_layRoads
set_option maxRecDepth 20000 in
theorem ggX10_leastBelow_X10_canDo : GoodIn wsX10_leastBelow wsX10_canDo := goodIn_r _ [16, 1, 17, 18, 19, 20, 21, 6, 22, 10, 23, 8, 27, 28, 29, 30, 31, 32, 33, 34, 35, 36, 37, 38, 39, 40, 41, 42, 43, 44, 45, 46, 47, 48, 49, 50, 51, 52, 53, 54, 55, 56, 57] (by decide +kernel) (by decide +kernel)
set_option maxRecDepth 20000 in
theorem gX10_leastBelow_X10_canDo : GoodIn wsX10_leastBelow (wsV RX10 49 RX10 yX10_canDo wsX10_canDo) := goodIn_app (goodIn_of _ (by decide +kernel)) ggX10_leastBelow_X10_canDo
set_option maxRecDepth 20000 in
theorem ggX10_leastBelow_X10_leastBelow : GoodIn wsX10_leastBelow wsX10_leastBelow := goodIn_r _ [0, 1, 2, 3, 4, 5, 6, 7, 8, 9, 10, 11, 12, 13, 14, 15, 16, 17, 18, 19, 20, 21, 22, 23, 24, 25, 26, 27, 28, 29, 30, 31, 32, 33, 34, 35, 36, 37, 38, 39, 40, 41, 42, 43, 44, 45, 46, 47, 48, 49, 50, 51, 52, 53, 54, 55, 56, 57] (by decide +kernel) (by decide +kernel)
set_option maxRecDepth 20000 in
theorem gX10_leastBelow_X10_leastBelow : GoodIn wsX10_leastBelow (wsV RX10 72 RX10 yX10_leastBelow wsX10_leastBelow) := goodIn_app (goodIn_of _ (by decide +kernel)) ggX10_leastBelow_X10_leastBelow
theorem dX10_leastBelow_0 : decode cX10_leastBelow 0 = .ok (.aload_n 0, 1) := by decide +kernel
theorem dX10_leastBelow_1 : decode cX10_leastBelow 1 = .ok (.iload_n 1, 1) := by decide +kernel
theorem dX10_leastBelow_2 : decode cX10_leastBelow 2 = .ok (.iload_n 2, 1) := by decide +kernel
theorem dX10_leastBelow_3 : decode cX10_leastBelow 3 = .ok (.iconst (-1), 1) := by decide +kernel
theorem dX10_leastBelow_4 : decode cX10_leastBelow 4 = .ok (.invokevirtual 42, 3) := by decide +kernel
theorem dX10_leastBelow_7 : decode cX10_leastBelow 7 = .ok (.iconst 0, 1) := by decide +kernel
theorem dX10_leastBelow_8 : decode cX10_leastBelow 8 = .ok (.istore_n 3, 1) := by decide +kernel
theorem dX10_leastBelow_9 : decode cX10_leastBelow 9 = .ok (.iload_n 3, 1) := by decide +kernel
theorem dX10_leastBelow_10 : decode cX10_leastBelow 10 = .ok (.aload_n 0, 1) := by decide +kernel
theorem dX10_leastBelow_11 : decode cX10_leastBelow 11 = .ok (.getfield 18, 3) := by decide +kernel
theorem dX10_leastBelow_14 : decode cX10_leastBelow 14 = .ok (.getfield 46, 3) := by decide +kernel
theorem dX10_leastBelow_17 : decode cX10_leastBelow 17 = .ok (.if_icmp .ge 19, 3) := by decide +kernel
