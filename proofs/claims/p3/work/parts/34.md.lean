set_option maxRecDepth 20000 in
theorem ggX12_takesWord_X12_isWord : GoodIn wsX12_takesWord wsX12_isWord := goodIn_r _ [5, 6, 7, 8, 9, 10, 4, 11, 12, 13, 14, 15, 16, 21, 22, 23, 24, 25, 26, 27, 28, 29, 30, 31, 32, 33, 34, 35, 36, 37, 38, 39, 40, 41, 42, 43, 44, 45, 46, 47, 48, 49, 50, 51, 52, 53, 54, 55, 56, 57, 58, 59, 60, 61, 62] (by decide +kernel) (by decide +kernel)
set_option maxRecDepth 20000 in
theorem gX12_takesWord_X12_isWord : GoodIn wsX12_takesWord (wsV RX12 105 RX12 yX12_isWord wsX12_isWord) := goodIn_app (goodIn_of _ (by decide +kernel)) ggX12_takesWord_X12_isWord
set_option maxRecDepth 20000 in
theorem ggX12_takesWord_X12_passWord : GoodIn wsX12_takesWord wsX12_passWord := goodIn_r _ [20, 6, 13, 14, 15, 4, 16, 12, 7, 21, 22, 23, 24, 25, 26, 27, 28, 29, 30, 31, 32, 33, 34, 35, 36, 37, 38, 39, 40, 41, 42, 43, 44, 45, 46, 47, 48, 49, 50, 51, 52, 53, 54, 55, 56, 57, 58, 59, 60, 61, 62] (by decide +kernel) (by decide +kernel)
set_option maxRecDepth 20000 in
theorem gX12_takesWord_X12_passWord : GoodIn wsX12_takesWord (wsV RX12 109 RX12 yX12_passWord wsX12_passWord) := goodIn_app (goodIn_of _ (by decide +kernel)) ggX12_takesWord_X12_passWord
theorem dX12_takesWord_0 : decode cX12_takesWord 0 = .ok (.aload_n 0, 1) := by decide +kernel
theorem dX12_takesWord_1 : decode cX12_takesWord 1 = .ok (.lload_n 1, 1) := by decide +kernel
theorem dX12_takesWord_2 : decode cX12_takesWord 2 = .ok (.invokevirtual 105, 3) := by decide +kernel
theorem dX12_takesWord_5 : decode cX12_takesWord 5 = .ok (.ifCond .ne 5, 3) := by decide +kernel
theorem dX12_takesWord_8 : decode cX12_takesWord 8 = .ok (.iconst 0, 1) := by decide +kernel
theorem dX12_takesWord_9 : decode cX12_takesWord 9 = .ok (.ireturn, 1) := by decide +kernel
theorem dX12_takesWord_10 : decode cX12_takesWord 10 = .ok (.aload_n 0, 1) := by decide +kernel
theorem dX12_takesWord_11 : decode cX12_takesWord 11 = .ok (.invokevirtual 109, 3) := by decide +kernel
theorem dX12_takesWord_14 : decode cX12_takesWord 14 = .ok (.iconst 1, 1) := by decide +kernel
theorem dX12_takesWord_15 : decode cX12_takesWord 15 = .ok (.ireturn, 1) := by decide +kernel
set_option maxRecDepth 20000 in
theorem ggX12_wordHere_X12_isWord : GoodIn wsX12_wordHere wsX12_isWord := goodIn_r _ [15, 16, 17, 18, 19, 20, 14, 21, 22, 23, 24, 25, 26, 27, 28, 29, 30, 31, 32, 33, 34, 35, 36, 37, 38, 39, 40, 41, 42, 43, 44, 45, 46, 47, 48, 49, 50, 51, 52, 53, 54, 55, 56, 57, 58, 59, 60, 61, 62, 63, 64, 65, 66, 67, 68] (by decide +kernel) (by decide +kernel)
set_option maxRecDepth 20000 in
theorem gX12_wordHere_X12_isWord : GoodIn wsX12_wordHere (wsV RX12 105 RX12 yX12_isWord wsX12_isWord) := goodIn_app (goodIn_of _ (by decide +kernel)) ggX12_wordHere_X12_isWord
theorem dX12_wordHere_0 : decode cX12_wordHere 0 = .ok (.aload_n 0, 1) := by decide +kernel
theorem dX12_wordHere_1 : decode cX12_wordHere 1 = .ok (.ldc2_w 126, 3) := by decide +kernel
theorem dX12_wordHere_4 : decode cX12_wordHere 4 = .ok (.invokevirtual 105, 3) := by decide +kernel
theorem dX12_wordHere_7 : decode cX12_wordHere 7 = .ok (.ifCond .eq 5, 3) := by decide +kernel
theorem dX12_wordHere_10 : decode cX12_wordHere 10 = .ok (.iconst 0, 1) := by decide +kernel
theorem dX12_wordHere_11 : decode cX12_wordHere 11 = .ok (.ireturn, 1) := by decide +kernel
theorem dX12_wordHere_12 : decode cX12_wordHere 12 = .ok (.aload_n 0, 1) := by decide +kernel
theorem dX12_wordHere_13 : decode cX12_wordHere 13 = .ok (.ldc2_w 128, 3) := by decide +kernel
theorem dX12_wordHere_16 : decode cX12_wordHere 16 = .ok (.invokevirtual 105, 3) := by decide +kernel
theorem dX12_wordHere_19 : decode cX12_wordHere 19 = .ok (.ifCond .eq 5, 3) := by decide +kernel
theorem dX12_wordHere_22 : decode cX12_wordHere 22 = .ok (.iconst 1, 1) := by decide +kernel
theorem dX12_wordHere_23 : decode cX12_wordHere 23 = .ok (.ireturn, 1) := by decide +kernel
theorem dX12_wordHere_24 : decode cX12_wordHere 24 = .ok (.aload_n 0, 1) := by decide +kernel
theorem dX12_wordHere_25 : decode cX12_wordHere 25 = .ok (.ldc2_w 130, 3) := by decide +kernel
theorem dX12_wordHere_28 : decode cX12_wordHere 28 = .ok (.invokevirtual 105, 3) := by decide +kernel
theorem dX12_wordHere_31 : decode cX12_wordHere 31 = .ok (.ifCond .eq 5, 3) := by decide +kernel
theorem dX12_wordHere_34 : decode cX12_wordHere 34 = .ok (.iconst 2, 1) := by decide +kernel
theorem dX12_wordHere_35 : decode cX12_wordHere 35 = .ok (.ireturn, 1) := by decide +kernel
theorem dX12_wordHere_36 : decode cX12_wordHere 36 = .ok (.aload_n 0, 1) := by decide +kernel
theorem dX12_wordHere_37 : decode cX12_wordHere 37 = .ok (.ldc2_w 132, 3) := by decide +kernel
theorem dX12_wordHere_40 : decode cX12_wordHere 40 = .ok (.invokevirtual 105, 3) := by decide +kernel
theorem dX12_wordHere_43 : decode cX12_wordHere 43 = .ok (.ifCond .eq 5, 3) := by decide +kernel
theorem dX12_wordHere_46 : decode cX12_wordHere 46 = .ok (.iconst 3, 1) := by decide +kernel
theorem dX12_wordHere_47 : decode cX12_wordHere 47 = .ok (.ireturn, 1) := by decide +kernel
theorem dX12_wordHere_48 : decode cX12_wordHere 48 = .ok (.aload_n 0, 1) := by decide +kernel
theorem dX12_wordHere_49 : decode cX12_wordHere 49 = .ok (.ldc2_w 134, 3) := by decide +kernel
theorem dX12_wordHere_52 : decode cX12_wordHere 52 = .ok (.invokevirtual 105, 3) := by decide +kernel
theorem dX12_wordHere_55 : decode cX12_wordHere 55 = .ok (.ifCond .eq 5, 3) := by decide +kernel
theorem dX12_wordHere_58 : decode cX12_wordHere 58 = .ok (.iconst 4, 1) := by decide +kernel
theorem dX12_wordHere_59 : decode cX12_wordHere 59 = .ok (.ireturn, 1) := by decide +kernel
theorem dX12_wordHere_60 : decode cX12_wordHere 60 = .ok (.aload_n 0, 1) := by decide +kernel
theorem dX12_wordHere_61 : decode cX12_wordHere 61 = .ok (.ldc2_w 136, 3) := by decide +kernel
theorem dX12_wordHere_64 : decode cX12_wordHere 64 = .ok (.invokevirtual 105, 3) := by decide +kernel
theorem dX12_wordHere_67 : decode cX12_wordHere 67 = .ok (.ifCond .eq 5, 3) := by decide +kernel
theorem dX12_wordHere_70 : decode cX12_wordHere 70 = .ok (.iconst 5, 1) := by decide +kernel
theorem dX12_wordHere_71 : decode cX12_wordHere 71 = .ok (.ireturn, 1) := by decide +kernel
theorem dX12_wordHere_72 : decode cX12_wordHere 72 = .ok (.aload_n 0, 1) := by decide +kernel
theorem dX12_wordHere_73 : decode cX12_wordHere 73 = .ok (.ldc2_w 138, 3) := by decide +kernel
theorem dX12_wordHere_76 : decode cX12_wordHere 76 = .ok (.invokevirtual 105, 3) := by decide +kernel
theorem dX12_wordHere_79 : decode cX12_wordHere 79 = .ok (.ifCond .eq 6, 3) := by decide +kernel
theorem dX12_wordHere_82 : decode cX12_wordHere 82 = .ok (.bipush 6, 2) := by decide +kernel
theorem dX12_wordHere_84 : decode cX12_wordHere 84 = .ok (.ireturn, 1) := by decide +kernel
theorem dX12_wordHere_85 : decode cX12_wordHere 85 = .ok (.aload_n 0, 1) := by decide +kernel
theorem dX12_wordHere_86 : decode cX12_wordHere 86 = .ok (.ldc2_w 140, 3) := by decide +kernel
theorem dX12_wordHere_89 : decode cX12_wordHere 89 = .ok (.invokevirtual 105, 3) := by decide +kernel
theorem dX12_wordHere_92 : decode cX12_wordHere 92 = .ok (.ifCond .eq 6, 3) := by decide +kernel
theorem dX12_wordHere_95 : decode cX12_wordHere 95 = .ok (.bipush 7, 2) := by decide +kernel
theorem dX12_wordHere_97 : decode cX12_wordHere 97 = .ok (.ireturn, 1) := by decide +kernel
theorem dX12_wordHere_98 : decode cX12_wordHere 98 = .ok (.aload_n 0, 1) := by decide +kernel
theorem dX12_wordHere_99 : decode cX12_wordHere 99 = .ok (.ldc2_w 142, 3) := by decide +kernel
theorem dX12_wordHere_102 : decode cX12_wordHere 102 = .ok (.invokevirtual 105, 3) := by decide +kernel
theorem dX12_wordHere_105 : decode cX12_wordHere 105 = .ok (.ifCond .eq 8, 3) := by decide +kernel
theorem dX12_wordHere_108 : decode cX12_wordHere 108 = .ok (.bipush 8, 2) := by decide +kernel
theorem dX12_wordHere_110 : decode cX12_wordHere 110 = .ok (.goto 19, 3) := by decide +kernel
theorem dX12_wordHere_113 : decode cX12_wordHere 113 = .ok (.aload_n 0, 1) := by decide +kernel
theorem dX12_wordHere_114 : decode cX12_wordHere 114 = .ok (.ldc2_w 144, 3) := by decide +kernel
theorem dX12_wordHere_117 : decode cX12_wordHere 117 = .ok (.invokevirtual 105, 3) := by decide +kernel
theorem dX12_wordHere_120 : decode cX12_wordHere 120 = .ok (.ifCond .eq 8, 3) := by decide +kernel
theorem dX12_wordHere_123 : decode cX12_wordHere 123 = .ok (.bipush 9, 2) := by decide +kernel
theorem dX12_wordHere_125 : decode cX12_wordHere 125 = .ok (.goto 4, 3) := by decide +kernel
theorem dX12_wordHere_128 : decode cX12_wordHere 128 = .ok (.iconst (-1), 1) := by decide +kernel
theorem dX12_wordHere_129 : decode cX12_wordHere 129 = .ok (.ireturn, 1) := by decide +kernel
theorem dX12_puts_0 : decode cX12_puts 0 = .ok (.aload_n 0, 1) := by decide +kernel
theorem dX12_puts_1 : decode cX12_puts 1 = .ok (.getfield 13, 3) := by decide +kernel
theorem dX12_puts_4 : decode cX12_puts 4 = .ok (.sipush 400, 3) := by decide +kernel
theorem dX12_puts_7 : decode cX12_puts 7 = .ok (.aload_n 0, 1) := by decide +kernel
theorem dX12_puts_8 : decode cX12_puts 8 = .ok (.getfield 146, 3) := by decide +kernel
theorem dX12_puts_11 : decode cX12_puts 11 = .ok (.imul, 1) := by decide +kernel
theorem dX12_puts_12 : decode cX12_puts 12 = .ok (.aload_n 0, 1) := by decide +kernel
theorem dX12_puts_13 : decode cX12_puts 13 = .ok (.getfield 17, 3) := by decide +kernel
theorem dX12_puts_16 : decode cX12_puts 16 = .ok (.aload_n 0, 1) := by decide +kernel
theorem dX12_puts_17 : decode cX12_puts 17 = .ok (.getfield 146, 3) := by decide +kernel
theorem dX12_puts_20 : decode cX12_puts 20 = .ok (.iaload, 1) := by decide +kernel
theorem dX12_puts_21 : decode cX12_puts 21 = .ok (.iadd, 1) := by decide +kernel
theorem dX12_puts_22 : decode cX12_puts 22 = .ok (.iload_n 1, 1) := by decide +kernel
theorem dX12_puts_23 : decode cX12_puts 23 = .ok (.bipush 16, 2) := by decide +kernel
theorem dX12_puts_25 : decode cX12_puts 25 = .ok (.iload_n 2, 1) := by decide +kernel
theorem dX12_puts_26 : decode cX12_puts 26 = .ok (.imul, 1) := by decide +kernel
theorem dX12_puts_27 : decode cX12_puts 27 = .ok (.iadd, 1) := by decide +kernel
theorem dX12_puts_28 : decode cX12_puts 28 = .ok (.iastore, 1) := by decide +kernel
theorem dX12_puts_29 : decode cX12_puts 29 = .ok (.aload_n 0, 1) := by decide +kernel
theorem dX12_puts_30 : decode cX12_puts 30 = .ok (.getfield 17, 3) := by decide +kernel
theorem dX12_puts_33 : decode cX12_puts 33 = .ok (.aload_n 0, 1) := by decide +kernel
theorem dX12_puts_34 : decode cX12_puts 34 = .ok (.getfield 146, 3) := by decide +kernel
theorem dX12_puts_37 : decode cX12_puts 37 = .ok (.dup2, 1) := by decide +kernel
theorem dX12_puts_38 : decode cX12_puts 38 = .ok (.iaload, 1) := by decide +kernel
theorem dX12_puts_39 : decode cX12_puts 39 = .ok (.iconst 1, 1) := by decide +kernel
theorem dX12_puts_40 : decode cX12_puts 40 = .ok (.iadd, 1) := by decide +kernel
theorem dX12_puts_41 : decode cX12_puts 41 = .ok (.iastore, 1) := by decide +kernel
theorem dX12_puts_42 : decode cX12_puts 42 = .ok (.return_, 1) := by decide +kernel
set_option maxRecDepth 20000 in
theorem ggX12_makes_X12_fails : GoodIn wsX12_makes wsX12_fails := goodIn_r _ [6, 7, 8, 9, 10, 11, 12, 13, 14, 15, 16, 17, 18, 19, 20, 21, 22, 23, 24, 25, 26, 27, 28, 29, 30, 31, 32, 33, 34, 35, 36, 37, 38, 39, 40, 41, 42, 43, 44, 45, 46, 47, 48, 49] (by decide +kernel) (by decide +kernel)
set_option maxRecDepth 20000 in
theorem gX12_makes_X12_fails : GoodIn wsX12_makes (wsV RX12 115 RX12 yX12_fails wsX12_fails) := goodIn_app (goodIn_of _ (by decide +kernel)) ggX12_makes_X12_fails
theorem dX12_makes_0 : decode cX12_makes 0 = .ok (.aload_n 0, 1) := by decide +kernel
theorem dX12_makes_1 : decode cX12_makes 1 = .ok (.getfield 149, 3) := by decide +kernel
theorem dX12_makes_4 : decode cX12_makes 4 = .ok (.bipush 60, 2) := by decide +kernel
theorem dX12_makes_6 : decode cX12_makes 6 = .ok (.if_icmp .ne 10, 3) := by decide +kernel
theorem dX12_makes_9 : decode cX12_makes 9 = .ok (.aload_n 0, 1) := by decide +kernel
theorem dX12_makes_10 : decode cX12_makes 10 = .ok (.iconst 3, 1) := by decide +kernel
theorem dX12_makes_11 : decode cX12_makes 11 = .ok (.iload_n 1, 1) := by decide +kernel
theorem dX12_makes_12 : decode cX12_makes 12 = .ok (.invokevirtual 115, 3) := by decide +kernel
theorem dX12_makes_15 : decode cX12_makes 15 = .ok (.ireturn, 1) := by decide +kernel
theorem dX12_makes_16 : decode cX12_makes 16 = .ok (.aload_n 0, 1) := by decide +kernel
theorem dX12_makes_17 : decode cX12_makes 17 = .ok (.dup, 1) := by decide +kernel
theorem dX12_makes_18 : decode cX12_makes 18 = .ok (.getfield 149, 3) := by decide +kernel
theorem dX12_makes_21 : decode cX12_makes 21 = .ok (.iconst 1, 1) := by decide +kernel
theorem dX12_makes_22 : decode cX12_makes 22 = .ok (.iadd, 1) := by decide +kernel
theorem dX12_makes_23 : decode cX12_makes 23 = .ok (.putfield 149, 3) := by decide +kernel
theorem dX12_makes_26 : decode cX12_makes 26 = .ok (.iconst 1, 1) := by decide +kernel
theorem dX12_makes_27 : decode cX12_makes 27 = .ok (.ireturn, 1) := by decide +kernel
set_option maxRecDepth 20000 in
theorem ggX12_opens_X12_fails : GoodIn wsX12_opens wsX12_fails := goodIn_r _ [9, 10, 11, 12, 13, 14, 15, 16, 17, 18, 19, 20, 21, 22, 23, 24, 25, 26, 27, 28, 29, 30, 31, 32, 33, 34, 35, 36, 37, 38, 39, 40, 41, 42, 43, 44, 45, 46, 47, 48, 49, 50, 51, 52] (by decide +kernel) (by decide +kernel)
set_option maxRecDepth 20000 in
theorem gX12_opens_X12_fails : GoodIn wsX12_opens (wsV RX12 115 RX12 yX12_fails wsX12_fails) := goodIn_app (goodIn_of _ (by decide +kernel)) ggX12_opens_X12_fails
theorem dX12_opens_0 : decode cX12_opens 0 = .ok (.aload_n 0, 1) := by decide +kernel
theorem dX12_opens_1 : decode cX12_opens 1 = .ok (.getfield 152, 3) := by decide +kernel
theorem dX12_opens_4 : decode cX12_opens 4 = .ok (.bipush 10, 2) := by decide +kernel
theorem dX12_opens_6 : decode cX12_opens 6 = .ok (.if_icmp .ne 13, 3) := by decide +kernel
theorem dX12_opens_9 : decode cX12_opens 9 = .ok (.aload_n 0, 1) := by decide +kernel
theorem dX12_opens_10 : decode cX12_opens 10 = .ok (.iconst 2, 1) := by decide +kernel
theorem dX12_opens_11 : decode cX12_opens 11 = .ok (.aload_n 0, 1) := by decide +kernel
theorem dX12_opens_12 : decode cX12_opens 12 = .ok (.getfield 94, 3) := by decide +kernel
theorem dX12_opens_15 : decode cX12_opens 15 = .ok (.invokevirtual 115, 3) := by decide +kernel
theorem dX12_opens_18 : decode cX12_opens 18 = .ok (.ireturn, 1) := by decide +kernel
theorem dX12_opens_19 : decode cX12_opens 19 = .ok (.aload_n 0, 1) := by decide +kernel
theorem dX12_opens_20 : decode cX12_opens 20 = .ok (.dup, 1) := by decide +kernel
theorem dX12_opens_21 : decode cX12_opens 21 = .ok (.getfield 152, 3) := by decide +kernel
theorem dX12_opens_24 : decode cX12_opens 24 = .ok (.iconst 1, 1) := by decide +kernel
theorem dX12_opens_25 : decode cX12_opens 25 = .ok (.iadd, 1) := by decide +kernel
theorem dX12_opens_26 : decode cX12_opens 26 = .ok (.putfield 152, 3) := by decide +kernel
theorem dX12_opens_29 : decode cX12_opens 29 = .ok (.aload_n 0, 1) := by decide +kernel
theorem dX12_opens_30 : decode cX12_opens 30 = .ok (.getfield 35, 3) := by decide +kernel
theorem dX12_opens_33 : decode cX12_opens 33 = .ok (.aload_n 0, 1) := by decide +kernel
theorem dX12_opens_34 : decode cX12_opens 34 = .ok (.getfield 155, 3) := by decide +kernel
theorem dX12_opens_37 : decode cX12_opens 37 = .ok (.iload_n 1, 1) := by decide +kernel
theorem dX12_opens_38 : decode cX12_opens 38 = .ok (.iastore, 1) := by decide +kernel
theorem dX12_opens_39 : decode cX12_opens 39 = .ok (.aload_n 0, 1) := by decide +kernel
theorem dX12_opens_40 : decode cX12_opens 40 = .ok (.dup, 1) := by decide +kernel
theorem dX12_opens_41 : decode cX12_opens 41 = .ok (.getfield 155, 3) := by decide +kernel
theorem dX12_opens_44 : decode cX12_opens 44 = .ok (.iconst 1, 1) := by decide +kernel
theorem dX12_opens_45 : decode cX12_opens 45 = .ok (.iadd, 1) := by decide +kernel
theorem dX12_opens_46 : decode cX12_opens 46 = .ok (.putfield 155, 3) := by decide +kernel
theorem dX12_opens_49 : decode cX12_opens 49 = .ok (.iconst 1, 1) := by decide +kernel
theorem dX12_opens_50 : decode cX12_opens 50 = .ok (.ireturn, 1) := by decide +kernel
theorem dX12_strength_0 : decode cX12_strength 0 = .ok (.iload_n 0, 1) := by decide +kernel
theorem dX12_strength_1 : decode cX12_strength 1 = .ok (.bipush 13, 2) := by decide +kernel
theorem dX12_strength_3 : decode cX12_strength 3 = .ok (.if_icmp .ne 7, 3) := by decide +kernel
theorem dX12_strength_6 : decode cX12_strength 6 = .ok (.iconst 1, 1) := by decide +kernel
theorem dX12_strength_7 : decode cX12_strength 7 = .ok (.goto 24, 3) := by decide +kernel
theorem dX12_strength_10 : decode cX12_strength 10 = .ok (.iload_n 0, 1) := by decide +kernel
theorem dX12_strength_11 : decode cX12_strength 11 = .ok (.bipush 12, 2) := by decide +kernel
theorem dX12_strength_13 : decode cX12_strength 13 = .ok (.if_icmp .ne 7, 3) := by decide +kernel
theorem dX12_strength_16 : decode cX12_strength 16 = .ok (.iconst 2, 1) := by decide +kernel
theorem dX12_strength_17 : decode cX12_strength 17 = .ok (.goto 14, 3) := by decide +kernel
theorem dX12_strength_20 : decode cX12_strength 20 = .ok (.iload_n 0, 1) := by decide +kernel
theorem dX12_strength_21 : decode cX12_strength 21 = .ok (.bipush 11, 2) := by decide +kernel
theorem dX12_strength_23 : decode cX12_strength 23 = .ok (.if_icmp .ne 7, 3) := by decide +kernel
theorem dX12_strength_26 : decode cX12_strength 26 = .ok (.iconst 3, 1) := by decide +kernel
theorem dX12_strength_27 : decode cX12_strength 27 = .ok (.goto 4, 3) := by decide +kernel
theorem dX12_strength_30 : decode cX12_strength 30 = .ok (.iconst 0, 1) := by decide +kernel
theorem dX12_strength_31 : decode cX12_strength 31 = .ok (.ireturn, 1) := by decide +kernel
set_option maxRecDepth 20000 in
theorem ggX12_settles_X12_strength : GoodIn wsX12_settles wsX12_strength := goodIn_r _ [7] (by decide +kernel) (by decide +kernel)
set_option maxRecDepth 20000 in
theorem gX12_settles_X12_strength : GoodIn wsX12_settles (va_wsS RX12 158 yX12_strength wsX12_strength) := goodIn_app (goodIn_of _ (by decide +kernel)) ggX12_settles_X12_strength
set_option maxRecDepth 20000 in
theorem ggX12_settles_X12_puts : GoodIn wsX12_settles wsX12_puts := goodIn_r _ [11, 12, 13, 14, 15, 16, 17, 18, 19, 20, 21, 22, 23, 24, 25, 26, 27, 28, 29, 30, 31, 32, 33, 34, 35, 36, 37, 38, 39, 40, 41, 42, 43, 44, 45, 46, 47, 48, 49, 50, 51, 52, 53, 54, 55, 56] (by decide +kernel) (by decide +kernel)
set_option maxRecDepth 20000 in
theorem gX12_settles_X12_puts : GoodIn wsX12_settles (wsV RX12 162 RX12 yX12_puts wsX12_puts) := goodIn_app (goodIn_of _ (by decide +kernel)) ggX12_settles_X12_puts
theorem dX12_settles_0 : decode cX12_settles 0 = .ok (.aload_n 0, 1) := by decide +kernel
theorem dX12_settles_1 : decode cX12_settles 1 = .ok (.getfield 155, 3) := by decide +kernel
theorem dX12_settles_4 : decode cX12_settles 4 = .ok (.ifCond .le 72, 3) := by decide +kernel
theorem dX12_settles_7 : decode cX12_settles 7 = .ok (.aload_n 0, 1) := by decide +kernel
theorem dX12_settles_8 : decode cX12_settles 8 = .ok (.getfield 35, 3) := by decide +kernel
theorem dX12_settles_11 : decode cX12_settles 11 = .ok (.aload_n 0, 1) := by decide +kernel
theorem dX12_settles_12 : decode cX12_settles 12 = .ok (.getfield 155, 3) := by decide +kernel
theorem dX12_settles_15 : decode cX12_settles 15 = .ok (.iconst 1, 1) := by decide +kernel
theorem dX12_settles_16 : decode cX12_settles 16 = .ok (.isub, 1) := by decide +kernel
theorem dX12_settles_17 : decode cX12_settles 17 = .ok (.iaload, 1) := by decide +kernel
theorem dX12_settles_18 : decode cX12_settles 18 = .ok (.invokestatic 158, 3) := by decide +kernel
theorem dX12_settles_21 : decode cX12_settles 21 = .ok (.iload_n 1, 1) := by decide +kernel
theorem dX12_settles_22 : decode cX12_settles 22 = .ok (.if_icmp .lt 54, 3) := by decide +kernel
theorem dX12_settles_25 : decode cX12_settles 25 = .ok (.aload_n 0, 1) := by decide +kernel
theorem dX12_settles_26 : decode cX12_settles 26 = .ok (.dup, 1) := by decide +kernel
theorem dX12_settles_27 : decode cX12_settles 27 = .ok (.getfield 155, 3) := by decide +kernel
theorem dX12_settles_30 : decode cX12_settles 30 = .ok (.iconst 1, 1) := by decide +kernel
theorem dX12_settles_31 : decode cX12_settles 31 = .ok (.isub, 1) := by decide +kernel
theorem dX12_settles_32 : decode cX12_settles 32 = .ok (.putfield 155, 3) := by decide +kernel
theorem dX12_settles_35 : decode cX12_settles 35 = .ok (.aload_n 0, 1) := by decide +kernel
theorem dX12_settles_36 : decode cX12_settles 36 = .ok (.aload_n 0, 1) := by decide +kernel
theorem dX12_settles_37 : decode cX12_settles 37 = .ok (.getfield 35, 3) := by decide +kernel
theorem dX12_settles_40 : decode cX12_settles 40 = .ok (.aload_n 0, 1) := by decide +kernel
theorem dX12_settles_41 : decode cX12_settles 41 = .ok (.getfield 155, 3) := by decide +kernel
theorem dX12_settles_44 : decode cX12_settles 44 = .ok (.iaload, 1) := by decide +kernel
theorem dX12_settles_45 : decode cX12_settles 45 = .ok (.iconst 0, 1) := by decide +kernel
theorem dX12_settles_46 : decode cX12_settles 46 = .ok (.invokevirtual 162, 3) := by decide +kernel
theorem dX12_settles_49 : decode cX12_settles 49 = .ok (.aload_n 0, 1) := by decide +kernel
theorem dX12_settles_50 : decode cX12_settles 50 = .ok (.getfield 35, 3) := by decide +kernel
theorem dX12_settles_53 : decode cX12_settles 53 = .ok (.aload_n 0, 1) := by decide +kernel
theorem dX12_settles_54 : decode cX12_settles 54 = .ok (.getfield 155, 3) := by decide +kernel
theorem dX12_settles_57 : decode cX12_settles 57 = .ok (.iaload, 1) := by decide +kernel
theorem dX12_settles_58 : decode cX12_settles 58 = .ok (.bipush 11, 2) := by decide +kernel
theorem dX12_settles_60 : decode cX12_settles 60 = .ok (.if_icmp .ne (-60), 3) := by decide +kernel
theorem dX12_settles_63 : decode cX12_settles 63 = .ok (.aload_n 0, 1) := by decide +kernel
theorem dX12_settles_64 : decode cX12_settles 64 = .ok (.dup, 1) := by decide +kernel
theorem dX12_settles_65 : decode cX12_settles 65 = .ok (.getfield 152, 3) := by decide +kernel
theorem dX12_settles_68 : decode cX12_settles 68 = .ok (.iconst 1, 1) := by decide +kernel
theorem dX12_settles_69 : decode cX12_settles 69 = .ok (.isub, 1) := by decide +kernel
theorem dX12_settles_70 : decode cX12_settles 70 = .ok (.putfield 152, 3) := by decide +kernel
theorem dX12_settles_73 : decode cX12_settles 73 = .ok (.goto (-73), 3) := by decide +kernel
theorem dX12_settles_76 : decode cX12_settles 76 = .ok (.return_, 1) := by decide +kernel
set_option maxRecDepth 20000 in
theorem ggX12_value_X12_see : GoodIn wsX12_value wsX12_see := goodIn_r _ [8, 1, 9, 10, 65, 66, 67, 68, 69, 70, 71, 72, 73, 74, 75, 76, 77, 78, 79, 80, 81, 82, 83, 84, 85, 86, 87, 88, 89, 90, 91, 92, 93, 94, 95, 96, 97, 98, 99, 100, 101, 102, 103, 104, 105, 106] (by decide +kernel) (by decide +kernel)
set_option maxRecDepth 20000 in
theorem gX12_value_X12_see : GoodIn wsX12_value (wsV RX12 97 RX12 yX12_see wsX12_see) := goodIn_app (goodIn_of _ (by decide +kernel)) ggX12_value_X12_see
set_option maxRecDepth 20000 in
theorem ggX12_value_X12_isDigit : GoodIn wsX12_value wsX12_isDigit := goodIn_r _ [14, 9, 10, 65, 66, 67, 68, 69, 70, 71, 72, 73, 74, 75, 76, 77, 78, 79, 80, 81, 82, 83, 84, 85, 86, 87, 88, 89, 90, 91, 92, 93, 94, 95, 96, 97, 98, 99, 100, 101, 102, 103, 104, 105, 106] (by decide +kernel) (by decide +kernel)
set_option maxRecDepth 20000 in
theorem gX12_value_X12_isDigit : GoodIn wsX12_value (wsV RX12 112 RX12 yX12_isDigit wsX12_isDigit) := goodIn_app (goodIn_of _ (by decide +kernel)) ggX12_value_X12_isDigit
set_option maxRecDepth 20000 in
theorem ggX12_value_X12_numberHere : GoodIn wsX12_value wsX12_numberHere := goodIn_r _ [18, 1, 10, 3, 4, 5, 6, 7, 8, 9, 11, 12, 13, 14, 19, 20, 21, 22, 23, 24, 25, 26, 65, 66, 67, 68, 69, 70, 71, 72, 73, 74, 75, 76, 77, 78, 79, 80, 81, 82, 83, 84, 85, 86, 87, 88, 89, 90, 91, 92, 93, 94, 95, 96, 97, 98, 99, 100, 101, 102, 103, 104, 105, 106] (by decide +kernel) (by decide +kernel)
set_option maxRecDepth 20000 in
theorem gX12_value_X12_numberHere : GoodIn wsX12_value (wsV RX12 167 RX12 yX12_numberHere wsX12_numberHere) := goodIn_app (goodIn_of _ (by decide +kernel)) ggX12_value_X12_numberHere
set_option maxRecDepth 20000 in
theorem ggX12_value_X12_makes : GoodIn wsX12_value wsX12_makes := goodIn_r _ [30, 31, 19, 20, 21, 7, 22, 23, 65, 66, 67, 68, 69, 70, 71, 72, 73, 74, 75, 76, 77, 78, 79, 80, 81, 82, 83, 84, 85, 86, 87, 88, 89, 90, 91, 92, 93, 94, 95, 96, 97, 98, 99, 100, 101, 102, 103, 104, 105, 106] (by decide +kernel) (by decide +kernel)
set_option maxRecDepth 20000 in
theorem gX12_value_X12_makes : GoodIn wsX12_value (wsV RX12 170 RX12 yX12_makes wsX12_makes) := goodIn_app (goodIn_of _ (by decide +kernel)) ggX12_value_X12_makes
set_option maxRecDepth 20000 in
theorem ggX12_value_X12_puts : GoodIn wsX12_value wsX12_puts := goodIn_r _ [35, 36, 37, 38, 65, 66, 67, 68, 69, 70, 71, 72, 73, 74, 75, 76, 77, 78, 79, 80, 81, 82, 83, 84, 85, 86, 87, 88, 89, 90, 91, 92, 93, 94, 95, 96, 97, 98, 99, 100, 101, 102, 103, 104, 105, 106] (by decide +kernel) (by decide +kernel)
set_option maxRecDepth 20000 in
theorem gX12_value_X12_puts : GoodIn wsX12_value (wsV RX12 162 RX12 yX12_puts wsX12_puts) := goodIn_app (goodIn_of _ (by decide +kernel)) ggX12_value_X12_puts
set_option maxRecDepth 20000 in
theorem ggX12_value_X12_wordHere : GoodIn wsX12_value wsX12_wordHere := goodIn_r _ [42, 43, 44, 45, 46, 47, 48, 49, 50, 51, 52, 53, 54, 55, 7, 56, 1, 10, 4, 5, 6, 8, 9, 57, 58, 59, 60, 65, 66, 67, 68, 69, 70, 71, 72, 73, 74, 75, 76, 77, 78, 79, 80, 81, 82, 83, 84, 85, 86, 87, 88, 89, 90, 91, 92, 93, 94, 95, 96, 97, 98, 99, 100, 101, 102, 103, 104, 105, 106] (by decide +kernel) (by decide +kernel)
set_option maxRecDepth 20000 in
theorem gX12_value_X12_wordHere : GoodIn wsX12_value (wsV RX12 173 RX12 yX12_wordHere wsX12_wordHere) := goodIn_app (goodIn_of _ (by decide +kernel)) ggX12_value_X12_wordHere
set_option maxRecDepth 20000 in
theorem ggX12_value_X12_fails : GoodIn wsX12_value wsX12_fails := goodIn_r _ [22, 23, 65, 66, 67, 68, 69, 70, 71, 72, 73, 74, 75, 76, 77, 78, 79, 80, 81, 82, 83, 84, 85, 86, 87, 88, 89, 90, 91, 92, 93, 94, 95, 96, 97, 98, 99, 100, 101, 102, 103, 104, 105, 106] (by decide +kernel) (by decide +kernel)
set_option maxRecDepth 20000 in
theorem gX12_value_X12_fails : GoodIn wsX12_value (wsV RX12 115 RX12 yX12_fails wsX12_fails) := goodIn_app (goodIn_of _ (by decide +kernel)) ggX12_value_X12_fails
set_option maxRecDepth 20000 in
theorem ggX12_value_X12_passWord : GoodIn wsX12_value wsX12_passWord := goodIn_r _ [64, 1, 57, 58, 59, 7, 60, 9, 10, 65, 66, 67, 68, 69, 70, 71, 72, 73, 74, 75, 76, 77, 78, 79, 80, 81, 82, 83, 84, 85, 86, 87, 88, 89, 90, 91, 92, 93, 94, 95, 96, 97, 98, 99, 100, 101, 102, 103, 104, 105, 106] (by decide +kernel) (by decide +kernel)
set_option maxRecDepth 20000 in
theorem gX12_value_X12_passWord : GoodIn wsX12_value (wsV RX12 109 RX12 yX12_passWord wsX12_passWord) := goodIn_app (goodIn_of _ (by decide +kernel)) ggX12_value_X12_passWord
theorem dX12_value_0 : decode cX12_value 0 = .ok (.aload_n 0, 1) := by decide +kernel
theorem dX12_value_1 : decode cX12_value 1 = .ok (.invokevirtual 97, 3) := by decide +kernel
theorem dX12_value_4 : decode cX12_value 4 = .ok (.pop, 1) := by decide +kernel
theorem dX12_value_5 : decode cX12_value 5 = .ok (.aload_n 0, 1) := by decide +kernel
theorem dX12_value_6 : decode cX12_value 6 = .ok (.getfield 94, 3) := by decide +kernel
theorem dX12_value_9 : decode cX12_value 9 = .ok (.istore_n 1, 1) := by decide +kernel
theorem dX12_value_10 : decode cX12_value 10 = .ok (.aload_n 0, 1) := by decide +kernel
theorem dX12_value_11 : decode cX12_value 11 = .ok (.aload_n 0, 1) := by decide +kernel
theorem dX12_value_12 : decode cX12_value 12 = .ok (.getfield 94, 3) := by decide +kernel
theorem dX12_value_15 : decode cX12_value 15 = .ok (.invokevirtual 112, 3) := by decide +kernel
theorem dX12_value_18 : decode cX12_value 18 = .ok (.ifCond .eq 34, 3) := by decide +kernel
theorem dX12_value_21 : decode cX12_value 21 = .ok (.aload_n 0, 1) := by decide +kernel
theorem dX12_value_22 : decode cX12_value 22 = .ok (.iconst 0, 1) := by decide +kernel
theorem dX12_value_23 : decode cX12_value 23 = .ok (.ldc 166, 2) := by decide +kernel
theorem dX12_value_25 : decode cX12_value 25 = .ok (.invokevirtual 167, 3) := by decide +kernel
theorem dX12_value_28 : decode cX12_value 28 = .ok (.ifCond .eq 11, 3) := by decide +kernel
theorem dX12_value_31 : decode cX12_value 31 = .ok (.aload_n 0, 1) := by decide +kernel
theorem dX12_value_32 : decode cX12_value 32 = .ok (.iload_n 1, 1) := by decide +kernel
theorem dX12_value_33 : decode cX12_value 33 = .ok (.invokevirtual 170, 3) := by decide +kernel
theorem dX12_value_36 : decode cX12_value 36 = .ok (.ifCond .ne 5, 3) := by decide +kernel
theorem dX12_value_39 : decode cX12_value 39 = .ok (.iconst 0, 1) := by decide +kernel
theorem dX12_value_40 : decode cX12_value 40 = .ok (.ireturn, 1) := by decide +kernel
theorem dX12_value_41 : decode cX12_value 41 = .ok (.aload_n 0, 1) := by decide +kernel
theorem dX12_value_42 : decode cX12_value 42 = .ok (.iconst 0, 1) := by decide +kernel
theorem dX12_value_43 : decode cX12_value 43 = .ok (.aload_n 0, 1) := by decide +kernel
theorem dX12_value_44 : decode cX12_value 44 = .ok (.getfield 119, 3) := by decide +kernel
theorem dX12_value_47 : decode cX12_value 47 = .ok (.invokevirtual 162, 3) := by decide +kernel
theorem dX12_value_50 : decode cX12_value 50 = .ok (.iconst 1, 1) := by decide +kernel
theorem dX12_value_51 : decode cX12_value 51 = .ok (.ireturn, 1) := by decide +kernel
theorem dX12_value_52 : decode cX12_value 52 = .ok (.aload_n 0, 1) := by decide +kernel
theorem dX12_value_53 : decode cX12_value 53 = .ok (.invokevirtual 173, 3) := by decide +kernel
theorem dX12_value_56 : decode cX12_value 56 = .ok (.istore_n 2, 1) := by decide +kernel
theorem dX12_value_57 : decode cX12_value 57 = .ok (.iload_n 2, 1) := by decide +kernel
theorem dX12_value_58 : decode cX12_value 58 = .ok (.ifCond .ge 10, 3) := by decide +kernel
theorem dX12_value_61 : decode cX12_value 61 = .ok (.aload_n 0, 1) := by decide +kernel
theorem dX12_value_62 : decode cX12_value 62 = .ok (.iconst 0, 1) := by decide +kernel
theorem dX12_value_63 : decode cX12_value 63 = .ok (.iload_n 1, 1) := by decide +kernel
theorem dX12_value_64 : decode cX12_value 64 = .ok (.invokevirtual 115, 3) := by decide +kernel
theorem dX12_value_67 : decode cX12_value 67 = .ok (.ireturn, 1) := by decide +kernel
theorem dX12_value_68 : decode cX12_value 68 = .ok (.aload_n 0, 1) := by decide +kernel
theorem dX12_value_69 : decode cX12_value 69 = .ok (.iload_n 1, 1) := by decide +kernel
theorem dX12_value_70 : decode cX12_value 70 = .ok (.invokevirtual 170, 3) := by decide +kernel
theorem dX12_value_73 : decode cX12_value 73 = .ok (.ifCond .ne 5, 3) := by decide +kernel
theorem dX12_value_76 : decode cX12_value 76 = .ok (.iconst 0, 1) := by decide +kernel
theorem dX12_value_77 : decode cX12_value 77 = .ok (.ireturn, 1) := by decide +kernel
theorem dX12_value_78 : decode cX12_value 78 = .ok (.aload_n 0, 1) := by decide +kernel
theorem dX12_value_79 : decode cX12_value 79 = .ok (.invokevirtual 109, 3) := by decide +kernel
theorem dX12_value_82 : decode cX12_value 82 = .ok (.aload_n 0, 1) := by decide +kernel
theorem dX12_value_83 : decode cX12_value 83 = .ok (.iconst 1, 1) := by decide +kernel
theorem dX12_value_84 : decode cX12_value 84 = .ok (.iload_n 2, 1) := by decide +kernel
theorem dX12_value_85 : decode cX12_value 85 = .ok (.invokevirtual 162, 3) := by decide +kernel
theorem dX12_value_88 : decode cX12_value 88 = .ok (.iconst 1, 1) := by decide +kernel
theorem dX12_value_89 : decode cX12_value 89 = .ok (.ireturn, 1) := by decide +kernel
set_option maxRecDepth 20000 in
theorem ggX12_term_X12_value : GoodIn wsX12_term wsX12_value := goodIn_r _ [7, 2, 8, 9, 10, 11, 12, 6, 13, 14, 1, 15, 16, 17, 18, 19, 20, 21, 22, 23, 24, 25, 26, 27, 28, 29, 30, 31, 32, 33, 34, 35, 36, 37, 38, 39, 40, 41, 42, 43, 44, 45, 46, 47, 48, 49, 50, 51, 52, 53, 54, 55, 56, 57, 58, 59, 60, 61, 62, 63, 64, 65, 66, 67, 68, 69, 70, 71, 72, 73, 74, 75, 76, 77, 78, 79, 80, 81, 82, 83, 84, 85, 86, 87, 88, 89, 90, 91, 92, 93, 94, 95, 96, 97, 98, 99, 100, 101, 102, 103, 104, 105, 106, 107, 108, 109, 110] (by decide +kernel) (by decide +kernel)
set_option maxRecDepth 20000 in
theorem gX12_term_X12_value : GoodIn wsX12_term (wsV RX12 176 RX12 yX12_value wsX12_value) := goodIn_app (goodIn_of _ (by decide +kernel)) ggX12_term_X12_value
set_option maxRecDepth 20000 in
theorem ggX12_term_X12_see : GoodIn wsX12_term wsX12_see := goodIn_r _ [13, 2, 14, 1, 69, 70, 71, 72, 73, 74, 75, 76, 77, 78, 79, 80, 81, 82, 83, 84, 85, 86, 87, 88, 89, 90, 91, 92, 93, 94, 95, 96, 97, 98, 99, 100, 101, 102, 103, 104, 105, 106, 107, 108, 109, 110] (by decide +kernel) (by decide +kernel)
set_option maxRecDepth 20000 in
theorem gX12_term_X12_see : GoodIn wsX12_term (wsV RX12 97 RX12 yX12_see wsX12_see) := goodIn_app (goodIn_of _ (by decide +kernel)) ggX12_term_X12_see
set_option maxRecDepth 20000 in
theorem ggX12_term_X12_puts : GoodIn wsX12_term wsX12_puts := goodIn_r _ [39, 40, 41, 42, 69, 70, 71, 72, 73, 74, 75, 76, 77, 78, 79, 80, 81, 82, 83, 84, 85, 86, 87, 88, 89, 90, 91, 92, 93, 94, 95, 96, 97, 98, 99, 100, 101, 102, 103, 104, 105, 106, 107, 108, 109, 110] (by decide +kernel) (by decide +kernel)
set_option maxRecDepth 20000 in
theorem gX12_term_X12_puts : GoodIn wsX12_term (wsV RX12 162 RX12 yX12_puts wsX12_puts) := goodIn_app (goodIn_of _ (by decide +kernel)) ggX12_term_X12_puts
theorem dX12_term_0 : decode cX12_term 0 = .ok (.aload_n 0, 1) := by decide +kernel
theorem dX12_term_1 : decode cX12_term 1 = .ok (.invokevirtual 176, 3) := by decide +kernel
theorem dX12_term_4 : decode cX12_term 4 = .ok (.ifCond .ne 5, 3) := by decide +kernel
theorem dX12_term_7 : decode cX12_term 7 = .ok (.iconst 0, 1) := by decide +kernel
theorem dX12_term_8 : decode cX12_term 8 = .ok (.ireturn, 1) := by decide +kernel
theorem dX12_term_9 : decode cX12_term 9 = .ok (.aload_n 0, 1) := by decide +kernel
theorem dX12_term_10 : decode cX12_term 10 = .ok (.invokevirtual 97, 3) := by decide +kernel
theorem dX12_term_13 : decode cX12_term 13 = .ok (.bipush 42, 2) := by decide +kernel
theorem dX12_term_15 : decode cX12_term 15 = .ok (.if_icmp .eq 12, 3) := by decide +kernel
theorem dX12_term_18 : decode cX12_term 18 = .ok (.aload_n 0, 1) := by decide +kernel
theorem dX12_term_19 : decode cX12_term 19 = .ok (.invokevirtual 97, 3) := by decide +kernel
theorem dX12_term_22 : decode cX12_term 22 = .ok (.bipush 47, 2) := by decide +kernel
theorem dX12_term_24 : decode cX12_term 24 = .ok (.if_icmp .ne 51, 3) := by decide +kernel
theorem dX12_term_27 : decode cX12_term 27 = .ok (.aload_n 0, 1) := by decide +kernel
theorem dX12_term_28 : decode cX12_term 28 = .ok (.getfield 7, 3) := by decide +kernel
theorem dX12_term_31 : decode cX12_term 31 = .ok (.aload_n 0, 1) := by decide +kernel
theorem dX12_term_32 : decode cX12_term 32 = .ok (.getfield 94, 3) := by decide +kernel
theorem dX12_term_35 : decode cX12_term 35 = .ok (.baload, 1) := by decide +kernel
theorem dX12_term_36 : decode cX12_term 36 = .ok (.bipush 42, 2) := by decide +kernel
theorem dX12_term_38 : decode cX12_term 38 = .ok (.if_icmp .ne 7, 3) := by decide +kernel
theorem dX12_term_41 : decode cX12_term 41 = .ok (.iconst 4, 1) := by decide +kernel
theorem dX12_term_42 : decode cX12_term 42 = .ok (.goto 4, 3) := by decide +kernel
theorem dX12_term_45 : decode cX12_term 45 = .ok (.iconst 5, 1) := by decide +kernel
theorem dX12_term_46 : decode cX12_term 46 = .ok (.istore_n 1, 1) := by decide +kernel
theorem dX12_term_47 : decode cX12_term 47 = .ok (.aload_n 0, 1) := by decide +kernel
theorem dX12_term_48 : decode cX12_term 48 = .ok (.dup, 1) := by decide +kernel
theorem dX12_term_49 : decode cX12_term 49 = .ok (.getfield 94, 3) := by decide +kernel
theorem dX12_term_52 : decode cX12_term 52 = .ok (.iconst 1, 1) := by decide +kernel
theorem dX12_term_53 : decode cX12_term 53 = .ok (.iadd, 1) := by decide +kernel
theorem dX12_term_54 : decode cX12_term 54 = .ok (.putfield 94, 3) := by decide +kernel
theorem dX12_term_57 : decode cX12_term 57 = .ok (.aload_n 0, 1) := by decide +kernel
theorem dX12_term_58 : decode cX12_term 58 = .ok (.invokevirtual 176, 3) := by decide +kernel
theorem dX12_term_61 : decode cX12_term 61 = .ok (.ifCond .ne 5, 3) := by decide +kernel
theorem dX12_term_64 : decode cX12_term 64 = .ok (.iconst 0, 1) := by decide +kernel
theorem dX12_term_65 : decode cX12_term 65 = .ok (.ireturn, 1) := by decide +kernel
theorem dX12_term_66 : decode cX12_term 66 = .ok (.aload_n 0, 1) := by decide +kernel
theorem dX12_term_67 : decode cX12_term 67 = .ok (.iload_n 1, 1) := by decide +kernel
theorem dX12_term_68 : decode cX12_term 68 = .ok (.iconst 0, 1) := by decide +kernel
theorem dX12_term_69 : decode cX12_term 69 = .ok (.invokevirtual 162, 3) := by decide +kernel
theorem dX12_term_72 : decode cX12_term 72 = .ok (.goto (-63), 3) := by decide +kernel
theorem dX12_term_75 : decode cX12_term 75 = .ok (.iconst 1, 1) := by decide +kernel
theorem dX12_term_76 : decode cX12_term 76 = .ok (.ireturn, 1) := by decide +kernel
set_option maxRecDepth 20000 in
theorem ggX12_sum_X12_term : GoodIn wsX12_sum wsX12_term := goodIn_r _ [7, 1, 2, 8, 9, 10, 6, 11, 12, 13, 14, 15, 16, 17, 18, 19, 20, 21, 22, 23, 24, 25, 26, 27, 28, 29, 30, 31, 32, 33, 34, 35, 36, 37, 38, 39, 40, 41, 42, 43, 44, 45, 46, 47, 48, 49, 50, 51, 52, 53, 54, 55, 56, 57, 58, 59, 60, 61, 62, 63, 64, 65, 66, 67, 68, 69, 70, 71, 72, 73, 74, 75, 76, 77, 78, 79, 80, 81, 82, 83, 84, 85, 86, 87, 88, 89, 90, 91, 92, 93, 94, 95, 96, 97, 98, 99, 100, 101, 102, 103, 104, 105, 106, 107, 108, 109, 110, 111, 112, 113, 114] (by decide +kernel) (by decide +kernel)
set_option maxRecDepth 20000 in
theorem gX12_sum_X12_term : GoodIn wsX12_sum (wsV RX12 180 RX12 yX12_term wsX12_term) := goodIn_app (goodIn_of _ (by decide +kernel)) ggX12_sum_X12_term
set_option maxRecDepth 20000 in
theorem ggX12_sum_X12_see : GoodIn wsX12_sum wsX12_see := goodIn_r _ [17, 2, 18, 1, 73, 74, 75, 76, 77, 78, 79, 80, 81, 82, 83, 84, 85, 86, 87, 88, 89, 90, 91, 92, 93, 94, 95, 96, 97, 98, 99, 100, 101, 102, 103, 104, 105, 106, 107, 108, 109, 110, 111, 112, 113, 114] (by decide +kernel) (by decide +kernel)
set_option maxRecDepth 20000 in
theorem gX12_sum_X12_see : GoodIn wsX12_sum (wsV RX12 97 RX12 yX12_see wsX12_see) := goodIn_app (goodIn_of _ (by decide +kernel)) ggX12_sum_X12_see
set_option maxRecDepth 20000 in
theorem ggX12_sum_X12_puts : GoodIn wsX12_sum wsX12_puts := goodIn_r _ [43, 44, 45, 46, 73, 74, 75, 76, 77, 78, 79, 80, 81, 82, 83, 84, 85, 86, 87, 88, 89, 90, 91, 92, 93, 94, 95, 96, 97, 98, 99, 100, 101, 102, 103, 104, 105, 106, 107, 108, 109, 110, 111, 112, 113, 114] (by decide +kernel) (by decide +kernel)
set_option maxRecDepth 20000 in
theorem gX12_sum_X12_puts : GoodIn wsX12_sum (wsV RX12 162 RX12 yX12_puts wsX12_puts) := goodIn_app (goodIn_of _ (by decide +kernel)) ggX12_sum_X12_puts
theorem dX12_sum_0 : decode cX12_sum 0 = .ok (.aload_n 0, 1) := by decide +kernel
theorem dX12_sum_1 : decode cX12_sum 1 = .ok (.invokevirtual 180, 3) := by decide +kernel
theorem dX12_sum_4 : decode cX12_sum 4 = .ok (.ifCond .ne 5, 3) := by decide +kernel
theorem dX12_sum_7 : decode cX12_sum 7 = .ok (.iconst 0, 1) := by decide +kernel
theorem dX12_sum_8 : decode cX12_sum 8 = .ok (.ireturn, 1) := by decide +kernel
theorem dX12_sum_9 : decode cX12_sum 9 = .ok (.aload_n 0, 1) := by decide +kernel
theorem dX12_sum_10 : decode cX12_sum 10 = .ok (.invokevirtual 97, 3) := by decide +kernel
theorem dX12_sum_13 : decode cX12_sum 13 = .ok (.bipush 43, 2) := by decide +kernel
theorem dX12_sum_15 : decode cX12_sum 15 = .ok (.if_icmp .eq 12, 3) := by decide +kernel
theorem dX12_sum_18 : decode cX12_sum 18 = .ok (.aload_n 0, 1) := by decide +kernel
theorem dX12_sum_19 : decode cX12_sum 19 = .ok (.invokevirtual 97, 3) := by decide +kernel
theorem dX12_sum_22 : decode cX12_sum 22 = .ok (.bipush 45, 2) := by decide +kernel
theorem dX12_sum_24 : decode cX12_sum 24 = .ok (.if_icmp .ne 51, 3) := by decide +kernel
theorem dX12_sum_27 : decode cX12_sum 27 = .ok (.aload_n 0, 1) := by decide +kernel
theorem dX12_sum_28 : decode cX12_sum 28 = .ok (.getfield 7, 3) := by decide +kernel
theorem dX12_sum_31 : decode cX12_sum 31 = .ok (.aload_n 0, 1) := by decide +kernel
theorem dX12_sum_32 : decode cX12_sum 32 = .ok (.getfield 94, 3) := by decide +kernel
theorem dX12_sum_35 : decode cX12_sum 35 = .ok (.baload, 1) := by decide +kernel
theorem dX12_sum_36 : decode cX12_sum 36 = .ok (.bipush 43, 2) := by decide +kernel
theorem dX12_sum_38 : decode cX12_sum 38 = .ok (.if_icmp .ne 7, 3) := by decide +kernel
theorem dX12_sum_41 : decode cX12_sum 41 = .ok (.iconst 2, 1) := by decide +kernel
theorem dX12_sum_42 : decode cX12_sum 42 = .ok (.goto 4, 3) := by decide +kernel
theorem dX12_sum_45 : decode cX12_sum 45 = .ok (.iconst 3, 1) := by decide +kernel
theorem dX12_sum_46 : decode cX12_sum 46 = .ok (.istore_n 1, 1) := by decide +kernel
theorem dX12_sum_47 : decode cX12_sum 47 = .ok (.aload_n 0, 1) := by decide +kernel
theorem dX12_sum_48 : decode cX12_sum 48 = .ok (.dup, 1) := by decide +kernel
theorem dX12_sum_49 : decode cX12_sum 49 = .ok (.getfield 94, 3) := by decide +kernel
theorem dX12_sum_52 : decode cX12_sum 52 = .ok (.iconst 1, 1) := by decide +kernel
theorem dX12_sum_53 : decode cX12_sum 53 = .ok (.iadd, 1) := by decide +kernel
theorem dX12_sum_54 : decode cX12_sum 54 = .ok (.putfield 94, 3) := by decide +kernel
theorem dX12_sum_57 : decode cX12_sum 57 = .ok (.aload_n 0, 1) := by decide +kernel
theorem dX12_sum_58 : decode cX12_sum 58 = .ok (.invokevirtual 180, 3) := by decide +kernel
theorem dX12_sum_61 : decode cX12_sum 61 = .ok (.ifCond .ne 5, 3) := by decide +kernel
theorem dX12_sum_64 : decode cX12_sum 64 = .ok (.iconst 0, 1) := by decide +kernel
theorem dX12_sum_65 : decode cX12_sum 65 = .ok (.ireturn, 1) := by decide +kernel
theorem dX12_sum_66 : decode cX12_sum 66 = .ok (.aload_n 0, 1) := by decide +kernel
theorem dX12_sum_67 : decode cX12_sum 67 = .ok (.iload_n 1, 1) := by decide +kernel
theorem dX12_sum_68 : decode cX12_sum 68 = .ok (.iconst 0, 1) := by decide +kernel
theorem dX12_sum_69 : decode cX12_sum 69 = .ok (.invokevirtual 162, 3) := by decide +kernel
theorem dX12_sum_72 : decode cX12_sum 72 = .ok (.goto (-63), 3) := by decide +kernel
theorem dX12_sum_75 : decode cX12_sum 75 = .ok (.iconst 1, 1) := by decide +kernel
theorem dX12_sum_76 : decode cX12_sum 76 = .ok (.ireturn, 1) := by decide +kernel
set_option maxRecDepth 20000 in
theorem ggX12_compare_X12_sum : GoodIn wsX12_compare wsX12_sum := goodIn_r _ [8, 3, 1, 9, 10, 11, 7, 12, 13, 14, 15, 16, 17, 18, 19, 20, 21, 22, 2, 23, 24, 25, 26, 27, 28, 29, 30, 31, 32, 33, 34, 35, 36, 37, 38, 39, 40, 41, 42, 43, 44, 45, 46, 47, 48, 49, 50, 51, 52, 53, 54, 55, 56, 57, 58, 59, 60, 61, 62, 63, 64, 65, 66, 67, 68, 69, 70, 71, 72, 73, 74, 75, 76, 77, 78, 79, 80, 81, 82, 83, 84, 85, 86, 87, 88, 89, 90, 91, 92, 93, 94, 95, 96, 97, 98, 99, 100, 101, 102, 103, 104, 105, 106, 107, 108, 109, 110, 111, 112, 113, 114, 115, 116, 117, 118] (by decide +kernel) (by decide +kernel)
set_option maxRecDepth 20000 in
theorem gX12_compare_X12_sum : GoodIn wsX12_compare (wsV RX12 183 RX12 yX12_sum wsX12_sum) := goodIn_app (goodIn_of _ (by decide +kernel)) ggX12_compare_X12_sum
set_option maxRecDepth 20000 in
theorem ggX12_compare_X12_see : GoodIn wsX12_compare wsX12_see := goodIn_r _ [22, 1, 2, 3, 77, 78, 79, 80, 81, 82, 83, 84, 85, 86, 87, 88, 89, 90, 91, 92, 93, 94, 95, 96, 97, 98, 99, 100, 101, 102, 103, 104, 105, 106, 107, 108, 109, 110, 111, 112, 113, 114, 115, 116, 117, 118] (by decide +kernel) (by decide +kernel)
set_option maxRecDepth 20000 in
theorem gX12_compare_X12_see : GoodIn wsX12_compare (wsV RX12 97 RX12 yX12_see wsX12_see) := goodIn_app (goodIn_of _ (by decide +kernel)) ggX12_compare_X12_see
set_option maxRecDepth 20000 in
theorem ggX12_compare_X12_fails : GoodIn wsX12_compare wsX12_fails := goodIn_r _ [34, 35, 77, 78, 79, 80, 81, 82, 83, 84, 85, 86, 87, 88, 89, 90, 91, 92, 93, 94, 95, 96, 97, 98, 99, 100, 101, 102, 103, 104, 105, 106, 107, 108, 109, 110, 111, 112, 113, 114, 115, 116, 117, 118] (by decide +kernel) (by decide +kernel)
set_option maxRecDepth 20000 in
theorem gX12_compare_X12_fails : GoodIn wsX12_compare (wsV RX12 115 RX12 yX12_fails wsX12_fails) := goodIn_app (goodIn_of _ (by decide +kernel)) ggX12_compare_X12_fails
set_option maxRecDepth 20000 in
theorem ggX12_compare_X12_makes : GoodIn wsX12_compare wsX12_makes := goodIn_r _ [42, 43, 31, 32, 33, 7, 34, 35, 77, 78, 79, 80, 81, 82, 83, 84, 85, 86, 87, 88, 89, 90, 91, 92, 93, 94, 95, 96, 97, 98, 99, 100, 101, 102, 103, 104, 105, 106, 107, 108, 109, 110, 111, 112, 113, 114, 115, 116, 117, 118] (by decide +kernel) (by decide +kernel)
set_option maxRecDepth 20000 in
theorem gX12_compare_X12_makes : GoodIn wsX12_compare (wsV RX12 170 RX12 yX12_makes wsX12_makes) := goodIn_app (goodIn_of _ (by decide +kernel)) ggX12_compare_X12_makes
set_option maxRecDepth 20000 in
theorem ggX12_compare_X12_puts : GoodIn wsX12_compare wsX12_puts := goodIn_r _ [47, 48, 49, 50, 77, 78, 79, 80, 81, 82, 83, 84, 85, 86, 87, 88, 89, 90, 91, 92, 93, 94, 95, 96, 97, 98, 99, 100, 101, 102, 103, 104, 105, 106, 107, 108, 109, 110, 111, 112, 113, 114, 115, 116, 117, 118] (by decide +kernel) (by decide +kernel)
set_option maxRecDepth 20000 in
theorem gX12_compare_X12_puts : GoodIn wsX12_compare (wsV RX12 162 RX12 yX12_puts wsX12_puts) := goodIn_app (goodIn_of _ (by decide +kernel)) ggX12_compare_X12_puts
theorem dX12_compare_0 : decode cX12_compare 0 = .ok (.aload_n 0, 1) := by decide +kernel
theorem dX12_compare_1 : decode cX12_compare 1 = .ok (.invokevirtual 183, 3) := by decide +kernel
theorem dX12_compare_4 : decode cX12_compare 4 = .ok (.ifCond .ne 5, 3) := by decide +kernel
theorem dX12_compare_7 : decode cX12_compare 7 = .ok (.iconst 0, 1) := by decide +kernel
theorem dX12_compare_8 : decode cX12_compare 8 = .ok (.ireturn, 1) := by decide +kernel
theorem dX12_compare_9 : decode cX12_compare 9 = .ok (.aload_n 0, 1) := by decide +kernel
theorem dX12_compare_10 : decode cX12_compare 10 = .ok (.invokevirtual 97, 3) := by decide +kernel
theorem dX12_compare_13 : decode cX12_compare 13 = .ok (.istore_n 1, 1) := by decide +kernel
theorem dX12_compare_14 : decode cX12_compare 14 = .ok (.aload_n 0, 1) := by decide +kernel
theorem dX12_compare_15 : decode cX12_compare 15 = .ok (.getfield 94, 3) := by decide +kernel
theorem dX12_compare_18 : decode cX12_compare 18 = .ok (.istore_n 2, 1) := by decide +kernel
theorem dX12_compare_19 : decode cX12_compare 19 = .ok (.iload_n 1, 1) := by decide +kernel
theorem dX12_compare_20 : decode cX12_compare 20 = .ok (.bipush 60, 2) := by decide +kernel
theorem dX12_compare_22 : decode cX12_compare 22 = .ok (.if_icmp .eq 22, 3) := by decide +kernel
theorem dX12_compare_25 : decode cX12_compare 25 = .ok (.iload_n 1, 1) := by decide +kernel
theorem dX12_compare_26 : decode cX12_compare 26 = .ok (.bipush 61, 2) := by decide +kernel
theorem dX12_compare_28 : decode cX12_compare 28 = .ok (.if_icmp .eq 16, 3) := by decide +kernel
theorem dX12_compare_31 : decode cX12_compare 31 = .ok (.iload_n 1, 1) := by decide +kernel
theorem dX12_compare_32 : decode cX12_compare 32 = .ok (.bipush 62, 2) := by decide +kernel
theorem dX12_compare_34 : decode cX12_compare 34 = .ok (.if_icmp .eq 10, 3) := by decide +kernel
theorem dX12_compare_37 : decode cX12_compare 37 = .ok (.aload_n 0, 1) := by decide +kernel
theorem dX12_compare_38 : decode cX12_compare 38 = .ok (.iconst 0, 1) := by decide +kernel
theorem dX12_compare_39 : decode cX12_compare 39 = .ok (.iload_n 2, 1) := by decide +kernel
theorem dX12_compare_40 : decode cX12_compare 40 = .ok (.invokevirtual 115, 3) := by decide +kernel
theorem dX12_compare_43 : decode cX12_compare 43 = .ok (.ireturn, 1) := by decide +kernel
theorem dX12_compare_44 : decode cX12_compare 44 = .ok (.aload_n 0, 1) := by decide +kernel
theorem dX12_compare_45 : decode cX12_compare 45 = .ok (.dup, 1) := by decide +kernel
theorem dX12_compare_46 : decode cX12_compare 46 = .ok (.getfield 94, 3) := by decide +kernel
theorem dX12_compare_49 : decode cX12_compare 49 = .ok (.iconst 1, 1) := by decide +kernel
theorem dX12_compare_50 : decode cX12_compare 50 = .ok (.iadd, 1) := by decide +kernel
theorem dX12_compare_51 : decode cX12_compare 51 = .ok (.putfield 94, 3) := by decide +kernel
theorem dX12_compare_54 : decode cX12_compare 54 = .ok (.iload_n 1, 1) := by decide +kernel
theorem dX12_compare_55 : decode cX12_compare 55 = .ok (.bipush 61, 2) := by decide +kernel
theorem dX12_compare_57 : decode cX12_compare 57 = .ok (.if_icmp .eq 32, 3) := by decide +kernel
theorem dX12_compare_60 : decode cX12_compare 60 = .ok (.aload_n 0, 1) := by decide +kernel
theorem dX12_compare_61 : decode cX12_compare 61 = .ok (.getfield 94, 3) := by decide +kernel
theorem dX12_compare_64 : decode cX12_compare 64 = .ok (.aload_n 0, 1) := by decide +kernel
theorem dX12_compare_65 : decode cX12_compare 65 = .ok (.getfield 83, 3) := by decide +kernel
theorem dX12_compare_68 : decode cX12_compare 68 = .ok (.if_icmp .ge 21, 3) := by decide +kernel
theorem dX12_compare_71 : decode cX12_compare 71 = .ok (.aload_n 0, 1) := by decide +kernel
theorem dX12_compare_72 : decode cX12_compare 72 = .ok (.getfield 7, 3) := by decide +kernel
theorem dX12_compare_75 : decode cX12_compare 75 = .ok (.aload_n 0, 1) := by decide +kernel
theorem dX12_compare_76 : decode cX12_compare 76 = .ok (.getfield 94, 3) := by decide +kernel
theorem dX12_compare_79 : decode cX12_compare 79 = .ok (.baload, 1) := by decide +kernel
theorem dX12_compare_80 : decode cX12_compare 80 = .ok (.bipush 61, 2) := by decide +kernel
theorem dX12_compare_82 : decode cX12_compare 82 = .ok (.if_icmp .ne 7, 3) := by decide +kernel
theorem dX12_compare_85 : decode cX12_compare 85 = .ok (.iconst 1, 1) := by decide +kernel
theorem dX12_compare_86 : decode cX12_compare 86 = .ok (.goto 4, 3) := by decide +kernel
theorem dX12_compare_89 : decode cX12_compare 89 = .ok (.iconst 0, 1) := by decide +kernel
theorem dX12_compare_90 : decode cX12_compare 90 = .ok (.istore_n 3, 1) := by decide +kernel
theorem dX12_compare_91 : decode cX12_compare 91 = .ok (.iload_n 3, 1) := by decide +kernel
theorem dX12_compare_92 : decode cX12_compare 92 = .ok (.ifCond .eq 13, 3) := by decide +kernel
theorem dX12_compare_95 : decode cX12_compare 95 = .ok (.aload_n 0, 1) := by decide +kernel
theorem dX12_compare_96 : decode cX12_compare 96 = .ok (.dup, 1) := by decide +kernel
theorem dX12_compare_97 : decode cX12_compare 97 = .ok (.getfield 94, 3) := by decide +kernel
theorem dX12_compare_100 : decode cX12_compare 100 = .ok (.iconst 1, 1) := by decide +kernel
theorem dX12_compare_101 : decode cX12_compare 101 = .ok (.iadd, 1) := by decide +kernel
theorem dX12_compare_102 : decode cX12_compare 102 = .ok (.putfield 94, 3) := by decide +kernel
theorem dX12_compare_105 : decode cX12_compare 105 = .ok (.aload_n 0, 1) := by decide +kernel
theorem dX12_compare_106 : decode cX12_compare 106 = .ok (.iload_n 2, 1) := by decide +kernel
theorem dX12_compare_107 : decode cX12_compare 107 = .ok (.invokevirtual 170, 3) := by decide +kernel
theorem dX12_compare_110 : decode cX12_compare 110 = .ok (.ifCond .ne 5, 3) := by decide +kernel
theorem dX12_compare_113 : decode cX12_compare 113 = .ok (.iconst 0, 1) := by decide +kernel
theorem dX12_compare_114 : decode cX12_compare 114 = .ok (.ireturn, 1) := by decide +kernel
theorem dX12_compare_115 : decode cX12_compare 115 = .ok (.iload_n 1, 1) := by decide +kernel
theorem dX12_compare_116 : decode cX12_compare 116 = .ok (.bipush 60, 2) := by decide +kernel
theorem dX12_compare_118 : decode cX12_compare 118 = .ok (.if_icmp .ne 15, 3) := by decide +kernel
theorem dX12_compare_121 : decode cX12_compare 121 = .ok (.iload_n 3, 1) := by decide +kernel
theorem dX12_compare_122 : decode cX12_compare 122 = .ok (.ifCond .eq 7, 3) := by decide +kernel
theorem dX12_compare_125 : decode cX12_compare 125 = .ok (.iconst 1, 1) := by decide +kernel
theorem dX12_compare_126 : decode cX12_compare 126 = .ok (.goto 26, 3) := by decide +kernel
theorem dX12_compare_129 : decode cX12_compare 129 = .ok (.iconst 0, 1) := by decide +kernel
theorem dX12_compare_130 : decode cX12_compare 130 = .ok (.goto 22, 3) := by decide +kernel
theorem dX12_compare_133 : decode cX12_compare 133 = .ok (.iload_n 1, 1) := by decide +kernel
theorem dX12_compare_134 : decode cX12_compare 134 = .ok (.bipush 61, 2) := by decide +kernel
theorem dX12_compare_136 : decode cX12_compare 136 = .ok (.if_icmp .ne 7, 3) := by decide +kernel
theorem dX12_compare_139 : decode cX12_compare 139 = .ok (.iconst 2, 1) := by decide +kernel
theorem dX12_compare_140 : decode cX12_compare 140 = .ok (.goto 12, 3) := by decide +kernel
theorem dX12_compare_143 : decode cX12_compare 143 = .ok (.iload_n 3, 1) := by decide +kernel
theorem dX12_compare_144 : decode cX12_compare 144 = .ok (.ifCond .eq 7, 3) := by decide +kernel
theorem dX12_compare_147 : decode cX12_compare 147 = .ok (.iconst 3, 1) := by decide +kernel
theorem dX12_compare_148 : decode cX12_compare 148 = .ok (.goto 4, 3) := by decide +kernel
theorem dX12_compare_151 : decode cX12_compare 151 = .ok (.iconst 4, 1) := by decide +kernel
theorem dX12_compare_152 : decode cX12_compare 152 = .ok (.istore 4, 2) := by decide +kernel
theorem dX12_compare_154 : decode cX12_compare 154 = .ok (.aload_n 0, 1) := by decide +kernel
theorem dX12_compare_155 : decode cX12_compare 155 = .ok (.invokevirtual 183, 3) := by decide +kernel
theorem dX12_compare_158 : decode cX12_compare 158 = .ok (.ifCond .ne 5, 3) := by decide +kernel
theorem dX12_compare_161 : decode cX12_compare 161 = .ok (.iconst 0, 1) := by decide +kernel
theorem dX12_compare_162 : decode cX12_compare 162 = .ok (.ireturn, 1) := by decide +kernel
theorem dX12_compare_163 : decode cX12_compare 163 = .ok (.aload_n 0, 1) := by decide +kernel
theorem dX12_compare_164 : decode cX12_compare 164 = .ok (.bipush 6, 2) := by decide +kernel
theorem dX12_compare_166 : decode cX12_compare 166 = .ok (.iload 4, 2) := by decide +kernel
theorem dX12_compare_168 : decode cX12_compare 168 = .ok (.iadd, 1) := by decide +kernel
theorem dX12_compare_169 : decode cX12_compare 169 = .ok (.iconst 0, 1) := by decide +kernel
theorem dX12_compare_170 : decode cX12_compare 170 = .ok (.invokevirtual 162, 3) := by decide +kernel
theorem dX12_compare_173 : decode cX12_compare 173 = .ok (.iconst 1, 1) := by decide +kernel
theorem dX12_compare_174 : decode cX12_compare 174 = .ok (.ireturn, 1) := by decide +kernel
set_option maxRecDepth 20000 in
theorem ggX12_fact_X12_see : GoodIn wsX12_fact wsX12_see := goodIn_r _ [7, 2, 8, 9, 89, 90, 91, 92, 93, 94, 95, 96, 97, 98, 99, 100, 101, 102, 103, 104, 105, 106, 107, 108, 109, 110, 111, 112, 113, 114, 115, 116, 117, 118, 119, 120, 121, 122, 123, 124, 125, 126, 127, 128, 129, 130] (by decide +kernel) (by decide +kernel)
set_option maxRecDepth 20000 in
theorem gX12_fact_X12_see : GoodIn wsX12_fact (wsV RX12 97 RX12 yX12_see wsX12_see) := goodIn_app (goodIn_of _ (by decide +kernel)) ggX12_fact_X12_see
set_option maxRecDepth 20000 in
theorem ggX12_fact_X12_isWord : GoodIn wsX12_fact wsX12_isWord := goodIn_r _ [13, 2, 9, 3, 4, 5, 6, 7, 8, 14, 15, 16, 17, 89, 90, 91, 92, 93, 94, 95, 96, 97, 98, 99, 100, 101, 102, 103, 104, 105, 106, 107, 108, 109, 110, 111, 112, 113, 114, 115, 116, 117, 118, 119, 120, 121, 122, 123, 124, 125, 126, 127, 128, 129, 130] (by decide +kernel) (by decide +kernel)
set_option maxRecDepth 20000 in
theorem gX12_fact_X12_isWord : GoodIn wsX12_fact (wsV RX12 105 RX12 yX12_isWord wsX12_isWord) := goodIn_app (goodIn_of _ (by decide +kernel)) ggX12_fact_X12_isWord
set_option maxRecDepth 20000 in
theorem ggX12_fact_X12_opens : GoodIn wsX12_fact wsX12_opens := goodIn_r _ [21, 22, 2, 23, 24, 25, 26, 27, 6, 28, 29, 89, 90, 91, 92, 93, 94, 95, 96, 97, 98, 99, 100, 101, 102, 103, 104, 105, 106, 107, 108, 109, 110, 111, 112, 113, 114, 115, 116, 117, 118, 119, 120, 121, 122, 123, 124, 125, 126, 127, 128, 129, 130] (by decide +kernel) (by decide +kernel)
set_option maxRecDepth 20000 in
theorem gX12_fact_X12_opens : GoodIn wsX12_fact (wsV RX12 188 RX12 yX12_opens wsX12_opens) := goodIn_app (goodIn_of _ (by decide +kernel)) ggX12_fact_X12_opens
set_option maxRecDepth 20000 in
theorem ggX12_fact_X12_passWord : GoodIn wsX12_fact wsX12_passWord := goodIn_r _ [33, 2, 14, 15, 16, 6, 17, 8, 9, 89, 90, 91, 92, 93, 94, 95, 96, 97, 98, 99, 100, 101, 102, 103, 104, 105, 106, 107, 108, 109, 110, 111, 112, 113, 114, 115, 116, 117, 118, 119, 120, 121, 122, 123, 124, 125, 126, 127, 128, 129, 130] (by decide +kernel) (by decide +kernel)
set_option maxRecDepth 20000 in
theorem gX12_fact_X12_passWord : GoodIn wsX12_fact (wsV RX12 109 RX12 yX12_passWord wsX12_passWord) := goodIn_app (goodIn_of _ (by decide +kernel)) ggX12_fact_X12_passWord
set_option maxRecDepth 20000 in
theorem ggX12_fact_X12_compare : GoodIn wsX12_fact wsX12_compare := goodIn_r _ [37, 2, 8, 9, 38, 39, 40, 6, 41, 42, 43, 44, 45, 46, 47, 48, 49, 50, 51, 3, 4, 5, 7, 52, 53, 54, 55, 56, 57, 58, 59, 25, 26, 27, 28, 29, 60, 61, 62, 63, 64, 65, 66, 67, 68, 69, 70, 71, 72, 73, 74, 75, 76, 77, 78, 79, 80, 81, 82, 83, 84, 85, 86, 87, 88, 10, 11, 12, 13, 14, 15, 16, 17, 30, 31, 32, 33, 89, 90, 91, 92, 93, 94, 95, 96, 97, 98, 99, 100, 101, 102, 103, 104, 105, 106, 107, 108, 109, 110, 111, 112, 113, 114, 115, 116, 117, 118, 119, 120, 121, 122, 123, 124, 125, 126, 127, 128, 129, 130] (by decide +kernel) (by decide +kernel)
set_option maxRecDepth 20000 in
theorem gX12_fact_X12_compare : GoodIn wsX12_fact (wsV RX12 191 RX12 yX12_compare wsX12_compare) := goodIn_app (goodIn_of _ (by decide +kernel)) ggX12_fact_X12_compare
theorem dX12_fact_0 : decode cX12_fact 0 = .ok (.iconst 1, 1) := by decide +kernel
theorem dX12_fact_1 : decode cX12_fact 1 = .ok (.istore_n 1, 1) := by decide +kernel
theorem dX12_fact_2 : decode cX12_fact 2 = .ok (.iload_n 1, 1) := by decide +kernel
theorem dX12_fact_3 : decode cX12_fact 3 = .ok (.ifCond .eq 72, 3) := by decide +kernel
theorem dX12_fact_6 : decode cX12_fact 6 = .ok (.iconst 0, 1) := by decide +kernel
theorem dX12_fact_7 : decode cX12_fact 7 = .ok (.istore_n 1, 1) := by decide +kernel
theorem dX12_fact_8 : decode cX12_fact 8 = .ok (.aload_n 0, 1) := by decide +kernel
theorem dX12_fact_9 : decode cX12_fact 9 = .ok (.invokevirtual 97, 3) := by decide +kernel
theorem dX12_fact_12 : decode cX12_fact 12 = .ok (.istore_n 2, 1) := by decide +kernel
theorem dX12_fact_13 : decode cX12_fact 13 = .ok (.aload_n 0, 1) := by decide +kernel
theorem dX12_fact_14 : decode cX12_fact 14 = .ok (.ldc2_w 186, 3) := by decide +kernel
theorem dX12_fact_17 : decode cX12_fact 17 = .ok (.invokevirtual 105, 3) := by decide +kernel
theorem dX12_fact_20 : decode cX12_fact 20 = .ok (.ifCond .eq 23, 3) := by decide +kernel
theorem dX12_fact_23 : decode cX12_fact 23 = .ok (.aload_n 0, 1) := by decide +kernel
theorem dX12_fact_24 : decode cX12_fact 24 = .ok (.bipush 11, 2) := by decide +kernel
theorem dX12_fact_26 : decode cX12_fact 26 = .ok (.invokevirtual 188, 3) := by decide +kernel
theorem dX12_fact_29 : decode cX12_fact 29 = .ok (.ifCond .ne 5, 3) := by decide +kernel
theorem dX12_fact_32 : decode cX12_fact 32 = .ok (.iconst 0, 1) := by decide +kernel
theorem dX12_fact_33 : decode cX12_fact 33 = .ok (.ireturn, 1) := by decide +kernel
theorem dX12_fact_34 : decode cX12_fact 34 = .ok (.aload_n 0, 1) := by decide +kernel
theorem dX12_fact_35 : decode cX12_fact 35 = .ok (.invokevirtual 109, 3) := by decide +kernel
theorem dX12_fact_38 : decode cX12_fact 38 = .ok (.iconst 1, 1) := by decide +kernel
theorem dX12_fact_39 : decode cX12_fact 39 = .ok (.istore_n 1, 1) := by decide +kernel
theorem dX12_fact_40 : decode cX12_fact 40 = .ok (.goto 32, 3) := by decide +kernel
theorem dX12_fact_43 : decode cX12_fact 43 = .ok (.iload_n 2, 1) := by decide +kernel
theorem dX12_fact_44 : decode cX12_fact 44 = .ok (.bipush 91, 2) := by decide +kernel
theorem dX12_fact_46 : decode cX12_fact 46 = .ok (.if_icmp .ne 26, 3) := by decide +kernel
theorem dX12_fact_49 : decode cX12_fact 49 = .ok (.aload_n 0, 1) := by decide +kernel
theorem dX12_fact_50 : decode cX12_fact 50 = .ok (.bipush 91, 2) := by decide +kernel
theorem dX12_fact_52 : decode cX12_fact 52 = .ok (.invokevirtual 188, 3) := by decide +kernel
theorem dX12_fact_55 : decode cX12_fact 55 = .ok (.ifCond .ne 5, 3) := by decide +kernel
theorem dX12_fact_58 : decode cX12_fact 58 = .ok (.iconst 0, 1) := by decide +kernel
theorem dX12_fact_59 : decode cX12_fact 59 = .ok (.ireturn, 1) := by decide +kernel
theorem dX12_fact_60 : decode cX12_fact 60 = .ok (.aload_n 0, 1) := by decide +kernel
theorem dX12_fact_61 : decode cX12_fact 61 = .ok (.dup, 1) := by decide +kernel
theorem dX12_fact_62 : decode cX12_fact 62 = .ok (.getfield 94, 3) := by decide +kernel
theorem dX12_fact_65 : decode cX12_fact 65 = .ok (.iconst 1, 1) := by decide +kernel
theorem dX12_fact_66 : decode cX12_fact 66 = .ok (.iadd, 1) := by decide +kernel
theorem dX12_fact_67 : decode cX12_fact 67 = .ok (.putfield 94, 3) := by decide +kernel
theorem dX12_fact_70 : decode cX12_fact 70 = .ok (.iconst 1, 1) := by decide +kernel
theorem dX12_fact_71 : decode cX12_fact 71 = .ok (.istore_n 1, 1) := by decide +kernel
theorem dX12_fact_72 : decode cX12_fact 72 = .ok (.goto (-70), 3) := by decide +kernel
theorem dX12_fact_75 : decode cX12_fact 75 = .ok (.aload_n 0, 1) := by decide +kernel
theorem dX12_fact_76 : decode cX12_fact 76 = .ok (.invokevirtual 191, 3) := by decide +kernel
theorem dX12_fact_79 : decode cX12_fact 79 = .ok (.ireturn, 1) := by decide +kernel
theorem dX12_isInside_0 : decode cX12_isInside 0 = .ok (.iconst 0, 1) := by decide +kernel
theorem dX12_isInside_1 : decode cX12_isInside 1 = .ok (.istore_n 1, 1) := by decide +kernel
theorem dX12_isInside_2 : decode cX12_isInside 2 = .ok (.iload_n 1, 1) := by decide +kernel
theorem dX12_isInside_3 : decode cX12_isInside 3 = .ok (.aload_n 0, 1) := by decide +kernel
theorem dX12_isInside_4 : decode cX12_isInside 4 = .ok (.getfield 155, 3) := by decide +kernel
theorem dX12_isInside_7 : decode cX12_isInside 7 = .ok (.if_icmp .ge 22, 3) := by decide +kernel
theorem dX12_isInside_10 : decode cX12_isInside 10 = .ok (.aload_n 0, 1) := by decide +kernel
theorem dX12_isInside_11 : decode cX12_isInside 11 = .ok (.getfield 35, 3) := by decide +kernel
theorem dX12_isInside_14 : decode cX12_isInside 14 = .ok (.iload_n 1, 1) := by decide +kernel
theorem dX12_isInside_15 : decode cX12_isInside 15 = .ok (.iaload, 1) := by decide +kernel
theorem dX12_isInside_16 : decode cX12_isInside 16 = .ok (.bipush 91, 2) := by decide +kernel
theorem dX12_isInside_18 : decode cX12_isInside 18 = .ok (.if_icmp .ne 5, 3) := by decide +kernel
theorem dX12_isInside_21 : decode cX12_isInside 21 = .ok (.iconst 1, 1) := by decide +kernel
theorem dX12_isInside_22 : decode cX12_isInside 22 = .ok (.ireturn, 1) := by decide +kernel
theorem dX12_isInside_23 : decode cX12_isInside 23 = .ok (.iinc 1 1, 3) := by decide +kernel
theorem dX12_isInside_26 : decode cX12_isInside 26 = .ok (.goto (-24), 3) := by decide +kernel
theorem dX12_isInside_29 : decode cX12_isInside 29 = .ok (.iconst 0, 1) := by decide +kernel
theorem dX12_isInside_30 : decode cX12_isInside 30 = .ok (.ireturn, 1) := by decide +kernel
set_option maxRecDepth 20000 in
theorem ggX12_doingSort_X12_isWord : GoodIn wsX12_doingSort wsX12_isWord := goodIn_r _ [9, 10, 11, 12, 13, 14, 8, 15, 16, 17, 18, 19, 20, 21, 22, 23, 24, 25, 26, 27, 28, 29, 30, 31, 32, 33, 34, 35, 36, 37, 38, 39, 40, 41, 42, 43, 44, 45, 46, 47, 48, 49, 50, 51, 52, 53, 54, 55, 56, 57, 58, 59, 60, 61, 62] (by decide +kernel) (by decide +kernel)
set_option maxRecDepth 20000 in
theorem gX12_doingSort_X12_isWord : GoodIn wsX12_doingSort (wsV RX12 105 RX12 yX12_isWord wsX12_isWord) := goodIn_app (goodIn_of _ (by decide +kernel)) ggX12_doingSort_X12_isWord
theorem dX12_doingSort_0 : decode cX12_doingSort 0 = .ok (.aload_n 0, 1) := by decide +kernel
theorem dX12_doingSort_1 : decode cX12_doingSort 1 = .ok (.ldc2_w 254, 3) := by decide +kernel
theorem dX12_doingSort_4 : decode cX12_doingSort 4 = .ok (.invokevirtual 105, 3) := by decide +kernel
theorem dX12_doingSort_7 : decode cX12_doingSort 7 = .ok (.ifCond .eq 7, 3) := by decide +kernel
theorem dX12_doingSort_10 : decode cX12_doingSort 10 = .ok (.iconst 0, 1) := by decide +kernel
theorem dX12_doingSort_11 : decode cX12_doingSort 11 = .ok (.goto 46, 3) := by decide +kernel
theorem dX12_doingSort_14 : decode cX12_doingSort 14 = .ok (.aload_n 0, 1) := by decide +kernel
theorem dX12_doingSort_15 : decode cX12_doingSort 15 = .ok (.ldc2_w 256, 3) := by decide +kernel
theorem dX12_doingSort_18 : decode cX12_doingSort 18 = .ok (.invokevirtual 105, 3) := by decide +kernel
theorem dX12_doingSort_21 : decode cX12_doingSort 21 = .ok (.ifCond .eq 7, 3) := by decide +kernel
theorem dX12_doingSort_24 : decode cX12_doingSort 24 = .ok (.iconst 1, 1) := by decide +kernel
theorem dX12_doingSort_25 : decode cX12_doingSort 25 = .ok (.goto 32, 3) := by decide +kernel
theorem dX12_doingSort_28 : decode cX12_doingSort 28 = .ok (.aload_n 0, 1) := by decide +kernel
theorem dX12_doingSort_29 : decode cX12_doingSort 29 = .ok (.ldc2_w 258, 3) := by decide +kernel
theorem dX12_doingSort_32 : decode cX12_doingSort 32 = .ok (.invokevirtual 105, 3) := by decide +kernel
theorem dX12_doingSort_35 : decode cX12_doingSort 35 = .ok (.ifCond .eq 7, 3) := by decide +kernel
theorem dX12_doingSort_38 : decode cX12_doingSort 38 = .ok (.iconst 2, 1) := by decide +kernel
theorem dX12_doingSort_39 : decode cX12_doingSort 39 = .ok (.goto 18, 3) := by decide +kernel
theorem dX12_doingSort_42 : decode cX12_doingSort 42 = .ok (.aload_n 0, 1) := by decide +kernel
theorem dX12_doingSort_43 : decode cX12_doingSort 43 = .ok (.ldc2_w 260, 3) := by decide +kernel
theorem dX12_doingSort_46 : decode cX12_doingSort 46 = .ok (.invokevirtual 105, 3) := by decide +kernel
theorem dX12_doingSort_49 : decode cX12_doingSort 49 = .ok (.ifCond .eq 7, 3) := by decide +kernel
theorem dX12_doingSort_52 : decode cX12_doingSort 52 = .ok (.iconst 3, 1) := by decide +kernel
theorem dX12_doingSort_53 : decode cX12_doingSort 53 = .ok (.goto 4, 3) := by decide +kernel
theorem dX12_doingSort_56 : decode cX12_doingSort 56 = .ok (.iconst (-1), 1) := by decide +kernel
theorem dX12_doingSort_57 : decode cX12_doingSort 57 = .ok (.ireturn, 1) := by decide +kernel
set_option maxRecDepth 20000 in
theorem ggX12_isThere_X12_walkerOf : GoodIn wsX12_isThere wsX12_walkerOf := goodIn_r _ [5, 6, 7, 8, 9, 10, 11, 12, 13, 14, 15, 16, 17, 18, 19, 20, 21, 22, 23, 24, 25, 26, 27, 28, 29, 30, 31, 32, 33, 34, 35, 36, 37, 38, 39, 40, 41, 42, 43, 44, 45, 46, 47, 48] (by decide +kernel) (by decide +kernel)
set_option maxRecDepth 20000 in
theorem gX12_isThere_X12_walkerOf : GoodIn wsX12_isThere (wsV RX12 372 RX12 yX12_walkerOf wsX12_walkerOf) := goodIn_app (goodIn_of _ (by decide +kernel)) ggX12_isThere_X12_walkerOf
theorem dX12_isThere_0 : decode cX12_isThere 0 = .ok (.aload_n 0, 1) := by decide +kernel
theorem dX12_isThere_1 : decode cX12_isThere 1 = .ok (.iload_n 1, 1) := by decide +kernel
theorem dX12_isThere_2 : decode cX12_isThere 2 = .ok (.iconst 0, 1) := by decide +kernel
theorem dX12_isThere_3 : decode cX12_isThere 3 = .ok (.invokevirtual 372, 3) := by decide +kernel
theorem dX12_isThere_6 : decode cX12_isThere 6 = .ok (.aload_n 0, 1) := by decide +kernel
theorem dX12_isThere_7 : decode cX12_isThere 7 = .ok (.iload_n 1, 1) := by decide +kernel
theorem dX12_isThere_8 : decode cX12_isThere 8 = .ok (.iconst 1, 1) := by decide +kernel
theorem dX12_isThere_9 : decode cX12_isThere 9 = .ok (.invokevirtual 372, 3) := by decide +kernel
theorem dX12_isThere_12 : decode cX12_isThere 12 = .ok (.if_icmp .ne 7, 3) := by decide +kernel
theorem dX12_isThere_15 : decode cX12_isThere 15 = .ok (.iconst 1, 1) := by decide +kernel
theorem dX12_isThere_16 : decode cX12_isThere 16 = .ok (.goto 4, 3) := by decide +kernel
theorem dX12_isThere_19 : decode cX12_isThere 19 = .ok (.iconst 0, 1) := by decide +kernel
theorem dX12_isThere_20 : decode cX12_isThere 20 = .ok (.ireturn, 1) := by decide +kernel
set_option maxRecDepth 20000 in
theorem ggX12_looks_X12_askedToday : GoodIn wsX12_looks wsX12_askedToday := goodIn_r _ [7, 8, 9, 10, 6, 11, 12, 51, 52, 53, 54, 55, 56, 57, 58, 59, 60, 61, 62, 63, 64, 65, 66, 67, 68, 69, 70, 71, 72, 73, 74, 75, 76, 77, 78, 79, 80, 81, 82, 83, 84, 85, 86, 87, 88, 89, 90, 91, 92] (by decide +kernel) (by decide +kernel)
set_option maxRecDepth 20000 in
theorem gX12_looks_X12_askedToday : GoodIn wsX12_looks (wsV RX12 375 RX12 yX12_askedToday wsX12_askedToday) := goodIn_app (goodIn_of _ (by decide +kernel)) ggX12_looks_X12_askedToday
set_option maxRecDepth 20000 in
theorem ggX12_looks_X12_walkerOf : GoodIn wsX12_looks wsX12_walkerOf := goodIn_r _ [11, 12, 51, 52, 53, 54, 55, 56, 57, 58, 59, 60, 61, 62, 63, 64, 65, 66, 67, 68, 69, 70, 71, 72, 73, 74, 75, 76, 77, 78, 79, 80, 81, 82, 83, 84, 85, 86, 87, 88, 89, 90, 91, 92] (by decide +kernel) (by decide +kernel)
set_option maxRecDepth 20000 in
theorem gX12_looks_X12_walkerOf : GoodIn wsX12_looks (wsV RX12 372 RX12 yX12_walkerOf wsX12_walkerOf) := goodIn_app (goodIn_of _ (by decide +kernel)) ggX12_looks_X12_walkerOf
set_option maxRecDepth 20000 in
theorem ggX12_looks_X12_takesDay : GoodIn wsX12_looks wsX12_takesDay := goodIn_r _ [16, 12, 17, 18, 19, 20, 6, 21, 51, 52, 53, 54, 55, 56, 57, 58, 59, 60, 61, 62, 63, 64, 65, 66, 67, 68, 69, 70, 71, 72, 73, 74, 75, 76, 77, 78, 79, 80, 81, 82, 83, 84, 85, 86, 87, 88, 89, 90, 91, 92] (by decide +kernel) (by decide +kernel)
set_option maxRecDepth 20000 in
theorem gX12_looks_X12_takesDay : GoodIn wsX12_looks (wsV RX12 381 RX12 yX12_takesDay wsX12_takesDay) := goodIn_app (goodIn_of _ (by decide +kernel)) ggX12_looks_X12_takesDay
set_option maxRecDepth 20000 in
theorem ggX12_looks_X12_takesMap : GoodIn wsX12_looks wsX12_takesMap := goodIn_r _ [25, 12, 17, 51, 52, 53, 54, 55, 56, 57, 58, 59, 60, 61, 62, 63, 64, 65, 66, 67, 68, 69, 70, 71, 72, 73, 74, 75, 76, 77, 78, 79, 80, 81, 82, 83, 84, 85, 86, 87, 88, 89, 90, 91, 92] (by decide +kernel) (by decide +kernel)
set_option maxRecDepth 20000 in
theorem gX12_looks_X12_takesMap : GoodIn wsX12_looks (wsV RX12 351 RX12 yX12_takesMap wsX12_takesMap) := goodIn_app (goodIn_of _ (by decide +kernel)) ggX12_looks_X12_takesMap
set_option maxRecDepth 20000 in
theorem ggX12_looks_X12_spreads : GoodIn wsX12_looks wsX12_spreads := goodIn_r _ [29, 30, 31, 12, 17, 18, 19, 20, 6, 21, 32, 33, 34, 51, 52, 53, 54, 55, 56, 57, 58, 59, 60, 61, 62, 63, 64, 65, 66, 67, 68, 69, 70, 71, 72, 73, 74, 75, 76, 77, 78, 79, 80, 81, 82, 83, 84, 85, 86, 87, 88, 89, 90, 91, 92] (by decide +kernel) (by decide +kernel)
set_option maxRecDepth 20000 in
theorem gX12_looks_X12_spreads : GoodIn wsX12_looks (wsV RX12 354 RX12 yX12_spreads wsX12_spreads) := goodIn_app (goodIn_of _ (by decide +kernel)) ggX12_looks_X12_spreads
set_option maxRecDepth 20000 in
theorem ggX12_looks_X12_streetFrom : GoodIn wsX12_looks wsX12_streetFrom := goodIn_r _ [38, 30, 31, 12, 17, 39, 40, 41, 6, 42, 18, 19, 20, 21, 43, 44, 45, 46, 32, 33, 34, 47, 48, 49, 50, 51, 52, 53, 54, 55, 56, 57, 58, 59, 60, 61, 62, 63, 64, 65, 66, 67, 68, 69, 70, 71, 72, 73, 74, 75, 76, 77, 78, 79, 80, 81, 82, 83, 84, 85, 86, 87, 88, 89, 90, 91, 92] (by decide +kernel) (by decide +kernel)
set_option maxRecDepth 20000 in
theorem gX12_looks_X12_streetFrom : GoodIn wsX12_looks (wsV RX12 357 RX12 yX12_streetFrom wsX12_streetFrom) := goodIn_app (goodIn_of _ (by decide +kernel)) ggX12_looks_X12_streetFrom
theorem dX12_looks_0 : decode cX12_looks 0 = .ok (.aload_n 0, 1) := by decide +kernel
theorem dX12_looks_1 : decode cX12_looks 1 = .ok (.iload_n 1, 1) := by decide +kernel
theorem dX12_looks_2 : decode cX12_looks 2 = .ok (.invokevirtual 375, 3) := by decide +kernel
theorem dX12_looks_5 : decode cX12_looks 5 = .ok (.ifCond .eq 29, 3) := by decide +kernel
theorem dX12_looks_8 : decode cX12_looks 8 = .ok (.aload_n 0, 1) := by decide +kernel
theorem dX12_looks_9 : decode cX12_looks 9 = .ok (.getfield 378, 3) := by decide +kernel
theorem dX12_looks_12 : decode cX12_looks 12 = .ok (.ifCond .ne 22, 3) := by decide +kernel
theorem dX12_looks_15 : decode cX12_looks 15 = .ok (.aload_n 0, 1) := by decide +kernel
theorem dX12_looks_16 : decode cX12_looks 16 = .ok (.aload_n 0, 1) := by decide +kernel
theorem dX12_looks_17 : decode cX12_looks 17 = .ok (.iload_n 1, 1) := by decide +kernel
theorem dX12_looks_18 : decode cX12_looks 18 = .ok (.iconst 4, 1) := by decide +kernel
theorem dX12_looks_19 : decode cX12_looks 19 = .ok (.invokevirtual 372, 3) := by decide +kernel
theorem dX12_looks_22 : decode cX12_looks 22 = .ok (.bipush 24, 2) := by decide +kernel
theorem dX12_looks_24 : decode cX12_looks 24 = .ok (.idiv, 1) := by decide +kernel
theorem dX12_looks_25 : decode cX12_looks 25 = .ok (.bipush 7, 2) := by decide +kernel
theorem dX12_looks_27 : decode cX12_looks 27 = .ok (.irem, 1) := by decide +kernel
theorem dX12_looks_28 : decode cX12_looks 28 = .ok (.invokevirtual 381, 3) := by decide +kernel
theorem dX12_looks_31 : decode cX12_looks 31 = .ok (.goto 13, 3) := by decide +kernel
theorem dX12_looks_34 : decode cX12_looks 34 = .ok (.aload_n 0, 1) := by decide +kernel
theorem dX12_looks_35 : decode cX12_looks 35 = .ok (.aload_n 0, 1) := by decide +kernel
theorem dX12_looks_36 : decode cX12_looks 36 = .ok (.iload_n 1, 1) := by decide +kernel
theorem dX12_looks_37 : decode cX12_looks 37 = .ok (.iconst 2, 1) := by decide +kernel
theorem dX12_looks_38 : decode cX12_looks 38 = .ok (.invokevirtual 372, 3) := by decide +kernel
theorem dX12_looks_41 : decode cX12_looks 41 = .ok (.invokevirtual 351, 3) := by decide +kernel
theorem dX12_looks_44 : decode cX12_looks 44 = .ok (.aload_n 0, 1) := by decide +kernel
theorem dX12_looks_45 : decode cX12_looks 45 = .ok (.aload_n 0, 1) := by decide +kernel
theorem dX12_looks_46 : decode cX12_looks 46 = .ok (.iload_n 1, 1) := by decide +kernel
theorem dX12_looks_47 : decode cX12_looks 47 = .ok (.iconst 1, 1) := by decide +kernel
theorem dX12_looks_48 : decode cX12_looks 48 = .ok (.invokevirtual 372, 3) := by decide +kernel
theorem dX12_looks_51 : decode cX12_looks 51 = .ok (.invokevirtual 354, 3) := by decide +kernel
theorem dX12_looks_54 : decode cX12_looks 54 = .ok (.aload_n 0, 1) := by decide +kernel
theorem dX12_looks_55 : decode cX12_looks 55 = .ok (.aload_n 0, 1) := by decide +kernel
theorem dX12_looks_56 : decode cX12_looks 56 = .ok (.aload_n 0, 1) := by decide +kernel
theorem dX12_looks_57 : decode cX12_looks 57 = .ok (.iload_n 1, 1) := by decide +kernel
theorem dX12_looks_58 : decode cX12_looks 58 = .ok (.iconst 0, 1) := by decide +kernel
theorem dX12_looks_59 : decode cX12_looks 59 = .ok (.invokevirtual 372, 3) := by decide +kernel
theorem dX12_looks_62 : decode cX12_looks 62 = .ok (.invokevirtual 357, 3) := by decide +kernel
theorem dX12_looks_65 : decode cX12_looks 65 = .ok (.putfield 384, 3) := by decide +kernel
theorem dX12_looks_68 : decode cX12_looks 68 = .ok (.return_, 1) := by decide +kernel
set_option maxRecDepth 20000 in
theorem ggX12_canGo_X12_walkerOf : GoodIn wsX12_canGo wsX12_walkerOf := goodIn_r _ [6, 7, 40, 41, 42, 43, 44, 45, 46, 47, 48, 49, 50, 51, 52, 53, 54, 55, 56, 57, 58, 59, 60, 61, 62, 63, 64, 65, 66, 67, 68, 69, 70, 71, 72, 73, 74, 75, 76, 77, 78, 79, 80, 81] (by decide +kernel) (by decide +kernel)
set_option maxRecDepth 20000 in
theorem gX12_canGo_X12_walkerOf : GoodIn wsX12_canGo (wsV RX12 372 RX12 yX12_walkerOf wsX12_walkerOf) := goodIn_app (goodIn_of _ (by decide +kernel)) ggX12_canGo_X12_walkerOf
set_option maxRecDepth 20000 in
theorem ggX12_canGo_X12_isOpen : GoodIn wsX12_canGo wsX12_isOpen := goodIn_r _ [11, 12, 13, 14, 5, 15, 16, 17, 18, 19, 7, 20, 21, 22, 23, 24, 25, 26, 27, 28, 29, 30, 31, 32, 33, 34, 35, 36, 37, 38, 39, 40, 41, 42, 43, 44, 45, 46, 47, 48, 49, 50, 51, 52, 53, 54, 55, 56, 57, 58, 59, 60, 61, 62, 63, 64, 65, 66, 67, 68, 69, 70, 71, 72, 73, 74, 75, 76, 77, 78, 79, 80, 81] (by decide +kernel) (by decide +kernel)
set_option maxRecDepth 20000 in
theorem gX12_canGo_X12_isOpen : GoodIn wsX12_canGo (wsV RX12 334 RX12 yX12_isOpen wsX12_isOpen) := goodIn_app (goodIn_of _ (by decide +kernel)) ggX12_canGo_X12_isOpen
theorem dX12_canGo_0 : decode cX12_canGo 0 = .ok (.aload_n 0, 1) := by decide +kernel
theorem dX12_canGo_1 : decode cX12_canGo 1 = .ok (.getfield 384, 3) := by decide +kernel
theorem dX12_canGo_4 : decode cX12_canGo 4 = .ok (.ifCond .lt 30, 3) := by decide +kernel
theorem dX12_canGo_7 : decode cX12_canGo 7 = .ok (.aload_n 0, 1) := by decide +kernel
theorem dX12_canGo_8 : decode cX12_canGo 8 = .ok (.aload_n 0, 1) := by decide +kernel
theorem dX12_canGo_9 : decode cX12_canGo 9 = .ok (.getfield 384, 3) := by decide +kernel
theorem dX12_canGo_12 : decode cX12_canGo 12 = .ok (.aload_n 0, 1) := by decide +kernel
theorem dX12_canGo_13 : decode cX12_canGo 13 = .ok (.iload_n 1, 1) := by decide +kernel
theorem dX12_canGo_14 : decode cX12_canGo 14 = .ok (.iconst 0, 1) := by decide +kernel
theorem dX12_canGo_15 : decode cX12_canGo 15 = .ok (.invokevirtual 372, 3) := by decide +kernel
theorem dX12_canGo_18 : decode cX12_canGo 18 = .ok (.aload_n 0, 1) := by decide +kernel
theorem dX12_canGo_19 : decode cX12_canGo 19 = .ok (.iload_n 1, 1) := by decide +kernel
theorem dX12_canGo_20 : decode cX12_canGo 20 = .ok (.iconst 4, 1) := by decide +kernel
theorem dX12_canGo_21 : decode cX12_canGo 21 = .ok (.invokevirtual 372, 3) := by decide +kernel
theorem dX12_canGo_24 : decode cX12_canGo 24 = .ok (.invokevirtual 334, 3) := by decide +kernel
theorem dX12_canGo_27 : decode cX12_canGo 27 = .ok (.ifCond .eq 7, 3) := by decide +kernel
theorem dX12_canGo_30 : decode cX12_canGo 30 = .ok (.iconst 1, 1) := by decide +kernel
theorem dX12_canGo_31 : decode cX12_canGo 31 = .ok (.goto 4, 3) := by decide +kernel
theorem dX12_canGo_34 : decode cX12_canGo 34 = .ok (.iconst 0, 1) := by decide +kernel
theorem dX12_canGo_35 : decode cX12_canGo 35 = .ok (.ireturn, 1) := by decide +kernel
set_option maxRecDepth 20000 in
theorem ggX12_asideOf_X12_walkerOf : GoodIn wsX12_asideOf wsX12_walkerOf := goodIn_r _ [6, 1, 39, 40, 41, 42, 43, 44, 45, 46, 47, 48, 49, 50, 51, 52, 53, 54, 55, 56, 57, 58, 59, 60, 61, 62, 63, 64, 65, 66, 67, 68, 69, 70, 71, 72, 73, 74, 75, 76, 77, 78, 79, 80] (by decide +kernel) (by decide +kernel)
set_option maxRecDepth 20000 in
theorem gX12_asideOf_X12_walkerOf : GoodIn wsX12_asideOf (wsV RX12 372 RX12 yX12_walkerOf wsX12_walkerOf) := goodIn_app (goodIn_of _ (by decide +kernel)) ggX12_asideOf_X12_walkerOf
set_option maxRecDepth 20000 in
theorem ggX12_asideOf_X12_isOpen : GoodIn wsX12_asideOf wsX12_isOpen := goodIn_r _ [10, 11, 12, 13, 5, 14, 15, 16, 17, 18, 1, 19, 20, 21, 22, 23, 24, 25, 26, 27, 28, 29, 30, 31, 32, 33, 34, 35, 36, 37, 38, 39, 40, 41, 42, 43, 44, 45, 46, 47, 48, 49, 50, 51, 52, 53, 54, 55, 56, 57, 58, 59, 60, 61, 62, 63, 64, 65, 66, 67, 68, 69, 70, 71, 72, 73, 74, 75, 76, 77, 78, 79, 80] (by decide +kernel) (by decide +kernel)
set_option maxRecDepth 20000 in
theorem gX12_asideOf_X12_isOpen : GoodIn wsX12_asideOf (wsV RX12 334 RX12 yX12_isOpen wsX12_isOpen) := goodIn_app (goodIn_of _ (by decide +kernel)) ggX12_asideOf_X12_isOpen
theorem dX12_asideOf_0 : decode cX12_asideOf 0 = .ok (.iconst 0, 1) := by decide +kernel
theorem dX12_asideOf_1 : decode cX12_asideOf 1 = .ok (.istore_n 2, 1) := by decide +kernel
theorem dX12_asideOf_2 : decode cX12_asideOf 2 = .ok (.iload_n 2, 1) := by decide +kernel
theorem dX12_asideOf_3 : decode cX12_asideOf 3 = .ok (.aload_n 0, 1) := by decide +kernel
theorem dX12_asideOf_4 : decode cX12_asideOf 4 = .ok (.getfield 45, 3) := by decide +kernel
theorem dX12_asideOf_7 : decode cX12_asideOf 7 = .ok (.iconst 1, 1) := by decide +kernel
theorem dX12_asideOf_8 : decode cX12_asideOf 8 = .ok (.iaload, 1) := by decide +kernel
theorem dX12_asideOf_9 : decode cX12_asideOf 9 = .ok (.if_icmp .ge 31, 3) := by decide +kernel
theorem dX12_asideOf_12 : decode cX12_asideOf 12 = .ok (.aload_n 0, 1) := by decide +kernel
theorem dX12_asideOf_13 : decode cX12_asideOf 13 = .ok (.iload_n 2, 1) := by decide +kernel
theorem dX12_asideOf_14 : decode cX12_asideOf 14 = .ok (.aload_n 0, 1) := by decide +kernel
theorem dX12_asideOf_15 : decode cX12_asideOf 15 = .ok (.iload_n 1, 1) := by decide +kernel
theorem dX12_asideOf_16 : decode cX12_asideOf 16 = .ok (.iconst 0, 1) := by decide +kernel
theorem dX12_asideOf_17 : decode cX12_asideOf 17 = .ok (.invokevirtual 372, 3) := by decide +kernel
theorem dX12_asideOf_20 : decode cX12_asideOf 20 = .ok (.aload_n 0, 1) := by decide +kernel
theorem dX12_asideOf_21 : decode cX12_asideOf 21 = .ok (.iload_n 1, 1) := by decide +kernel
theorem dX12_asideOf_22 : decode cX12_asideOf 22 = .ok (.iconst 4, 1) := by decide +kernel
theorem dX12_asideOf_23 : decode cX12_asideOf 23 = .ok (.invokevirtual 372, 3) := by decide +kernel
theorem dX12_asideOf_26 : decode cX12_asideOf 26 = .ok (.invokevirtual 334, 3) := by decide +kernel
theorem dX12_asideOf_29 : decode cX12_asideOf 29 = .ok (.ifCond .eq 5, 3) := by decide +kernel
theorem dX12_asideOf_32 : decode cX12_asideOf 32 = .ok (.iload_n 2, 1) := by decide +kernel
theorem dX12_asideOf_33 : decode cX12_asideOf 33 = .ok (.ireturn, 1) := by decide +kernel
theorem dX12_asideOf_34 : decode cX12_asideOf 34 = .ok (.iinc 2 1, 3) := by decide +kernel
theorem dX12_asideOf_37 : decode cX12_asideOf 37 = .ok (.goto (-35), 3) := by decide +kernel
theorem dX12_asideOf_40 : decode cX12_asideOf 40 = .ok (.iconst (-1), 1) := by decide +kernel
theorem dX12_asideOf_41 : decode cX12_asideOf 41 = .ok (.ireturn, 1) := by decide +kernel
set_option maxRecDepth 20000 in
theorem ggX12_mayDo_X12_canGo : GoodIn wsX12_mayDo wsX12_canGo := goodIn_r _ [6, 7, 8, 9, 10, 5, 11, 12, 13, 14, 15, 16, 17, 18, 19, 20, 21, 22, 23, 24, 25, 26, 27, 28, 29, 30, 31, 32, 33, 34, 35, 36, 37, 38, 39, 40, 41, 42, 43, 44, 53, 54, 55, 56, 57, 58, 59, 60, 61, 62, 63, 64, 65, 66, 67, 68, 69, 70, 71, 72, 73, 74, 75, 76, 77, 78, 79, 80, 81, 82, 83, 84, 85, 86, 87, 88, 89, 90, 91, 92, 93, 94] (by decide +kernel) (by decide +kernel)
set_option maxRecDepth 20000 in
theorem gX12_mayDo_X12_canGo : GoodIn wsX12_mayDo (wsV RX12 387 RX12 yX12_canGo wsX12_canGo) := goodIn_app (goodIn_of _ (by decide +kernel)) ggX12_mayDo_X12_canGo
set_option maxRecDepth 20000 in
theorem ggX12_mayDo_X12_asideOf : GoodIn wsX12_mayDo wsX12_asideOf := goodIn_r _ [48, 12, 8, 9, 10, 5, 11, 13, 14, 15, 16, 17, 18, 19, 20, 21, 22, 23, 24, 25, 26, 27, 28, 29, 30, 31, 32, 33, 34, 35, 36, 37, 38, 39, 40, 41, 42, 43, 44, 53, 54, 55, 56, 57, 58, 59, 60, 61, 62, 63, 64, 65, 66, 67, 68, 69, 70, 71, 72, 73, 74, 75, 76, 77, 78, 79, 80, 81, 82, 83, 84, 85, 86, 87, 88, 89, 90, 91, 92, 93, 94] (by decide +kernel) (by decide +kernel)
set_option maxRecDepth 20000 in
theorem gX12_mayDo_X12_asideOf : GoodIn wsX12_mayDo (wsV RX12 390 RX12 yX12_asideOf wsX12_asideOf) := goodIn_app (goodIn_of _ (by decide +kernel)) ggX12_mayDo_X12_asideOf
set_option maxRecDepth 20000 in
theorem ggX12_mayDo_X12_askedToday : GoodIn wsX12_mayDo wsX12_askedToday := goodIn_r _ [52, 8, 9, 10, 5, 11, 12, 53, 54, 55, 56, 57, 58, 59, 60, 61, 62, 63, 64, 65, 66, 67, 68, 69, 70, 71, 72, 73, 74, 75, 76, 77, 78, 79, 80, 81, 82, 83, 84, 85, 86, 87, 88, 89, 90, 91, 92, 93, 94] (by decide +kernel) (by decide +kernel)
set_option maxRecDepth 20000 in
theorem gX12_mayDo_X12_askedToday : GoodIn wsX12_mayDo (wsV RX12 375 RX12 yX12_askedToday wsX12_askedToday) := goodIn_app (goodIn_of _ (by decide +kernel)) ggX12_mayDo_X12_askedToday
theorem dX12_mayDo_0 : decode cX12_mayDo 0 = .ok (.iload_n 2, 1) := by decide +kernel
theorem dX12_mayDo_1 : decode cX12_mayDo 1 = .ok (.tableswitch 68 0 2 #[27, 33, 47], 27) := by decide +kernel
theorem dX12_mayDo_28 : decode cX12_mayDo 28 = .ok (.aload_n 0, 1) := by decide +kernel
theorem dX12_mayDo_29 : decode cX12_mayDo 29 = .ok (.iload_n 1, 1) := by decide +kernel
theorem dX12_mayDo_30 : decode cX12_mayDo 30 = .ok (.invokevirtual 387, 3) := by decide +kernel
theorem dX12_mayDo_33 : decode cX12_mayDo 33 = .ok (.ireturn, 1) := by decide +kernel
theorem dX12_mayDo_34 : decode cX12_mayDo 34 = .ok (.aload_n 0, 1) := by decide +kernel
theorem dX12_mayDo_35 : decode cX12_mayDo 35 = .ok (.iload_n 1, 1) := by decide +kernel
theorem dX12_mayDo_36 : decode cX12_mayDo 36 = .ok (.invokevirtual 390, 3) := by decide +kernel
theorem dX12_mayDo_39 : decode cX12_mayDo 39 = .ok (.ifCond .lt 7, 3) := by decide +kernel
theorem dX12_mayDo_42 : decode cX12_mayDo 42 = .ok (.iconst 1, 1) := by decide +kernel
theorem dX12_mayDo_43 : decode cX12_mayDo 43 = .ok (.goto 4, 3) := by decide +kernel
theorem dX12_mayDo_46 : decode cX12_mayDo 46 = .ok (.iconst 0, 1) := by decide +kernel
theorem dX12_mayDo_47 : decode cX12_mayDo 47 = .ok (.ireturn, 1) := by decide +kernel
theorem dX12_mayDo_48 : decode cX12_mayDo 48 = .ok (.aload_n 0, 1) := by decide +kernel
theorem dX12_mayDo_49 : decode cX12_mayDo 49 = .ok (.getfield 378, 3) := by decide +kernel
theorem dX12_mayDo_52 : decode cX12_mayDo 52 = .ok (.ifCond .ne 15, 3) := by decide +kernel
theorem dX12_mayDo_55 : decode cX12_mayDo 55 = .ok (.aload_n 0, 1) := by decide +kernel
theorem dX12_mayDo_56 : decode cX12_mayDo 56 = .ok (.iload_n 1, 1) := by decide +kernel
theorem dX12_mayDo_57 : decode cX12_mayDo 57 = .ok (.invokevirtual 375, 3) := by decide +kernel
theorem dX12_mayDo_60 : decode cX12_mayDo 60 = .ok (.ifCond .ne 7, 3) := by decide +kernel
theorem dX12_mayDo_63 : decode cX12_mayDo 63 = .ok (.iconst 1, 1) := by decide +kernel
theorem dX12_mayDo_64 : decode cX12_mayDo 64 = .ok (.goto 4, 3) := by decide +kernel
theorem dX12_mayDo_67 : decode cX12_mayDo 67 = .ok (.iconst 0, 1) := by decide +kernel
theorem dX12_mayDo_68 : decode cX12_mayDo 68 = .ok (.ireturn, 1) := by decide +kernel
theorem dX12_mayDo_69 : decode cX12_mayDo 69 = .ok (.iconst 1, 1) := by decide +kernel
theorem dX12_mayDo_70 : decode cX12_mayDo 70 = .ok (.ireturn, 1) := by decide +kernel
set_option maxRecDepth 20000 in
theorem ggX12_words_X12_walkerOf : GoodIn wsX12_words wsX12_walkerOf := goodIn_r _ [10, 11, 49, 50, 51, 52, 53, 54, 55, 56, 57, 58, 59, 60, 61, 62, 63, 64, 65, 66, 67, 68, 69, 70, 71, 72, 73, 74, 75, 76, 77, 78, 79, 80, 81, 82, 83, 84, 85, 86, 87, 88, 89, 90] (by decide +kernel) (by decide +kernel)
set_option maxRecDepth 20000 in
theorem gX12_words_X12_walkerOf : GoodIn wsX12_words (wsV RX12 372 RX12 yX12_walkerOf wsX12_walkerOf) := goodIn_app (goodIn_of _ (by decide +kernel)) ggX12_words_X12_walkerOf
set_option maxRecDepth 20000 in
theorem ggX12_words_X12_canGo : GoodIn wsX12_words wsX12_canGo := goodIn_r _ [15, 16, 6, 7, 8, 9, 10, 11, 17, 18, 19, 20, 21, 22, 23, 24, 25, 26, 27, 28, 29, 30, 31, 32, 33, 34, 35, 36, 37, 38, 39, 40, 41, 42, 43, 44, 45, 46, 47, 48, 49, 50, 51, 52, 53, 54, 55, 56, 57, 58, 59, 60, 61, 62, 63, 64, 65, 66, 67, 68, 69, 70, 71, 72, 73, 74, 75, 76, 77, 78, 79, 80, 81, 82, 83, 84, 85, 86, 87, 88, 89, 90] (by decide +kernel) (by decide +kernel)
set_option maxRecDepth 20000 in
theorem gX12_words_X12_canGo : GoodIn wsX12_words (wsV RX12 387 RX12 yX12_canGo wsX12_canGo) := goodIn_app (goodIn_of _ (by decide +kernel)) ggX12_words_X12_canGo
theorem dX12_words_0 : decode cX12_words 0 = .ok (.aload_n 0, 1) := by decide +kernel
theorem dX12_words_1 : decode cX12_words 1 = .ok (.iload_n 1, 1) := by decide +kernel
theorem dX12_words_2 : decode cX12_words 2 = .ok (.iconst 4, 1) := by decide +kernel
theorem dX12_words_3 : decode cX12_words 3 = .ok (.invokevirtual 372, 3) := by decide +kernel
theorem dX12_words_6 : decode cX12_words 6 = .ok (.istore_n 2, 1) := by decide +kernel
theorem dX12_words_7 : decode cX12_words 7 = .ok (.aload_n 0, 1) := by decide +kernel
theorem dX12_words_8 : decode cX12_words 8 = .ok (.iload_n 1, 1) := by decide +kernel
theorem dX12_words_9 : decode cX12_words 9 = .ok (.iconst 0, 1) := by decide +kernel
theorem dX12_words_10 : decode cX12_words 10 = .ok (.invokevirtual 372, 3) := by decide +kernel
theorem dX12_words_13 : decode cX12_words 13 = .ok (.istore_n 3, 1) := by decide +kernel
theorem dX12_words_14 : decode cX12_words 14 = .ok (.aload_n 0, 1) := by decide +kernel
theorem dX12_words_15 : decode cX12_words 15 = .ok (.getfield 42, 3) := by decide +kernel
theorem dX12_words_18 : decode cX12_words 18 = .ok (.iconst 0, 1) := by decide +kernel
theorem dX12_words_19 : decode cX12_words 19 = .ok (.iload_n 2, 1) := by decide +kernel
theorem dX12_words_20 : decode cX12_words 20 = .ok (.bipush 24, 2) := by decide +kernel
theorem dX12_words_22 : decode cX12_words 22 = .ok (.irem, 1) := by decide +kernel
theorem dX12_words_23 : decode cX12_words 23 = .ok (.i2l, 1) := by decide +kernel
theorem dX12_words_24 : decode cX12_words 24 = .ok (.lastore, 1) := by decide +kernel
theorem dX12_words_25 : decode cX12_words 25 = .ok (.aload_n 0, 1) := by decide +kernel
theorem dX12_words_26 : decode cX12_words 26 = .ok (.getfield 42, 3) := by decide +kernel
theorem dX12_words_29 : decode cX12_words 29 = .ok (.iconst 1, 1) := by decide +kernel
theorem dX12_words_30 : decode cX12_words 30 = .ok (.iload_n 2, 1) := by decide +kernel
theorem dX12_words_31 : decode cX12_words 31 = .ok (.bipush 24, 2) := by decide +kernel
theorem dX12_words_33 : decode cX12_words 33 = .ok (.idiv, 1) := by decide +kernel
theorem dX12_words_34 : decode cX12_words 34 = .ok (.bipush 7, 2) := by decide +kernel
theorem dX12_words_36 : decode cX12_words 36 = .ok (.irem, 1) := by decide +kernel
theorem dX12_words_37 : decode cX12_words 37 = .ok (.i2l, 1) := by decide +kernel
theorem dX12_words_38 : decode cX12_words 38 = .ok (.lastore, 1) := by decide +kernel
theorem dX12_words_39 : decode cX12_words 39 = .ok (.aload_n 0, 1) := by decide +kernel
theorem dX12_words_40 : decode cX12_words 40 = .ok (.getfield 42, 3) := by decide +kernel
theorem dX12_words_43 : decode cX12_words 43 = .ok (.iconst 2, 1) := by decide +kernel
theorem dX12_words_44 : decode cX12_words 44 = .ok (.aload_n 0, 1) := by decide +kernel
theorem dX12_words_45 : decode cX12_words 45 = .ok (.getfield 378, 3) := by decide +kernel
theorem dX12_words_48 : decode cX12_words 48 = .ok (.ifCond .eq 7, 3) := by decide +kernel
theorem dX12_words_51 : decode cX12_words 51 = .ok (.lconst 0, 1) := by decide +kernel
theorem dX12_words_52 : decode cX12_words 52 = .ok (.goto 12, 3) := by decide +kernel
theorem dX12_words_55 : decode cX12_words 55 = .ok (.iload_n 2, 1) := by decide +kernel
theorem dX12_words_56 : decode cX12_words 56 = .ok (.bipush 24, 2) := by decide +kernel
theorem dX12_words_58 : decode cX12_words 58 = .ok (.idiv, 1) := by decide +kernel
theorem dX12_words_59 : decode cX12_words 59 = .ok (.sipush 360, 3) := by decide +kernel
theorem dX12_words_62 : decode cX12_words 62 = .ok (.irem, 1) := by decide +kernel
theorem dX12_words_63 : decode cX12_words 63 = .ok (.i2l, 1) := by decide +kernel
theorem dX12_words_64 : decode cX12_words 64 = .ok (.lastore, 1) := by decide +kernel
theorem dX12_words_65 : decode cX12_words 65 = .ok (.aload_n 0, 1) := by decide +kernel
theorem dX12_words_66 : decode cX12_words 66 = .ok (.getfield 42, 3) := by decide +kernel
theorem dX12_words_69 : decode cX12_words 69 = .ok (.iconst 3, 1) := by decide +kernel
theorem dX12_words_70 : decode cX12_words 70 = .ok (.iload_n 3, 1) := by decide +kernel
theorem dX12_words_71 : decode cX12_words 71 = .ok (.i2l, 1) := by decide +kernel
theorem dX12_words_72 : decode cX12_words 72 = .ok (.lastore, 1) := by decide +kernel
theorem dX12_words_73 : decode cX12_words 73 = .ok (.aload_n 0, 1) := by decide +kernel
theorem dX12_words_74 : decode cX12_words 74 = .ok (.getfield 42, 3) := by decide +kernel
theorem dX12_words_77 : decode cX12_words 77 = .ok (.iconst 4, 1) := by decide +kernel
theorem dX12_words_78 : decode cX12_words 78 = .ok (.aload_n 0, 1) := by decide +kernel
theorem dX12_words_79 : decode cX12_words 79 = .ok (.iload_n 1, 1) := by decide +kernel
theorem dX12_words_80 : decode cX12_words 80 = .ok (.iconst 1, 1) := by decide +kernel
theorem dX12_words_81 : decode cX12_words 81 = .ok (.invokevirtual 372, 3) := by decide +kernel
theorem dX12_words_84 : decode cX12_words 84 = .ok (.i2l, 1) := by decide +kernel
theorem dX12_words_85 : decode cX12_words 85 = .ok (.lastore, 1) := by decide +kernel
theorem dX12_words_86 : decode cX12_words 86 = .ok (.aload_n 0, 1) := by decide +kernel
theorem dX12_words_87 : decode cX12_words 87 = .ok (.getfield 42, 3) := by decide +kernel
theorem dX12_words_90 : decode cX12_words 90 = .ok (.iconst 5, 1) := by decide +kernel
theorem dX12_words_91 : decode cX12_words 91 = .ok (.aload_n 0, 1) := by decide +kernel
theorem dX12_words_92 : decode cX12_words 92 = .ok (.iload_n 1, 1) := by decide +kernel
theorem dX12_words_93 : decode cX12_words 93 = .ok (.invokevirtual 387, 3) := by decide +kernel
theorem dX12_words_96 : decode cX12_words 96 = .ok (.ifCond .eq 7, 3) := by decide +kernel
theorem dX12_words_99 : decode cX12_words 99 = .ok (.lconst 0, 1) := by decide +kernel
theorem dX12_words_100 : decode cX12_words 100 = .ok (.goto 4, 3) := by decide +kernel
theorem dX12_words_103 : decode cX12_words 103 = .ok (.lconst 1, 1) := by decide +kernel
theorem dX12_words_104 : decode cX12_words 104 = .ok (.lastore, 1) := by decide +kernel
theorem dX12_words_105 : decode cX12_words 105 = .ok (.aload_n 0, 1) := by decide +kernel
theorem dX12_words_106 : decode cX12_words 106 = .ok (.getfield 42, 3) := by decide +kernel
theorem dX12_words_109 : decode cX12_words 109 = .ok (.bipush 6, 2) := by decide +kernel
theorem dX12_words_111 : decode cX12_words 111 = .ok (.aload_n 0, 1) := by decide +kernel
theorem dX12_words_112 : decode cX12_words 112 = .ok (.getfield 55, 3) := by decide +kernel
theorem dX12_words_115 : decode cX12_words 115 = .ok (.iload_n 3, 1) := by decide +kernel
theorem dX12_words_116 : decode cX12_words 116 = .ok (.iaload, 1) := by decide +kernel
theorem dX12_words_117 : decode cX12_words 117 = .ok (.ldc_w 347, 3) := by decide +kernel
theorem dX12_words_120 : decode cX12_words 120 = .ok (.if_icmp .ne 7, 3) := by decide +kernel
theorem dX12_words_123 : decode cX12_words 123 = .ok (.lconst 0, 1) := by decide +kernel
theorem dX12_words_124 : decode cX12_words 124 = .ok (.goto 10, 3) := by decide +kernel
theorem dX12_words_127 : decode cX12_words 127 = .ok (.aload_n 0, 1) := by decide +kernel
theorem dX12_words_128 : decode cX12_words 128 = .ok (.getfield 55, 3) := by decide +kernel
theorem dX12_words_131 : decode cX12_words 131 = .ok (.iload_n 3, 1) := by decide +kernel
theorem dX12_words_132 : decode cX12_words 132 = .ok (.iaload, 1) := by decide +kernel
theorem dX12_words_133 : decode cX12_words 133 = .ok (.i2l, 1) := by decide +kernel
theorem dX12_words_134 : decode cX12_words 134 = .ok (.lastore, 1) := by decide +kernel
theorem dX12_words_135 : decode cX12_words 135 = .ok (.aload_n 0, 1) := by decide +kernel
theorem dX12_words_136 : decode cX12_words 136 = .ok (.getfield 42, 3) := by decide +kernel
theorem dX12_words_139 : decode cX12_words 139 = .ok (.bipush 7, 2) := by decide +kernel
theorem dX12_words_141 : decode cX12_words 141 = .ok (.aload_n 0, 1) := by decide +kernel
theorem dX12_words_142 : decode cX12_words 142 = .ok (.getfield 378, 3) := by decide +kernel
theorem dX12_words_145 : decode cX12_words 145 = .ok (.ifCond .eq 7, 3) := by decide +kernel
theorem dX12_words_148 : decode cX12_words 148 = .ok (.lconst 0, 1) := by decide +kernel
theorem dX12_words_149 : decode cX12_words 149 = .ok (.goto 10, 3) := by decide +kernel
theorem dX12_words_152 : decode cX12_words 152 = .ok (.aload_n 0, 1) := by decide +kernel
theorem dX12_words_153 : decode cX12_words 153 = .ok (.iload_n 1, 1) := by decide +kernel
theorem dX12_words_154 : decode cX12_words 154 = .ok (.iconst 5, 1) := by decide +kernel
theorem dX12_words_155 : decode cX12_words 155 = .ok (.invokevirtual 372, 3) := by decide +kernel
theorem dX12_words_158 : decode cX12_words 158 = .ok (.i2l, 1) := by decide +kernel
theorem dX12_words_159 : decode cX12_words 159 = .ok (.lastore, 1) := by decide +kernel
theorem dX12_words_160 : decode cX12_words 160 = .ok (.aload_n 0, 1) := by decide +kernel
theorem dX12_words_161 : decode cX12_words 161 = .ok (.getfield 42, 3) := by decide +kernel
theorem dX12_words_164 : decode cX12_words 164 = .ok (.bipush 8, 2) := by decide +kernel
theorem dX12_words_166 : decode cX12_words 166 = .ok (.aload_n 0, 1) := by decide +kernel
theorem dX12_words_167 : decode cX12_words 167 = .ok (.iload_n 1, 1) := by decide +kernel
theorem dX12_words_168 : decode cX12_words 168 = .ok (.bipush 6, 2) := by decide +kernel
theorem dX12_words_170 : decode cX12_words 170 = .ok (.invokevirtual 372, 3) := by decide +kernel
theorem dX12_words_173 : decode cX12_words 173 = .ok (.i2l, 1) := by decide +kernel
theorem dX12_words_174 : decode cX12_words 174 = .ok (.lastore, 1) := by decide +kernel
theorem dX12_words_175 : decode cX12_words 175 = .ok (.aload_n 0, 1) := by decide +kernel
theorem dX12_words_176 : decode cX12_words 176 = .ok (.getfield 42, 3) := by decide +kernel
theorem dX12_words_179 : decode cX12_words 179 = .ok (.bipush 9, 2) := by decide +kernel
theorem dX12_words_181 : decode cX12_words 181 = .ok (.aload_n 0, 1) := by decide +kernel
theorem dX12_words_182 : decode cX12_words 182 = .ok (.iload_n 1, 1) := by decide +kernel
theorem dX12_words_183 : decode cX12_words 183 = .ok (.bipush 7, 2) := by decide +kernel
theorem dX12_words_185 : decode cX12_words 185 = .ok (.invokevirtual 372, 3) := by decide +kernel
theorem dX12_words_188 : decode cX12_words 188 = .ok (.ifCond .ge 9, 3) := by decide +kernel
theorem dX12_words_191 : decode cX12_words 191 = .ok (.ldc2_w 393, 3) := by decide +kernel
theorem dX12_words_194 : decode cX12_words 194 = .ok (.goto 11, 3) := by decide +kernel
theorem dX12_words_197 : decode cX12_words 197 = .ok (.aload_n 0, 1) := by decide +kernel
theorem dX12_words_198 : decode cX12_words 198 = .ok (.iload_n 1, 1) := by decide +kernel
theorem dX12_words_199 : decode cX12_words 199 = .ok (.bipush 7, 2) := by decide +kernel
theorem dX12_words_201 : decode cX12_words 201 = .ok (.invokevirtual 372, 3) := by decide +kernel
theorem dX12_words_204 : decode cX12_words 204 = .ok (.i2l, 1) := by decide +kernel
theorem dX12_words_205 : decode cX12_words 205 = .ok (.lastore, 1) := by decide +kernel
theorem dX12_words_206 : decode cX12_words 206 = .ok (.return_, 1) := by decide +kernel
set_option maxRecDepth 20000 in
theorem ggX12_takesStreet_X12_otherOf : GoodIn wsX12_takesStreet wsX12_otherOf := goodIn_r _ [6, 7, 8, 9, 5, 10, 1, 11, 12, 13, 14, 15, 16, 17, 18, 19, 20, 21, 22, 23, 24, 25, 26, 27, 28, 29, 30, 31, 32, 33, 34, 35, 36, 37, 38, 39, 40, 41, 42, 43, 44, 45, 46, 47, 48, 49, 50, 51, 52] (by decide +kernel) (by decide +kernel)
set_option maxRecDepth 20000 in
theorem gX12_takesStreet_X12_otherOf : GoodIn wsX12_takesStreet (wsV RX12 348 RX12 yX12_otherOf wsX12_otherOf) := goodIn_app (goodIn_of _ (by decide +kernel)) ggX12_takesStreet_X12_otherOf
set_option maxRecDepth 20000 in
theorem ggX12_takesStreet_X12_streetOf : GoodIn wsX12_takesStreet wsX12_streetOf := goodIn_r _ [10, 1, 11, 12, 13, 14, 15, 16, 17, 18, 19, 20, 21, 22, 23, 24, 25, 26, 27, 28, 29, 30, 31, 32, 33, 34, 35, 36, 37, 38, 39, 40, 41, 42, 43, 44, 45, 46, 47, 48, 49, 50, 51, 52] (by decide +kernel) (by decide +kernel)
set_option maxRecDepth 20000 in
theorem gX12_takesStreet_X12_streetOf : GoodIn wsX12_takesStreet (wsV RX12 300 RX12 yX12_streetOf wsX12_streetOf) := goodIn_app (goodIn_of _ (by decide +kernel)) ggX12_takesStreet_X12_streetOf
theorem dX12_takesStreet_0 : decode cX12_takesStreet 0 = .ok (.sipush 216, 3) := by decide +kernel
theorem dX12_takesStreet_3 : decode cX12_takesStreet 3 = .ok (.bipush 9, 2) := by decide +kernel
theorem dX12_takesStreet_5 : decode cX12_takesStreet 5 = .ok (.iload_n 1, 1) := by decide +kernel
theorem dX12_takesStreet_6 : decode cX12_takesStreet 6 = .ok (.imul, 1) := by decide +kernel
theorem dX12_takesStreet_7 : decode cX12_takesStreet 7 = .ok (.iadd, 1) := by decide +kernel
theorem dX12_takesStreet_8 : decode cX12_takesStreet 8 = .ok (.istore_n 3, 1) := by decide +kernel
theorem dX12_takesStreet_9 : decode cX12_takesStreet 9 = .ok (.aload_n 0, 1) := by decide +kernel
theorem dX12_takesStreet_10 : decode cX12_takesStreet 10 = .ok (.getfield 45, 3) := by decide +kernel
theorem dX12_takesStreet_13 : decode cX12_takesStreet 13 = .ok (.iload_n 3, 1) := by decide +kernel
theorem dX12_takesStreet_14 : decode cX12_takesStreet 14 = .ok (.iaload, 1) := by decide +kernel
theorem dX12_takesStreet_15 : decode cX12_takesStreet 15 = .ok (.istore 4, 2) := by decide +kernel
theorem dX12_takesStreet_17 : decode cX12_takesStreet 17 = .ok (.aload_n 0, 1) := by decide +kernel
theorem dX12_takesStreet_18 : decode cX12_takesStreet 18 = .ok (.getfield 45, 3) := by decide +kernel
theorem dX12_takesStreet_21 : decode cX12_takesStreet 21 = .ok (.iload_n 3, 1) := by decide +kernel
theorem dX12_takesStreet_22 : decode cX12_takesStreet 22 = .ok (.aload_n 0, 1) := by decide +kernel
theorem dX12_takesStreet_23 : decode cX12_takesStreet 23 = .ok (.iload_n 2, 1) := by decide +kernel
theorem dX12_takesStreet_24 : decode cX12_takesStreet 24 = .ok (.iload 4, 2) := by decide +kernel
theorem dX12_takesStreet_26 : decode cX12_takesStreet 26 = .ok (.invokevirtual 348, 3) := by decide +kernel
theorem dX12_takesStreet_29 : decode cX12_takesStreet 29 = .ok (.iastore, 1) := by decide +kernel
theorem dX12_takesStreet_30 : decode cX12_takesStreet 30 = .ok (.aload_n 0, 1) := by decide +kernel
theorem dX12_takesStreet_31 : decode cX12_takesStreet 31 = .ok (.getfield 45, 3) := by decide +kernel
theorem dX12_takesStreet_34 : decode cX12_takesStreet 34 = .ok (.iload_n 3, 1) := by decide +kernel
theorem dX12_takesStreet_35 : decode cX12_takesStreet 35 = .ok (.bipush 7, 2) := by decide +kernel
theorem dX12_takesStreet_37 : decode cX12_takesStreet 37 = .ok (.iadd, 1) := by decide +kernel
theorem dX12_takesStreet_38 : decode cX12_takesStreet 38 = .ok (.iload 4, 2) := by decide +kernel
theorem dX12_takesStreet_40 : decode cX12_takesStreet 40 = .ok (.iastore, 1) := by decide +kernel
theorem dX12_takesStreet_41 : decode cX12_takesStreet 41 = .ok (.aload_n 0, 1) := by decide +kernel
theorem dX12_takesStreet_42 : decode cX12_takesStreet 42 = .ok (.getfield 45, 3) := by decide +kernel
theorem dX12_takesStreet_45 : decode cX12_takesStreet 45 = .ok (.iload_n 3, 1) := by decide +kernel
theorem dX12_takesStreet_46 : decode cX12_takesStreet 46 = .ok (.iconst 4, 1) := by decide +kernel
theorem dX12_takesStreet_47 : decode cX12_takesStreet 47 = .ok (.iadd, 1) := by decide +kernel
theorem dX12_takesStreet_48 : decode cX12_takesStreet 48 = .ok (.dup2, 1) := by decide +kernel
theorem dX12_takesStreet_49 : decode cX12_takesStreet 49 = .ok (.iaload, 1) := by decide +kernel
theorem dX12_takesStreet_50 : decode cX12_takesStreet 50 = .ok (.aload_n 0, 1) := by decide +kernel
theorem dX12_takesStreet_51 : decode cX12_takesStreet 51 = .ok (.iload_n 2, 1) := by decide +kernel
theorem dX12_takesStreet_52 : decode cX12_takesStreet 52 = .ok (.iconst 2, 1) := by decide +kernel
theorem dX12_takesStreet_53 : decode cX12_takesStreet 53 = .ok (.invokevirtual 300, 3) := by decide +kernel
theorem dX12_takesStreet_56 : decode cX12_takesStreet 56 = .ok (.iadd, 1) := by decide +kernel
theorem dX12_takesStreet_57 : decode cX12_takesStreet 57 = .ok (.iastore, 1) := by decide +kernel
theorem dX12_takesStreet_58 : decode cX12_takesStreet 58 = .ok (.return_, 1) := by decide +kernel
theorem dX12_keeps_0 : decode cX12_keeps 0 = .ok (.iconst 0, 1) := by decide +kernel
theorem dX12_keeps_1 : decode cX12_keeps 1 = .ok (.istore_n 1, 1) := by decide +kernel
theorem dX12_keeps_2 : decode cX12_keeps 2 = .ok (.iload_n 1, 1) := by decide +kernel
theorem dX12_keeps_3 : decode cX12_keeps 3 = .ok (.sipush 296, 3) := by decide +kernel
theorem dX12_keeps_6 : decode cX12_keeps 6 = .ok (.if_icmp .ge 21, 3) := by decide +kernel
theorem dX12_keeps_9 : decode cX12_keeps 9 = .ok (.aload_n 0, 1) := by decide +kernel
theorem dX12_keeps_10 : decode cX12_keeps 10 = .ok (.getfield 58, 3) := by decide +kernel
theorem dX12_keeps_13 : decode cX12_keeps 13 = .ok (.iload_n 1, 1) := by decide +kernel
theorem dX12_keeps_14 : decode cX12_keeps 14 = .ok (.aload_n 0, 1) := by decide +kernel
theorem dX12_keeps_15 : decode cX12_keeps 15 = .ok (.getfield 45, 3) := by decide +kernel
theorem dX12_keeps_18 : decode cX12_keeps 18 = .ok (.iload_n 1, 1) := by decide +kernel
theorem dX12_keeps_19 : decode cX12_keeps 19 = .ok (.iaload, 1) := by decide +kernel
theorem dX12_keeps_20 : decode cX12_keeps 20 = .ok (.iastore, 1) := by decide +kernel
theorem dX12_keeps_21 : decode cX12_keeps 21 = .ok (.iinc 1 1, 3) := by decide +kernel
theorem dX12_keeps_24 : decode cX12_keeps 24 = .ok (.goto (-22), 3) := by decide +kernel
theorem dX12_keeps_27 : decode cX12_keeps 27 = .ok (.return_, 1) := by decide +kernel
theorem dX12_putsBack_0 : decode cX12_putsBack 0 = .ok (.iconst 0, 1) := by decide +kernel
theorem dX12_putsBack_1 : decode cX12_putsBack 1 = .ok (.istore_n 1, 1) := by decide +kernel
theorem dX12_putsBack_2 : decode cX12_putsBack 2 = .ok (.iload_n 1, 1) := by decide +kernel
theorem dX12_putsBack_3 : decode cX12_putsBack 3 = .ok (.sipush 296, 3) := by decide +kernel
theorem dX12_putsBack_6 : decode cX12_putsBack 6 = .ok (.if_icmp .ge 21, 3) := by decide +kernel
theorem dX12_putsBack_9 : decode cX12_putsBack 9 = .ok (.aload_n 0, 1) := by decide +kernel
theorem dX12_putsBack_10 : decode cX12_putsBack 10 = .ok (.getfield 45, 3) := by decide +kernel
theorem dX12_putsBack_13 : decode cX12_putsBack 13 = .ok (.iload_n 1, 1) := by decide +kernel
theorem dX12_putsBack_14 : decode cX12_putsBack 14 = .ok (.aload_n 0, 1) := by decide +kernel
theorem dX12_putsBack_15 : decode cX12_putsBack 15 = .ok (.getfield 58, 3) := by decide +kernel
theorem dX12_putsBack_18 : decode cX12_putsBack 18 = .ok (.iload_n 1, 1) := by decide +kernel
theorem dX12_putsBack_19 : decode cX12_putsBack 19 = .ok (.iaload, 1) := by decide +kernel
theorem dX12_putsBack_20 : decode cX12_putsBack 20 = .ok (.iastore, 1) := by decide +kernel
theorem dX12_putsBack_21 : decode cX12_putsBack 21 = .ok (.iinc 1 1, 3) := by decide +kernel
theorem dX12_putsBack_24 : decode cX12_putsBack 24 = .ok (.goto (-22), 3) := by decide +kernel
theorem dX12_putsBack_27 : decode cX12_putsBack 27 = .ok (.return_, 1) := by decide +kernel
set_option maxRecDepth 20000 in
theorem ggX12_asHeIs_X12_walkerOf : GoodIn wsX12_asHeIs wsX12_walkerOf := goodIn_r _ [5, 6, 7, 8, 9, 10, 11, 12, 13, 14, 15, 16, 17, 18, 19, 20, 21, 22, 23, 24, 25, 26, 27, 28, 29, 30, 31, 32, 33, 34, 35, 36, 37, 38, 39, 40, 41, 42, 43, 44, 45, 46, 47, 48] (by decide +kernel) (by decide +kernel)
set_option maxRecDepth 20000 in
theorem gX12_asHeIs_X12_walkerOf : GoodIn wsX12_asHeIs (wsV RX12 372 RX12 yX12_walkerOf wsX12_walkerOf) := goodIn_app (goodIn_of _ (by decide +kernel)) ggX12_asHeIs_X12_walkerOf
theorem dX12_asHeIs_0 : decode cX12_asHeIs 0 = .ok (.aload_n 0, 1) := by decide +kernel
theorem dX12_asHeIs_1 : decode cX12_asHeIs 1 = .ok (.iload_n 1, 1) := by decide +kernel
theorem dX12_asHeIs_2 : decode cX12_asHeIs 2 = .ok (.iconst 0, 1) := by decide +kernel
theorem dX12_asHeIs_3 : decode cX12_asHeIs 3 = .ok (.invokevirtual 372, 3) := by decide +kernel
theorem dX12_asHeIs_6 : decode cX12_asHeIs 6 = .ok (.sipush 168, 3) := by decide +kernel
theorem dX12_asHeIs_9 : decode cX12_asHeIs 9 = .ok (.imul, 1) := by decide +kernel
theorem dX12_asHeIs_10 : decode cX12_asHeIs 10 = .ok (.aload_n 0, 1) := by decide +kernel
theorem dX12_asHeIs_11 : decode cX12_asHeIs 11 = .ok (.iload_n 1, 1) := by decide +kernel
theorem dX12_asHeIs_12 : decode cX12_asHeIs 12 = .ok (.iconst 4, 1) := by decide +kernel
theorem dX12_asHeIs_13 : decode cX12_asHeIs 13 = .ok (.invokevirtual 372, 3) := by decide +kernel
theorem dX12_asHeIs_16 : decode cX12_asHeIs 16 = .ok (.sipush 168, 3) := by decide +kernel
theorem dX12_asHeIs_19 : decode cX12_asHeIs 19 = .ok (.irem, 1) := by decide +kernel
theorem dX12_asHeIs_20 : decode cX12_asHeIs 20 = .ok (.iadd, 1) := by decide +kernel
theorem dX12_asHeIs_21 : decode cX12_asHeIs 21 = .ok (.bipush 11, 2) := by decide +kernel
theorem dX12_asHeIs_23 : decode cX12_asHeIs 23 = .ok (.imul, 1) := by decide +kernel
theorem dX12_asHeIs_24 : decode cX12_asHeIs 24 = .ok (.aload_n 0, 1) := by decide +kernel
theorem dX12_asHeIs_25 : decode cX12_asHeIs 25 = .ok (.iload_n 1, 1) := by decide +kernel
theorem dX12_asHeIs_26 : decode cX12_asHeIs 26 = .ok (.bipush 7, 2) := by decide +kernel
theorem dX12_asHeIs_28 : decode cX12_asHeIs 28 = .ok (.invokevirtual 372, 3) := by decide +kernel
theorem dX12_asHeIs_31 : decode cX12_asHeIs 31 = .ok (.iadd, 1) := by decide +kernel
theorem dX12_asHeIs_32 : decode cX12_asHeIs 32 = .ok (.iconst 1, 1) := by decide +kernel
theorem dX12_asHeIs_33 : decode cX12_asHeIs 33 = .ok (.iadd, 1) := by decide +kernel
theorem dX12_asHeIs_34 : decode cX12_asHeIs 34 = .ok (.ireturn, 1) := by decide +kernel
theorem dX12_draw_0 : decode cX12_draw 0 = .ok (.aload_n 0, 1) := by decide +kernel
theorem dX12_draw_1 : decode cX12_draw 1 = .ok (.aload_n 0, 1) := by decide +kernel
theorem dX12_draw_2 : decode cX12_draw 2 = .ok (.getfield 493, 3) := by decide +kernel
theorem dX12_draw_5 : decode cX12_draw 5 = .ok (.ldc2_w 497, 3) := by decide +kernel
theorem dX12_draw_8 : decode cX12_draw 8 = .ok (.lmul, 1) := by decide +kernel
theorem dX12_draw_9 : decode cX12_draw 9 = .ok (.ldc2_w 499, 3) := by decide +kernel
theorem dX12_draw_12 : decode cX12_draw 12 = .ok (.ladd, 1) := by decide +kernel
theorem dX12_draw_13 : decode cX12_draw 13 = .ok (.ldc2_w 501, 3) := by decide +kernel
theorem dX12_draw_16 : decode cX12_draw 16 = .ok (.lrem, 1) := by decide +kernel
theorem dX12_draw_17 : decode cX12_draw 17 = .ok (.putfield 493, 3) := by decide +kernel
theorem dX12_draw_20 : decode cX12_draw 20 = .ok (.aload_n 0, 1) := by decide +kernel
theorem dX12_draw_21 : decode cX12_draw 21 = .ok (.getfield 493, 3) := by decide +kernel
theorem dX12_draw_24 : decode cX12_draw 24 = .ok (.ldc2_w 503, 3) := by decide +kernel
theorem dX12_draw_27 : decode cX12_draw 27 = .ok (.ldiv, 1) := by decide +kernel
theorem dX12_draw_28 : decode cX12_draw 28 = .ok (.iload_n 1, 1) := by decide +kernel
theorem dX12_draw_29 : decode cX12_draw 29 = .ok (.i2l, 1) := by decide +kernel
theorem dX12_draw_30 : decode cX12_draw 30 = .ok (.lrem, 1) := by decide +kernel
theorem dX12_draw_31 : decode cX12_draw 31 = .ok (.l2i, 1) := by decide +kernel
theorem dX12_draw_32 : decode cX12_draw 32 = .ok (.ireturn, 1) := by decide +kernel
