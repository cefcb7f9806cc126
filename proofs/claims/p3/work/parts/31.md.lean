theorem dX12_in_0 : decode cX12_in 0 = .ok (.lload_n 0, 1) := by decide +kernel
theorem dX12_in_1 : decode cX12_in 1 = .ok (.lload_n 2, 1) := by decide +kernel
theorem dX12_in_2 : decode cX12_in 2 = .ok (.lcmp, 1) := by decide +kernel
theorem dX12_in_3 : decode cX12_in 3 = .ok (.ifCond .lt 14, 3) := by decide +kernel
theorem dX12_in_6 : decode cX12_in 6 = .ok (.lload_n 0, 1) := by decide +kernel
theorem dX12_in_7 : decode cX12_in 7 = .ok (.lload 4, 2) := by decide +kernel
theorem dX12_in_9 : decode cX12_in 9 = .ok (.lcmp, 1) := by decide +kernel
theorem dX12_in_10 : decode cX12_in 10 = .ok (.ifCond .gt 7, 3) := by decide +kernel
theorem dX12_in_13 : decode cX12_in 13 = .ok (.iconst 1, 1) := by decide +kernel
theorem dX12_in_14 : decode cX12_in 14 = .ok (.goto 4, 3) := by decide +kernel
theorem dX12_in_17 : decode cX12_in 17 = .ok (.iconst 0, 1) := by decide +kernel
theorem dX12_in_18 : decode cX12_in 18 = .ok (.ireturn, 1) := by decide +kernel
theorem dX12_isOf_0 : decode cX12_isOf 0 = .ok (.iload_n 0, 1) := by decide +kernel
theorem dX12_isOf_1 : decode cX12_isOf 1 = .ok (.iload_n 1, 1) := by decide +kernel
theorem dX12_isOf_2 : decode cX12_isOf 2 = .ok (.ishr, 1) := by decide +kernel
theorem dX12_isOf_3 : decode cX12_isOf 3 = .ok (.iconst 1, 1) := by decide +kernel
theorem dX12_isOf_4 : decode cX12_isOf 4 = .ok (.iand, 1) := by decide +kernel
theorem dX12_isOf_5 : decode cX12_isOf 5 = .ok (.iconst 1, 1) := by decide +kernel
theorem dX12_isOf_6 : decode cX12_isOf 6 = .ok (.if_icmp .ne 7, 3) := by decide +kernel
theorem dX12_isOf_9 : decode cX12_isOf 9 = .ok (.iconst 1, 1) := by decide +kernel
theorem dX12_isOf_10 : decode cX12_isOf 10 = .ok (.goto 4, 3) := by decide +kernel
theorem dX12_isOf_13 : decode cX12_isOf 13 = .ok (.iconst 0, 1) := by decide +kernel
theorem dX12_isOf_14 : decode cX12_isOf 14 = .ok (.ireturn, 1) := by decide +kernel
theorem dX12_bits_0 : decode cX12_bits 0 = .ok (.iconst 0, 1) := by decide +kernel
theorem dX12_bits_1 : decode cX12_bits 1 = .ok (.istore_n 1, 1) := by decide +kernel
theorem dX12_bits_2 : decode cX12_bits 2 = .ok (.iload_n 0, 1) := by decide +kernel
theorem dX12_bits_3 : decode cX12_bits 3 = .ok (.istore_n 2, 1) := by decide +kernel
theorem dX12_bits_4 : decode cX12_bits 4 = .ok (.iload_n 2, 1) := by decide +kernel
theorem dX12_bits_5 : decode cX12_bits 5 = .ok (.ifCond .eq 15, 3) := by decide +kernel
theorem dX12_bits_8 : decode cX12_bits 8 = .ok (.iinc 1 1, 3) := by decide +kernel
theorem dX12_bits_11 : decode cX12_bits 11 = .ok (.iload_n 2, 1) := by decide +kernel
theorem dX12_bits_12 : decode cX12_bits 12 = .ok (.iload_n 2, 1) := by decide +kernel
theorem dX12_bits_13 : decode cX12_bits 13 = .ok (.iconst 1, 1) := by decide +kernel
theorem dX12_bits_14 : decode cX12_bits 14 = .ok (.isub, 1) := by decide +kernel
theorem dX12_bits_15 : decode cX12_bits 15 = .ok (.iand, 1) := by decide +kernel
theorem dX12_bits_16 : decode cX12_bits 16 = .ok (.istore_n 2, 1) := by decide +kernel
theorem dX12_bits_17 : decode cX12_bits 17 = .ok (.goto (-13), 3) := by decide +kernel
theorem dX12_bits_20 : decode cX12_bits 20 = .ok (.iload_n 1, 1) := by decide +kernel
theorem dX12_bits_21 : decode cX12_bits 21 = .ok (.ireturn, 1) := by decide +kernel
theorem dX12_four_0 : decode cX12_four 0 = .ok (.bipush 24, 2) := by decide +kernel
theorem dX12_four_2 : decode cX12_four 2 = .ok (.istore_n 2, 1) := by decide +kernel
theorem dX12_four_3 : decode cX12_four 3 = .ok (.iload_n 2, 1) := by decide +kernel
theorem dX12_four_4 : decode cX12_four 4 = .ok (.ifCond .lt 32, 3) := by decide +kernel
theorem dX12_four_7 : decode cX12_four 7 = .ok (.aload_n 0, 1) := by decide +kernel
theorem dX12_four_8 : decode cX12_four 8 = .ok (.getfield 7, 3) := by decide +kernel
theorem dX12_four_11 : decode cX12_four 11 = .ok (.aload_n 0, 1) := by decide +kernel
theorem dX12_four_12 : decode cX12_four 12 = .ok (.getfield 83, 3) := by decide +kernel
theorem dX12_four_15 : decode cX12_four 15 = .ok (.iload_n 1, 1) := by decide +kernel
theorem dX12_four_16 : decode cX12_four 16 = .ok (.iload_n 2, 1) := by decide +kernel
theorem dX12_four_17 : decode cX12_four 17 = .ok (.ishr, 1) := by decide +kernel
theorem dX12_four_18 : decode cX12_four 18 = .ok (.i2b, 1) := by decide +kernel
theorem dX12_four_19 : decode cX12_four 19 = .ok (.bastore, 1) := by decide +kernel
theorem dX12_four_20 : decode cX12_four 20 = .ok (.aload_n 0, 1) := by decide +kernel
theorem dX12_four_21 : decode cX12_four 21 = .ok (.dup, 1) := by decide +kernel
theorem dX12_four_22 : decode cX12_four 22 = .ok (.getfield 83, 3) := by decide +kernel
theorem dX12_four_25 : decode cX12_four 25 = .ok (.iconst 1, 1) := by decide +kernel
theorem dX12_four_26 : decode cX12_four 26 = .ok (.iadd, 1) := by decide +kernel
theorem dX12_four_27 : decode cX12_four 27 = .ok (.putfield 83, 3) := by decide +kernel
theorem dX12_four_30 : decode cX12_four 30 = .ok (.iinc 2 (-8), 3) := by decide +kernel
theorem dX12_four_33 : decode cX12_four 33 = .ok (.goto (-30), 3) := by decide +kernel
theorem dX12_four_36 : decode cX12_four 36 = .ok (.return_, 1) := by decide +kernel
set_option maxRecDepth 20000 in
theorem ggX12_feed_X12_four : GoodIn wsX12_feed wsX12_four := goodIn_r _ [6, 7, 1, 8, 9, 10, 11, 12, 13, 14, 15, 16, 17, 18, 19, 20, 21, 22, 23, 24, 25, 26, 27, 28, 29, 30, 31, 32, 33, 34, 35, 36, 37, 38, 39, 40, 41, 42, 43, 44, 45, 46, 47, 48, 49] (by decide +kernel) (by decide +kernel)
set_option maxRecDepth 20000 in
theorem gX12_feed_X12_four : GoodIn wsX12_feed (wsV RX12 87 RX12 yX12_four wsX12_four) := goodIn_app (goodIn_of _ (by decide +kernel)) ggX12_feed_X12_four
theorem dX12_feed_0 : decode cX12_feed 0 = .ok (.aload_n 0, 1) := by decide +kernel
theorem dX12_feed_1 : decode cX12_feed 1 = .ok (.getfield 83, 3) := by decide +kernel
theorem dX12_feed_4 : decode cX12_feed 4 = .ok (.bipush 20, 2) := by decide +kernel
theorem dX12_feed_6 : decode cX12_feed 6 = .ok (.iadd, 1) := by decide +kernel
theorem dX12_feed_7 : decode cX12_feed 7 = .ok (.sipush 400, 3) := by decide +kernel
theorem dX12_feed_10 : decode cX12_feed 10 = .ok (.if_icmp .le 5, 3) := by decide +kernel
theorem dX12_feed_13 : decode cX12_feed 13 = .ok (.iconst (-1), 1) := by decide +kernel
theorem dX12_feed_14 : decode cX12_feed 14 = .ok (.ireturn, 1) := by decide +kernel
theorem dX12_feed_15 : decode cX12_feed 15 = .ok (.aload_n 0, 1) := by decide +kernel
theorem dX12_feed_16 : decode cX12_feed 16 = .ok (.iload_n 1, 1) := by decide +kernel
theorem dX12_feed_17 : decode cX12_feed 17 = .ok (.invokevirtual 87, 3) := by decide +kernel
theorem dX12_feed_20 : decode cX12_feed 20 = .ok (.aload_n 0, 1) := by decide +kernel
theorem dX12_feed_21 : decode cX12_feed 21 = .ok (.iload_n 2, 1) := by decide +kernel
theorem dX12_feed_22 : decode cX12_feed 22 = .ok (.invokevirtual 87, 3) := by decide +kernel
theorem dX12_feed_25 : decode cX12_feed 25 = .ok (.aload_n 0, 1) := by decide +kernel
theorem dX12_feed_26 : decode cX12_feed 26 = .ok (.iload_n 3, 1) := by decide +kernel
theorem dX12_feed_27 : decode cX12_feed 27 = .ok (.invokevirtual 87, 3) := by decide +kernel
theorem dX12_feed_30 : decode cX12_feed 30 = .ok (.aload_n 0, 1) := by decide +kernel
theorem dX12_feed_31 : decode cX12_feed 31 = .ok (.iload 4, 2) := by decide +kernel
theorem dX12_feed_33 : decode cX12_feed 33 = .ok (.invokevirtual 87, 3) := by decide +kernel
theorem dX12_feed_36 : decode cX12_feed 36 = .ok (.aload_n 0, 1) := by decide +kernel
theorem dX12_feed_37 : decode cX12_feed 37 = .ok (.iload 5, 2) := by decide +kernel
theorem dX12_feed_39 : decode cX12_feed 39 = .ok (.invokevirtual 87, 3) := by decide +kernel
theorem dX12_feed_42 : decode cX12_feed 42 = .ok (.aload_n 0, 1) := by decide +kernel
theorem dX12_feed_43 : decode cX12_feed 43 = .ok (.getfield 83, 3) := by decide +kernel
theorem dX12_feed_46 : decode cX12_feed 46 = .ok (.ireturn, 1) := by decide +kernel
theorem dX12_end_0 : decode cX12_end 0 = .ok (.iload_n 1, 1) := by decide +kernel
theorem dX12_end_1 : decode cX12_end 1 = .ok (.ifCond .lt 11, 3) := by decide +kernel
theorem dX12_end_4 : decode cX12_end 4 = .ok (.iload_n 1, 1) := by decide +kernel
theorem dX12_end_5 : decode cX12_end 5 = .ok (.aload_n 0, 1) := by decide +kernel
theorem dX12_end_6 : decode cX12_end 6 = .ok (.getfield 83, 3) := by decide +kernel
theorem dX12_end_9 : decode cX12_end 9 = .ok (.if_icmp .le 5, 3) := by decide +kernel
theorem dX12_end_12 : decode cX12_end 12 = .ok (.iconst (-1), 1) := by decide +kernel
theorem dX12_end_13 : decode cX12_end 13 = .ok (.ireturn, 1) := by decide +kernel
theorem dX12_end_14 : decode cX12_end 14 = .ok (.aload_n 0, 1) := by decide +kernel
theorem dX12_end_15 : decode cX12_end 15 = .ok (.iload_n 1, 1) := by decide +kernel
theorem dX12_end_16 : decode cX12_end 16 = .ok (.putfield 83, 3) := by decide +kernel
theorem dX12_end_19 : decode cX12_end 19 = .ok (.iload_n 1, 1) := by decide +kernel
theorem dX12_end_20 : decode cX12_end 20 = .ok (.ireturn, 1) := by decide +kernel
theorem dX12_fails_0 : decode cX12_fails 0 = .ok (.aload_n 0, 1) := by decide +kernel
theorem dX12_fails_1 : decode cX12_fails 1 = .ok (.getfield 91, 3) := by decide +kernel
theorem dX12_fails_4 : decode cX12_fails 4 = .ok (.ifCond .ne 15, 3) := by decide +kernel
theorem dX12_fails_7 : decode cX12_fails 7 = .ok (.aload_n 0, 1) := by decide +kernel
theorem dX12_fails_8 : decode cX12_fails 8 = .ok (.iconst 1, 1) := by decide +kernel
theorem dX12_fails_9 : decode cX12_fails 9 = .ok (.bipush 8, 2) := by decide +kernel
theorem dX12_fails_11 : decode cX12_fails 11 = .ok (.iload_n 2, 1) := by decide +kernel
theorem dX12_fails_12 : decode cX12_fails 12 = .ok (.imul, 1) := by decide +kernel
theorem dX12_fails_13 : decode cX12_fails 13 = .ok (.iadd, 1) := by decide +kernel
theorem dX12_fails_14 : decode cX12_fails 14 = .ok (.iload_n 1, 1) := by decide +kernel
theorem dX12_fails_15 : decode cX12_fails 15 = .ok (.iadd, 1) := by decide +kernel
theorem dX12_fails_16 : decode cX12_fails 16 = .ok (.putfield 91, 3) := by decide +kernel
theorem dX12_fails_19 : decode cX12_fails 19 = .ok (.iconst 0, 1) := by decide +kernel
theorem dX12_fails_20 : decode cX12_fails 20 = .ok (.ireturn, 1) := by decide +kernel
theorem dX12_see_0 : decode cX12_see 0 = .ok (.aload_n 0, 1) := by decide +kernel
theorem dX12_see_1 : decode cX12_see 1 = .ok (.getfield 94, 3) := by decide +kernel
theorem dX12_see_4 : decode cX12_see 4 = .ok (.aload_n 0, 1) := by decide +kernel
theorem dX12_see_5 : decode cX12_see 5 = .ok (.getfield 83, 3) := by decide +kernel
theorem dX12_see_8 : decode cX12_see 8 = .ok (.if_icmp .ge 30, 3) := by decide +kernel
theorem dX12_see_11 : decode cX12_see 11 = .ok (.aload_n 0, 1) := by decide +kernel
theorem dX12_see_12 : decode cX12_see 12 = .ok (.getfield 7, 3) := by decide +kernel
theorem dX12_see_15 : decode cX12_see 15 = .ok (.aload_n 0, 1) := by decide +kernel
theorem dX12_see_16 : decode cX12_see 16 = .ok (.getfield 94, 3) := by decide +kernel
theorem dX12_see_19 : decode cX12_see 19 = .ok (.baload, 1) := by decide +kernel
theorem dX12_see_20 : decode cX12_see 20 = .ok (.bipush 32, 2) := by decide +kernel
theorem dX12_see_22 : decode cX12_see 22 = .ok (.if_icmp .ne 16, 3) := by decide +kernel
theorem dX12_see_25 : decode cX12_see 25 = .ok (.aload_n 0, 1) := by decide +kernel
theorem dX12_see_26 : decode cX12_see 26 = .ok (.dup, 1) := by decide +kernel
theorem dX12_see_27 : decode cX12_see 27 = .ok (.getfield 94, 3) := by decide +kernel
theorem dX12_see_30 : decode cX12_see 30 = .ok (.iconst 1, 1) := by decide +kernel
theorem dX12_see_31 : decode cX12_see 31 = .ok (.iadd, 1) := by decide +kernel
theorem dX12_see_32 : decode cX12_see 32 = .ok (.putfield 94, 3) := by decide +kernel
theorem dX12_see_35 : decode cX12_see 35 = .ok (.goto (-35), 3) := by decide +kernel
theorem dX12_see_38 : decode cX12_see 38 = .ok (.aload_n 0, 1) := by decide +kernel
theorem dX12_see_39 : decode cX12_see 39 = .ok (.getfield 94, 3) := by decide +kernel
theorem dX12_see_42 : decode cX12_see 42 = .ok (.aload_n 0, 1) := by decide +kernel
theorem dX12_see_43 : decode cX12_see 43 = .ok (.getfield 83, 3) := by decide +kernel
theorem dX12_see_46 : decode cX12_see 46 = .ok (.if_icmp .ge 19, 3) := by decide +kernel
theorem dX12_see_49 : decode cX12_see 49 = .ok (.aload_n 0, 1) := by decide +kernel
theorem dX12_see_50 : decode cX12_see 50 = .ok (.getfield 7, 3) := by decide +kernel
theorem dX12_see_53 : decode cX12_see 53 = .ok (.aload_n 0, 1) := by decide +kernel
theorem dX12_see_54 : decode cX12_see 54 = .ok (.getfield 94, 3) := by decide +kernel
theorem dX12_see_57 : decode cX12_see 57 = .ok (.baload, 1) := by decide +kernel
theorem dX12_see_58 : decode cX12_see 58 = .ok (.sipush 255, 3) := by decide +kernel
theorem dX12_see_61 : decode cX12_see 61 = .ok (.iand, 1) := by decide +kernel
theorem dX12_see_62 : decode cX12_see 62 = .ok (.goto 4, 3) := by decide +kernel
theorem dX12_see_65 : decode cX12_see 65 = .ok (.iconst (-1), 1) := by decide +kernel
theorem dX12_see_66 : decode cX12_see 66 = .ok (.ireturn, 1) := by decide +kernel
theorem dX12_isDigit_0 : decode cX12_isDigit 0 = .ok (.iload_n 1, 1) := by decide +kernel
theorem dX12_isDigit_1 : decode cX12_isDigit 1 = .ok (.aload_n 0, 1) := by decide +kernel
theorem dX12_isDigit_2 : decode cX12_isDigit 2 = .ok (.getfield 83, 3) := by decide +kernel
theorem dX12_isDigit_5 : decode cX12_isDigit 5 = .ok (.if_icmp .ge 29, 3) := by decide +kernel
theorem dX12_isDigit_8 : decode cX12_isDigit 8 = .ok (.aload_n 0, 1) := by decide +kernel
theorem dX12_isDigit_9 : decode cX12_isDigit 9 = .ok (.getfield 7, 3) := by decide +kernel
theorem dX12_isDigit_12 : decode cX12_isDigit 12 = .ok (.iload_n 1, 1) := by decide +kernel
theorem dX12_isDigit_13 : decode cX12_isDigit 13 = .ok (.baload, 1) := by decide +kernel
theorem dX12_isDigit_14 : decode cX12_isDigit 14 = .ok (.bipush 48, 2) := by decide +kernel
theorem dX12_isDigit_16 : decode cX12_isDigit 16 = .ok (.if_icmp .lt 18, 3) := by decide +kernel
theorem dX12_isDigit_19 : decode cX12_isDigit 19 = .ok (.aload_n 0, 1) := by decide +kernel
theorem dX12_isDigit_20 : decode cX12_isDigit 20 = .ok (.getfield 7, 3) := by decide +kernel
theorem dX12_isDigit_23 : decode cX12_isDigit 23 = .ok (.iload_n 1, 1) := by decide +kernel
theorem dX12_isDigit_24 : decode cX12_isDigit 24 = .ok (.baload, 1) := by decide +kernel
theorem dX12_isDigit_25 : decode cX12_isDigit 25 = .ok (.bipush 57, 2) := by decide +kernel
theorem dX12_isDigit_27 : decode cX12_isDigit 27 = .ok (.if_icmp .gt 7, 3) := by decide +kernel
theorem dX12_isDigit_30 : decode cX12_isDigit 30 = .ok (.iconst 1, 1) := by decide +kernel
theorem dX12_isDigit_31 : decode cX12_isDigit 31 = .ok (.goto 4, 3) := by decide +kernel
theorem dX12_isDigit_34 : decode cX12_isDigit 34 = .ok (.iconst 0, 1) := by decide +kernel
theorem dX12_isDigit_35 : decode cX12_isDigit 35 = .ok (.ireturn, 1) := by decide +kernel
theorem dX12_isLetter_0 : decode cX12_isLetter 0 = .ok (.iload_n 1, 1) := by decide +kernel
theorem dX12_isLetter_1 : decode cX12_isLetter 1 = .ok (.aload_n 0, 1) := by decide +kernel
theorem dX12_isLetter_2 : decode cX12_isLetter 2 = .ok (.getfield 83, 3) := by decide +kernel
theorem dX12_isLetter_5 : decode cX12_isLetter 5 = .ok (.if_icmp .ge 29, 3) := by decide +kernel
theorem dX12_isLetter_8 : decode cX12_isLetter 8 = .ok (.aload_n 0, 1) := by decide +kernel
theorem dX12_isLetter_9 : decode cX12_isLetter 9 = .ok (.getfield 7, 3) := by decide +kernel
theorem dX12_isLetter_12 : decode cX12_isLetter 12 = .ok (.iload_n 1, 1) := by decide +kernel
theorem dX12_isLetter_13 : decode cX12_isLetter 13 = .ok (.baload, 1) := by decide +kernel
theorem dX12_isLetter_14 : decode cX12_isLetter 14 = .ok (.bipush 97, 2) := by decide +kernel
theorem dX12_isLetter_16 : decode cX12_isLetter 16 = .ok (.if_icmp .lt 18, 3) := by decide +kernel
theorem dX12_isLetter_19 : decode cX12_isLetter 19 = .ok (.aload_n 0, 1) := by decide +kernel
theorem dX12_isLetter_20 : decode cX12_isLetter 20 = .ok (.getfield 7, 3) := by decide +kernel
theorem dX12_isLetter_23 : decode cX12_isLetter 23 = .ok (.iload_n 1, 1) := by decide +kernel
theorem dX12_isLetter_24 : decode cX12_isLetter 24 = .ok (.baload, 1) := by decide +kernel
theorem dX12_isLetter_25 : decode cX12_isLetter 25 = .ok (.bipush 122, 2) := by decide +kernel
theorem dX12_isLetter_27 : decode cX12_isLetter 27 = .ok (.if_icmp .gt 7, 3) := by decide +kernel
theorem dX12_isLetter_30 : decode cX12_isLetter 30 = .ok (.iconst 1, 1) := by decide +kernel
theorem dX12_isLetter_31 : decode cX12_isLetter 31 = .ok (.goto 4, 3) := by decide +kernel
theorem dX12_isLetter_34 : decode cX12_isLetter 34 = .ok (.iconst 0, 1) := by decide +kernel
theorem dX12_isLetter_35 : decode cX12_isLetter 35 = .ok (.ireturn, 1) := by decide +kernel
set_option maxRecDepth 20000 in
theorem ggX12_isWord_X12_see : GoodIn wsX12_isWord wsX12_see := goodIn_r _ [7, 1, 8, 2, 13, 14, 15, 16, 17, 18, 19, 20, 21, 22, 23, 24, 25, 26, 27, 28, 29, 30, 31, 32, 33, 34, 35, 36, 37, 38, 39, 40, 41, 42, 43, 44, 45, 46, 47, 48, 49, 50, 51, 52, 53, 54] (by decide +kernel) (by decide +kernel)
set_option maxRecDepth 20000 in
theorem gX12_isWord_X12_see : GoodIn wsX12_isWord (wsV RX12 97 RX12 yX12_see wsX12_see) := goodIn_app (goodIn_of _ (by decide +kernel)) ggX12_isWord_X12_see
set_option maxRecDepth 20000 in
theorem ggX12_isWord_X12_isLetter : GoodIn wsX12_isWord wsX12_isLetter := goodIn_r _ [12, 8, 2, 13, 14, 15, 16, 17, 18, 19, 20, 21, 22, 23, 24, 25, 26, 27, 28, 29, 30, 31, 32, 33, 34, 35, 36, 37, 38, 39, 40, 41, 42, 43, 44, 45, 46, 47, 48, 49, 50, 51, 52, 53, 54] (by decide +kernel) (by decide +kernel)
set_option maxRecDepth 20000 in
theorem gX12_isWord_X12_isLetter : GoodIn wsX12_isWord (wsV RX12 101 RX12 yX12_isLetter wsX12_isLetter) := goodIn_app (goodIn_of _ (by decide +kernel)) ggX12_isWord_X12_isLetter
theorem dX12_isWord_0 : decode cX12_isWord 0 = .ok (.aload_n 0, 1) := by decide +kernel
theorem dX12_isWord_1 : decode cX12_isWord 1 = .ok (.invokevirtual 97, 3) := by decide +kernel
theorem dX12_isWord_4 : decode cX12_isWord 4 = .ok (.pop, 1) := by decide +kernel
theorem dX12_isWord_5 : decode cX12_isWord 5 = .ok (.lconst 0, 1) := by decide +kernel
theorem dX12_isWord_6 : decode cX12_isWord 6 = .ok (.lstore_n 3, 1) := by decide +kernel
theorem dX12_isWord_7 : decode cX12_isWord 7 = .ok (.iconst 0, 1) := by decide +kernel
theorem dX12_isWord_8 : decode cX12_isWord 8 = .ok (.istore 5, 2) := by decide +kernel
theorem dX12_isWord_10 : decode cX12_isWord 10 = .ok (.aload_n 0, 1) := by decide +kernel
theorem dX12_isWord_11 : decode cX12_isWord 11 = .ok (.aload_n 0, 1) := by decide +kernel
theorem dX12_isWord_12 : decode cX12_isWord 12 = .ok (.getfield 94, 3) := by decide +kernel
theorem dX12_isWord_15 : decode cX12_isWord 15 = .ok (.iload 5, 2) := by decide +kernel
theorem dX12_isWord_17 : decode cX12_isWord 17 = .ok (.iadd, 1) := by decide +kernel
theorem dX12_isWord_18 : decode cX12_isWord 18 = .ok (.invokevirtual 101, 3) := by decide +kernel
theorem dX12_isWord_21 : decode cX12_isWord 21 = .ok (.ifCond .eq 35, 3) := by decide +kernel
theorem dX12_isWord_24 : decode cX12_isWord 24 = .ok (.iload 5, 2) := by decide +kernel
theorem dX12_isWord_26 : decode cX12_isWord 26 = .ok (.bipush 8, 2) := by decide +kernel
theorem dX12_isWord_28 : decode cX12_isWord 28 = .ok (.if_icmp .ge 22, 3) := by decide +kernel
theorem dX12_isWord_31 : decode cX12_isWord 31 = .ok (.lload_n 3, 1) := by decide +kernel
theorem dX12_isWord_32 : decode cX12_isWord 32 = .ok (.bipush 8, 2) := by decide +kernel
theorem dX12_isWord_34 : decode cX12_isWord 34 = .ok (.lshl, 1) := by decide +kernel
theorem dX12_isWord_35 : decode cX12_isWord 35 = .ok (.aload_n 0, 1) := by decide +kernel
theorem dX12_isWord_36 : decode cX12_isWord 36 = .ok (.getfield 7, 3) := by decide +kernel
theorem dX12_isWord_39 : decode cX12_isWord 39 = .ok (.aload_n 0, 1) := by decide +kernel
theorem dX12_isWord_40 : decode cX12_isWord 40 = .ok (.getfield 94, 3) := by decide +kernel
theorem dX12_isWord_43 : decode cX12_isWord 43 = .ok (.iload 5, 2) := by decide +kernel
theorem dX12_isWord_45 : decode cX12_isWord 45 = .ok (.iadd, 1) := by decide +kernel
theorem dX12_isWord_46 : decode cX12_isWord 46 = .ok (.baload, 1) := by decide +kernel
theorem dX12_isWord_47 : decode cX12_isWord 47 = .ok (.i2l, 1) := by decide +kernel
theorem dX12_isWord_48 : decode cX12_isWord 48 = .ok (.lor, 1) := by decide +kernel
theorem dX12_isWord_49 : decode cX12_isWord 49 = .ok (.lstore_n 3, 1) := by decide +kernel
theorem dX12_isWord_50 : decode cX12_isWord 50 = .ok (.iinc 5 1, 3) := by decide +kernel
theorem dX12_isWord_53 : decode cX12_isWord 53 = .ok (.goto (-43), 3) := by decide +kernel
theorem dX12_isWord_56 : decode cX12_isWord 56 = .ok (.iload 5, 2) := by decide +kernel
theorem dX12_isWord_58 : decode cX12_isWord 58 = .ok (.ifCond .le 20, 3) := by decide +kernel
theorem dX12_isWord_61 : decode cX12_isWord 61 = .ok (.iload 5, 2) := by decide +kernel
theorem dX12_isWord_63 : decode cX12_isWord 63 = .ok (.bipush 8, 2) := by decide +kernel
theorem dX12_isWord_65 : decode cX12_isWord 65 = .ok (.if_icmp .ge 13, 3) := by decide +kernel
theorem dX12_isWord_68 : decode cX12_isWord 68 = .ok (.lload_n 3, 1) := by decide +kernel
theorem dX12_isWord_69 : decode cX12_isWord 69 = .ok (.lload_n 1, 1) := by decide +kernel
theorem dX12_isWord_70 : decode cX12_isWord 70 = .ok (.lcmp, 1) := by decide +kernel
theorem dX12_isWord_71 : decode cX12_isWord 71 = .ok (.ifCond .ne 7, 3) := by decide +kernel
theorem dX12_isWord_74 : decode cX12_isWord 74 = .ok (.iconst 1, 1) := by decide +kernel
theorem dX12_isWord_75 : decode cX12_isWord 75 = .ok (.goto 4, 3) := by decide +kernel
theorem dX12_isWord_78 : decode cX12_isWord 78 = .ok (.iconst 0, 1) := by decide +kernel
theorem dX12_isWord_79 : decode cX12_isWord 79 = .ok (.ireturn, 1) := by decide +kernel
set_option maxRecDepth 20000 in
theorem ggX12_passWord_X12_isLetter : GoodIn wsX12_passWord wsX12_isLetter := goodIn_r _ [6, 7, 8, 9, 10, 11, 12, 13, 14, 15, 16, 17, 18, 19, 20, 21, 22, 23, 24, 25, 26, 27, 28, 29, 30, 31, 32, 33, 34, 35, 36, 37, 38, 39, 40, 41, 42, 43, 44, 45, 46, 47, 48, 49, 50] (by decide +kernel) (by decide +kernel)
set_option maxRecDepth 20000 in
theorem gX12_passWord_X12_isLetter : GoodIn wsX12_passWord (wsV RX12 101 RX12 yX12_isLetter wsX12_isLetter) := goodIn_app (goodIn_of _ (by decide +kernel)) ggX12_passWord_X12_isLetter
theorem dX12_passWord_0 : decode cX12_passWord 0 = .ok (.aload_n 0, 1) := by decide +kernel
theorem dX12_passWord_1 : decode cX12_passWord 1 = .ok (.aload_n 0, 1) := by decide +kernel
theorem dX12_passWord_2 : decode cX12_passWord 2 = .ok (.getfield 94, 3) := by decide +kernel
theorem dX12_passWord_5 : decode cX12_passWord 5 = .ok (.invokevirtual 101, 3) := by decide +kernel
theorem dX12_passWord_8 : decode cX12_passWord 8 = .ok (.ifCond .eq 16, 3) := by decide +kernel
theorem dX12_passWord_11 : decode cX12_passWord 11 = .ok (.aload_n 0, 1) := by decide +kernel
theorem dX12_passWord_12 : decode cX12_passWord 12 = .ok (.dup, 1) := by decide +kernel
theorem dX12_passWord_13 : decode cX12_passWord 13 = .ok (.getfield 94, 3) := by decide +kernel
theorem dX12_passWord_16 : decode cX12_passWord 16 = .ok (.iconst 1, 1) := by decide +kernel
theorem dX12_passWord_17 : decode cX12_passWord 17 = .ok (.iadd, 1) := by decide +kernel
theorem dX12_passWord_18 : decode cX12_passWord 18 = .ok (.putfield 94, 3) := by decide +kernel
theorem dX12_passWord_21 : decode cX12_passWord 21 = .ok (.goto (-21), 3) := by decide +kernel
theorem dX12_passWord_24 : decode cX12_passWord 24 = .ok (.return_, 1) := by decide +kernel
set_option maxRecDepth 20000 in
theorem ggX12_numberHere_X12_see : GoodIn wsX12_numberHere wsX12_see := goodIn_r _ [8, 1, 9, 2, 22, 23, 24, 25, 26, 27, 28, 29, 30, 31, 32, 33, 34, 35, 36, 37, 38, 39, 40, 41, 42, 43, 44, 45, 46, 47, 48, 49, 50, 51, 52, 53, 54, 55, 56, 57, 58, 59, 60, 61, 62, 63] (by decide +kernel) (by decide +kernel)
set_option maxRecDepth 20000 in
theorem gX12_numberHere_X12_see : GoodIn wsX12_numberHere (wsV RX12 97 RX12 yX12_see wsX12_see) := goodIn_app (goodIn_of _ (by decide +kernel)) ggX12_numberHere_X12_see
set_option maxRecDepth 20000 in
theorem ggX12_numberHere_X12_isDigit : GoodIn wsX12_numberHere wsX12_isDigit := goodIn_r _ [13, 9, 2, 22, 23, 24, 25, 26, 27, 28, 29, 30, 31, 32, 33, 34, 35, 36, 37, 38, 39, 40, 41, 42, 43, 44, 45, 46, 47, 48, 49, 50, 51, 52, 53, 54, 55, 56, 57, 58, 59, 60, 61, 62, 63] (by decide +kernel) (by decide +kernel)
set_option maxRecDepth 20000 in
theorem gX12_numberHere_X12_isDigit : GoodIn wsX12_numberHere (wsV RX12 112 RX12 yX12_isDigit wsX12_isDigit) := goodIn_app (goodIn_of _ (by decide +kernel)) ggX12_numberHere_X12_isDigit
set_option maxRecDepth 20000 in
theorem ggX12_numberHere_X12_fails : GoodIn wsX12_numberHere wsX12_fails := goodIn_r _ [17, 18, 22, 23, 24, 25, 26, 27, 28, 29, 30, 31, 32, 33, 34, 35, 36, 37, 38, 39, 40, 41, 42, 43, 44, 45, 46, 47, 48, 49, 50, 51, 52, 53, 54, 55, 56, 57, 58, 59, 60, 61, 62, 63] (by decide +kernel) (by decide +kernel)
set_option maxRecDepth 20000 in
theorem gX12_numberHere_X12_fails : GoodIn wsX12_numberHere (wsV RX12 115 RX12 yX12_fails wsX12_fails) := goodIn_app (goodIn_of _ (by decide +kernel)) ggX12_numberHere_X12_fails
set_option maxRecDepth 20000 in
theorem ggX12_numberHere_X12_in : GoodIn wsX12_numberHere wsX12_in := goodIn_r _ [21] (by decide +kernel) (by decide +kernel)
set_option maxRecDepth 20000 in
theorem gX12_numberHere_X12_in : GoodIn wsX12_numberHere (va_wsS RX12 122 yX12_in wsX12_in) := goodIn_app (goodIn_of _ (by decide +kernel)) ggX12_numberHere_X12_in
theorem dX12_numberHere_0 : decode cX12_numberHere 0 = .ok (.aload_n 0, 1) := by decide +kernel
theorem dX12_numberHere_1 : decode cX12_numberHere 1 = .ok (.invokevirtual 97, 3) := by decide +kernel
theorem dX12_numberHere_4 : decode cX12_numberHere 4 = .ok (.pop, 1) := by decide +kernel
theorem dX12_numberHere_5 : decode cX12_numberHere 5 = .ok (.aload_n 0, 1) := by decide +kernel
theorem dX12_numberHere_6 : decode cX12_numberHere 6 = .ok (.aload_n 0, 1) := by decide +kernel
theorem dX12_numberHere_7 : decode cX12_numberHere 7 = .ok (.getfield 94, 3) := by decide +kernel
theorem dX12_numberHere_10 : decode cX12_numberHere 10 = .ok (.invokevirtual 112, 3) := by decide +kernel
theorem dX12_numberHere_13 : decode cX12_numberHere 13 = .ok (.ifCond .ne 13, 3) := by decide +kernel
theorem dX12_numberHere_16 : decode cX12_numberHere 16 = .ok (.aload_n 0, 1) := by decide +kernel
theorem dX12_numberHere_17 : decode cX12_numberHere 17 = .ok (.iconst 0, 1) := by decide +kernel
theorem dX12_numberHere_18 : decode cX12_numberHere 18 = .ok (.aload_n 0, 1) := by decide +kernel
theorem dX12_numberHere_19 : decode cX12_numberHere 19 = .ok (.getfield 94, 3) := by decide +kernel
theorem dX12_numberHere_22 : decode cX12_numberHere 22 = .ok (.invokevirtual 115, 3) := by decide +kernel
theorem dX12_numberHere_25 : decode cX12_numberHere 25 = .ok (.ireturn, 1) := by decide +kernel
theorem dX12_numberHere_26 : decode cX12_numberHere 26 = .ok (.aload_n 0, 1) := by decide +kernel
theorem dX12_numberHere_27 : decode cX12_numberHere 27 = .ok (.getfield 94, 3) := by decide +kernel
theorem dX12_numberHere_30 : decode cX12_numberHere 30 = .ok (.istore_n 3, 1) := by decide +kernel
theorem dX12_numberHere_31 : decode cX12_numberHere 31 = .ok (.iconst 0, 1) := by decide +kernel
theorem dX12_numberHere_32 : decode cX12_numberHere 32 = .ok (.istore 4, 2) := by decide +kernel
theorem dX12_numberHere_34 : decode cX12_numberHere 34 = .ok (.aload_n 0, 1) := by decide +kernel
theorem dX12_numberHere_35 : decode cX12_numberHere 35 = .ok (.aload_n 0, 1) := by decide +kernel
theorem dX12_numberHere_36 : decode cX12_numberHere 36 = .ok (.getfield 94, 3) := by decide +kernel
theorem dX12_numberHere_39 : decode cX12_numberHere 39 = .ok (.invokevirtual 112, 3) := by decide +kernel
theorem dX12_numberHere_42 : decode cX12_numberHere 42 = .ok (.ifCond .eq 46, 3) := by decide +kernel
theorem dX12_numberHere_45 : decode cX12_numberHere 45 = .ok (.aload_n 0, 1) := by decide +kernel
theorem dX12_numberHere_46 : decode cX12_numberHere 46 = .ok (.getfield 94, 3) := by decide +kernel
theorem dX12_numberHere_49 : decode cX12_numberHere 49 = .ok (.iload_n 3, 1) := by decide +kernel
theorem dX12_numberHere_50 : decode cX12_numberHere 50 = .ok (.isub, 1) := by decide +kernel
theorem dX12_numberHere_51 : decode cX12_numberHere 51 = .ok (.iconst 5, 1) := by decide +kernel
theorem dX12_numberHere_52 : decode cX12_numberHere 52 = .ok (.if_icmp .ge 23, 3) := by decide +kernel
theorem dX12_numberHere_55 : decode cX12_numberHere 55 = .ok (.bipush 10, 2) := by decide +kernel
theorem dX12_numberHere_57 : decode cX12_numberHere 57 = .ok (.iload 4, 2) := by decide +kernel
theorem dX12_numberHere_59 : decode cX12_numberHere 59 = .ok (.imul, 1) := by decide +kernel
theorem dX12_numberHere_60 : decode cX12_numberHere 60 = .ok (.aload_n 0, 1) := by decide +kernel
theorem dX12_numberHere_61 : decode cX12_numberHere 61 = .ok (.getfield 7, 3) := by decide +kernel
theorem dX12_numberHere_64 : decode cX12_numberHere 64 = .ok (.aload_n 0, 1) := by decide +kernel
theorem dX12_numberHere_65 : decode cX12_numberHere 65 = .ok (.getfield 94, 3) := by decide +kernel
theorem dX12_numberHere_68 : decode cX12_numberHere 68 = .ok (.baload, 1) := by decide +kernel
theorem dX12_numberHere_69 : decode cX12_numberHere 69 = .ok (.iadd, 1) := by decide +kernel
theorem dX12_numberHere_70 : decode cX12_numberHere 70 = .ok (.bipush 48, 2) := by decide +kernel
theorem dX12_numberHere_72 : decode cX12_numberHere 72 = .ok (.isub, 1) := by decide +kernel
theorem dX12_numberHere_73 : decode cX12_numberHere 73 = .ok (.istore 4, 2) := by decide +kernel
theorem dX12_numberHere_75 : decode cX12_numberHere 75 = .ok (.aload_n 0, 1) := by decide +kernel
theorem dX12_numberHere_76 : decode cX12_numberHere 76 = .ok (.dup, 1) := by decide +kernel
theorem dX12_numberHere_77 : decode cX12_numberHere 77 = .ok (.getfield 94, 3) := by decide +kernel
theorem dX12_numberHere_80 : decode cX12_numberHere 80 = .ok (.iconst 1, 1) := by decide +kernel
theorem dX12_numberHere_81 : decode cX12_numberHere 81 = .ok (.iadd, 1) := by decide +kernel
theorem dX12_numberHere_82 : decode cX12_numberHere 82 = .ok (.putfield 94, 3) := by decide +kernel
theorem dX12_numberHere_85 : decode cX12_numberHere 85 = .ok (.goto (-51), 3) := by decide +kernel
theorem dX12_numberHere_88 : decode cX12_numberHere 88 = .ok (.aload_n 0, 1) := by decide +kernel
theorem dX12_numberHere_89 : decode cX12_numberHere 89 = .ok (.iload 4, 2) := by decide +kernel
theorem dX12_numberHere_91 : decode cX12_numberHere 91 = .ok (.putfield 119, 3) := by decide +kernel
theorem dX12_numberHere_94 : decode cX12_numberHere 94 = .ok (.aload_n 0, 1) := by decide +kernel
theorem dX12_numberHere_95 : decode cX12_numberHere 95 = .ok (.getfield 94, 3) := by decide +kernel
theorem dX12_numberHere_98 : decode cX12_numberHere 98 = .ok (.iload_n 3, 1) := by decide +kernel
theorem dX12_numberHere_99 : decode cX12_numberHere 99 = .ok (.isub, 1) := by decide +kernel
theorem dX12_numberHere_100 : decode cX12_numberHere 100 = .ok (.iconst 5, 1) := by decide +kernel
theorem dX12_numberHere_101 : decode cX12_numberHere 101 = .ok (.if_icmp .gt 16, 3) := by decide +kernel
theorem dX12_numberHere_104 : decode cX12_numberHere 104 = .ok (.iload 4, 2) := by decide +kernel
theorem dX12_numberHere_106 : decode cX12_numberHere 106 = .ok (.i2l, 1) := by decide +kernel
theorem dX12_numberHere_107 : decode cX12_numberHere 107 = .ok (.iload_n 1, 1) := by decide +kernel
theorem dX12_numberHere_108 : decode cX12_numberHere 108 = .ok (.i2l, 1) := by decide +kernel
theorem dX12_numberHere_109 : decode cX12_numberHere 109 = .ok (.iload_n 2, 1) := by decide +kernel
theorem dX12_numberHere_110 : decode cX12_numberHere 110 = .ok (.i2l, 1) := by decide +kernel
theorem dX12_numberHere_111 : decode cX12_numberHere 111 = .ok (.invokestatic 122, 3) := by decide +kernel
theorem dX12_numberHere_114 : decode cX12_numberHere 114 = .ok (.ifCond .ne 12, 3) := by decide +kernel
theorem dX12_numberHere_117 : decode cX12_numberHere 117 = .ok (.aload_n 0, 1) := by decide +kernel
theorem dX12_numberHere_118 : decode cX12_numberHere 118 = .ok (.iconst 1, 1) := by decide +kernel
theorem dX12_numberHere_119 : decode cX12_numberHere 119 = .ok (.iload_n 3, 1) := by decide +kernel
theorem dX12_numberHere_120 : decode cX12_numberHere 120 = .ok (.invokevirtual 115, 3) := by decide +kernel
theorem dX12_numberHere_123 : decode cX12_numberHere 123 = .ok (.ifCond .eq 7, 3) := by decide +kernel
theorem dX12_numberHere_126 : decode cX12_numberHere 126 = .ok (.iconst 1, 1) := by decide +kernel
theorem dX12_numberHere_127 : decode cX12_numberHere 127 = .ok (.goto 4, 3) := by decide +kernel
theorem dX12_numberHere_130 : decode cX12_numberHere 130 = .ok (.iconst 0, 1) := by decide +kernel
theorem dX12_numberHere_131 : decode cX12_numberHere 131 = .ok (.ireturn, 1) := by decide +kernel
set_option maxRecDepth 20000 in
theorem ggX12_areCornersHere_X12_fails : GoodIn wsX12_areCornersHere wsX12_fails := goodIn_r _ [7, 8, 35, 36, 37, 38, 39, 40, 41, 42, 43, 44, 45, 46, 47, 48, 49, 50, 51, 52, 53, 54, 55, 56, 57, 58, 59, 60, 61, 62, 63, 64, 65, 66, 67, 68, 69, 70, 71, 72, 73, 74, 75, 76] (by decide +kernel) (by decide +kernel)
set_option maxRecDepth 20000 in
theorem gX12_areCornersHere_X12_fails : GoodIn wsX12_areCornersHere (wsV RX12 115 RX12 yX12_fails wsX12_fails) := goodIn_app (goodIn_of _ (by decide +kernel)) ggX12_areCornersHere_X12_fails
set_option maxRecDepth 20000 in
theorem ggX12_areCornersHere_X12_passWord : GoodIn wsX12_areCornersHere wsX12_passWord := goodIn_r _ [12, 13, 14, 15, 16, 6, 17, 18, 19, 35, 36, 37, 38, 39, 40, 41, 42, 43, 44, 45, 46, 47, 48, 49, 50, 51, 52, 53, 54, 55, 56, 57, 58, 59, 60, 61, 62, 63, 64, 65, 66, 67, 68, 69, 70, 71, 72, 73, 74, 75, 76] (by decide +kernel) (by decide +kernel)
set_option maxRecDepth 20000 in
theorem gX12_areCornersHere_X12_passWord : GoodIn wsX12_areCornersHere (wsV RX12 109 RX12 yX12_passWord wsX12_passWord) := goodIn_app (goodIn_of _ (by decide +kernel)) ggX12_areCornersHere_X12_passWord
set_option maxRecDepth 20000 in
theorem ggX12_areCornersHere_X12_numberHere : GoodIn wsX12_areCornersHere wsX12_numberHere := goodIn_r _ [23, 13, 19, 2, 24, 25, 26, 6, 27, 18, 28, 29, 30, 31, 3, 4, 5, 7, 8, 32, 33, 34, 35, 36, 37, 38, 39, 40, 41, 42, 43, 44, 45, 46, 47, 48, 49, 50, 51, 52, 53, 54, 55, 56, 57, 58, 59, 60, 61, 62, 63, 64, 65, 66, 67, 68, 69, 70, 71, 72, 73, 74, 75, 76] (by decide +kernel) (by decide +kernel)
set_option maxRecDepth 20000 in
theorem gX12_areCornersHere_X12_numberHere : GoodIn wsX12_areCornersHere (wsV RX12 167 RX12 yX12_numberHere wsX12_numberHere) := goodIn_app (goodIn_of _ (by decide +kernel)) ggX12_areCornersHere_X12_numberHere
theorem dX12_areCornersHere_0 : decode cX12_areCornersHere 0 = .ok (.aload_n 0, 1) := by decide +kernel
theorem dX12_areCornersHere_1 : decode cX12_areCornersHere 1 = .ok (.getfield 218, 3) := by decide +kernel
theorem dX12_areCornersHere_4 : decode cX12_areCornersHere 4 = .ok (.ifCond .le 10, 3) := by decide +kernel
theorem dX12_areCornersHere_7 : decode cX12_areCornersHere 7 = .ok (.aload_n 0, 1) := by decide +kernel
theorem dX12_areCornersHere_8 : decode cX12_areCornersHere 8 = .ok (.iconst 4, 1) := by decide +kernel
theorem dX12_areCornersHere_9 : decode cX12_areCornersHere 9 = .ok (.iload_n 1, 1) := by decide +kernel
theorem dX12_areCornersHere_10 : decode cX12_areCornersHere 10 = .ok (.invokevirtual 115, 3) := by decide +kernel
theorem dX12_areCornersHere_13 : decode cX12_areCornersHere 13 = .ok (.ireturn, 1) := by decide +kernel
theorem dX12_areCornersHere_14 : decode cX12_areCornersHere 14 = .ok (.aload_n 0, 1) := by decide +kernel
theorem dX12_areCornersHere_15 : decode cX12_areCornersHere 15 = .ok (.invokevirtual 109, 3) := by decide +kernel
theorem dX12_areCornersHere_18 : decode cX12_areCornersHere 18 = .ok (.aload_n 0, 1) := by decide +kernel
theorem dX12_areCornersHere_19 : decode cX12_areCornersHere 19 = .ok (.iconst 2, 1) := by decide +kernel
theorem dX12_areCornersHere_20 : decode cX12_areCornersHere 20 = .ok (.bipush 10, 2) := by decide +kernel
theorem dX12_areCornersHere_22 : decode cX12_areCornersHere 22 = .ok (.invokevirtual 167, 3) := by decide +kernel
theorem dX12_areCornersHere_25 : decode cX12_areCornersHere 25 = .ok (.ifCond .ne 5, 3) := by decide +kernel
theorem dX12_areCornersHere_28 : decode cX12_areCornersHere 28 = .ok (.iconst 0, 1) := by decide +kernel
theorem dX12_areCornersHere_29 : decode cX12_areCornersHere 29 = .ok (.ireturn, 1) := by decide +kernel
theorem dX12_areCornersHere_30 : decode cX12_areCornersHere 30 = .ok (.aload_n 0, 1) := by decide +kernel
theorem dX12_areCornersHere_31 : decode cX12_areCornersHere 31 = .ok (.aload_n 0, 1) := by decide +kernel
theorem dX12_areCornersHere_32 : decode cX12_areCornersHere 32 = .ok (.getfield 119, 3) := by decide +kernel
theorem dX12_areCornersHere_35 : decode cX12_areCornersHere 35 = .ok (.putfield 218, 3) := by decide +kernel
theorem dX12_areCornersHere_38 : decode cX12_areCornersHere 38 = .ok (.iconst 1, 1) := by decide +kernel
theorem dX12_areCornersHere_39 : decode cX12_areCornersHere 39 = .ok (.ireturn, 1) := by decide +kernel
theorem dX12_signHere_0 : decode cX12_signHere 0 = .ok (.aload_n 0, 1) := by decide +kernel
theorem dX12_signHere_1 : decode cX12_signHere 1 = .ok (.getfield 94, 3) := by decide +kernel
theorem dX12_signHere_4 : decode cX12_signHere 4 = .ok (.aload_n 0, 1) := by decide +kernel
theorem dX12_signHere_5 : decode cX12_signHere 5 = .ok (.getfield 83, 3) := by decide +kernel
theorem dX12_signHere_8 : decode cX12_signHere 8 = .ok (.if_icmp .ge 15, 3) := by decide +kernel
theorem dX12_signHere_11 : decode cX12_signHere 11 = .ok (.aload_n 0, 1) := by decide +kernel
theorem dX12_signHere_12 : decode cX12_signHere 12 = .ok (.getfield 7, 3) := by decide +kernel
theorem dX12_signHere_15 : decode cX12_signHere 15 = .ok (.aload_n 0, 1) := by decide +kernel
theorem dX12_signHere_16 : decode cX12_signHere 16 = .ok (.getfield 94, 3) := by decide +kernel
theorem dX12_signHere_19 : decode cX12_signHere 19 = .ok (.baload, 1) := by decide +kernel
theorem dX12_signHere_20 : decode cX12_signHere 20 = .ok (.goto 4, 3) := by decide +kernel
theorem dX12_signHere_23 : decode cX12_signHere 23 = .ok (.iconst 0, 1) := by decide +kernel
theorem dX12_signHere_24 : decode cX12_signHere 24 = .ok (.istore_n 1, 1) := by decide +kernel
theorem dX12_signHere_25 : decode cX12_signHere 25 = .ok (.iload_n 1, 1) := by decide +kernel
theorem dX12_signHere_26 : decode cX12_signHere 26 = .ok (.bipush 46, 2) := by decide +kernel
theorem dX12_signHere_28 : decode cX12_signHere 28 = .ok (.if_icmp .ne 7, 3) := by decide +kernel
theorem dX12_signHere_31 : decode cX12_signHere 31 = .ok (.iconst 0, 1) := by decide +kernel
theorem dX12_signHere_32 : decode cX12_signHere 32 = .ok (.goto 34, 3) := by decide +kernel
theorem dX12_signHere_35 : decode cX12_signHere 35 = .ok (.iload_n 1, 1) := by decide +kernel
theorem dX12_signHere_36 : decode cX12_signHere 36 = .ok (.bipush 62, 2) := by decide +kernel
theorem dX12_signHere_38 : decode cX12_signHere 38 = .ok (.if_icmp .ne 7, 3) := by decide +kernel
theorem dX12_signHere_41 : decode cX12_signHere 41 = .ok (.iconst 1, 1) := by decide +kernel
theorem dX12_signHere_42 : decode cX12_signHere 42 = .ok (.goto 24, 3) := by decide +kernel
theorem dX12_signHere_45 : decode cX12_signHere 45 = .ok (.iload_n 1, 1) := by decide +kernel
theorem dX12_signHere_46 : decode cX12_signHere 46 = .ok (.bipush 60, 2) := by decide +kernel
theorem dX12_signHere_48 : decode cX12_signHere 48 = .ok (.if_icmp .ne 7, 3) := by decide +kernel
theorem dX12_signHere_51 : decode cX12_signHere 51 = .ok (.iconst 2, 1) := by decide +kernel
theorem dX12_signHere_52 : decode cX12_signHere 52 = .ok (.goto 14, 3) := by decide +kernel
theorem dX12_signHere_55 : decode cX12_signHere 55 = .ok (.iload_n 1, 1) := by decide +kernel
theorem dX12_signHere_56 : decode cX12_signHere 56 = .ok (.bipush 61, 2) := by decide +kernel
theorem dX12_signHere_58 : decode cX12_signHere 58 = .ok (.if_icmp .ne 7, 3) := by decide +kernel
theorem dX12_signHere_61 : decode cX12_signHere 61 = .ok (.iconst 3, 1) := by decide +kernel
theorem dX12_signHere_62 : decode cX12_signHere 62 = .ok (.goto 4, 3) := by decide +kernel
theorem dX12_signHere_65 : decode cX12_signHere 65 = .ok (.iconst (-1), 1) := by decide +kernel
theorem dX12_signHere_66 : decode cX12_signHere 66 = .ok (.ireturn, 1) := by decide +kernel
set_option maxRecDepth 20000 in
theorem ggX12_areSignsHere_X12_see : GoodIn wsX12_areSignsHere wsX12_see := goodIn_r _ [7, 1, 8, 9, 19, 20, 21, 22, 23, 24, 25, 26, 27, 28, 29, 30, 31, 32, 33, 34, 35, 36, 37, 38, 39, 40, 41, 42, 43, 44, 45, 46, 47, 48, 49, 50, 51, 52, 53, 54, 55, 56, 57, 58, 59, 60] (by decide +kernel) (by decide +kernel)
set_option maxRecDepth 20000 in
theorem gX12_areSignsHere_X12_see : GoodIn wsX12_areSignsHere (wsV RX12 97 RX12 yX12_see wsX12_see) := goodIn_app (goodIn_of _ (by decide +kernel)) ggX12_areSignsHere_X12_see
set_option maxRecDepth 20000 in
theorem ggX12_areSignsHere_X12_signHere : GoodIn wsX12_areSignsHere wsX12_signHere := goodIn_r _ [13, 1, 8, 9, 19, 20, 21, 22, 23, 24, 25, 26, 27, 28, 29, 30, 31, 32, 33, 34, 35, 36, 37, 38, 39, 40, 41, 42, 43, 44, 45, 46, 47, 48, 49, 50, 51, 52, 53, 54, 55, 56, 57, 58, 59, 60] (by decide +kernel) (by decide +kernel)
set_option maxRecDepth 20000 in
theorem gX12_areSignsHere_X12_signHere : GoodIn wsX12_areSignsHere (wsV RX12 221 RX12 yX12_signHere wsX12_signHere) := goodIn_app (goodIn_of _ (by decide +kernel)) ggX12_areSignsHere_X12_signHere
set_option maxRecDepth 20000 in
theorem ggX12_areSignsHere_X12_fails : GoodIn wsX12_areSignsHere wsX12_fails := goodIn_r _ [17, 18, 19, 20, 21, 22, 23, 24, 25, 26, 27, 28, 29, 30, 31, 32, 33, 34, 35, 36, 37, 38, 39, 40, 41, 42, 43, 44, 45, 46, 47, 48, 49, 50, 51, 52, 53, 54, 55, 56, 57, 58, 59, 60] (by decide +kernel) (by decide +kernel)
set_option maxRecDepth 20000 in
theorem gX12_areSignsHere_X12_fails : GoodIn wsX12_areSignsHere (wsV RX12 115 RX12 yX12_fails wsX12_fails) := goodIn_app (goodIn_of _ (by decide +kernel)) ggX12_areSignsHere_X12_fails
theorem dX12_areSignsHere_0 : decode cX12_areSignsHere 0 = .ok (.aload_n 0, 1) := by decide +kernel
theorem dX12_areSignsHere_1 : decode cX12_areSignsHere 1 = .ok (.invokevirtual 97, 3) := by decide +kernel
theorem dX12_areSignsHere_4 : decode cX12_areSignsHere 4 = .ok (.pop, 1) := by decide +kernel
theorem dX12_areSignsHere_5 : decode cX12_areSignsHere 5 = .ok (.iconst 0, 1) := by decide +kernel
theorem dX12_areSignsHere_6 : decode cX12_areSignsHere 6 = .ok (.istore_n 2, 1) := by decide +kernel
theorem dX12_areSignsHere_7 : decode cX12_areSignsHere 7 = .ok (.iload_n 2, 1) := by decide +kernel
theorem dX12_areSignsHere_8 : decode cX12_areSignsHere 8 = .ok (.bipush 7, 2) := by decide +kernel
theorem dX12_areSignsHere_10 : decode cX12_areSignsHere 10 = .ok (.if_icmp .ge 47, 3) := by decide +kernel
theorem dX12_areSignsHere_13 : decode cX12_areSignsHere 13 = .ok (.aload_n 0, 1) := by decide +kernel
theorem dX12_areSignsHere_14 : decode cX12_areSignsHere 14 = .ok (.invokevirtual 221, 3) := by decide +kernel
theorem dX12_areSignsHere_17 : decode cX12_areSignsHere 17 = .ok (.istore_n 3, 1) := by decide +kernel
theorem dX12_areSignsHere_18 : decode cX12_areSignsHere 18 = .ok (.iload_n 3, 1) := by decide +kernel
theorem dX12_areSignsHere_19 : decode cX12_areSignsHere 19 = .ok (.ifCond .ge 13, 3) := by decide +kernel
theorem dX12_areSignsHere_22 : decode cX12_areSignsHere 22 = .ok (.aload_n 0, 1) := by decide +kernel
theorem dX12_areSignsHere_23 : decode cX12_areSignsHere 23 = .ok (.iconst 0, 1) := by decide +kernel
theorem dX12_areSignsHere_24 : decode cX12_areSignsHere 24 = .ok (.aload_n 0, 1) := by decide +kernel
theorem dX12_areSignsHere_25 : decode cX12_areSignsHere 25 = .ok (.getfield 94, 3) := by decide +kernel
theorem dX12_areSignsHere_28 : decode cX12_areSignsHere 28 = .ok (.invokevirtual 115, 3) := by decide +kernel
theorem dX12_areSignsHere_31 : decode cX12_areSignsHere 31 = .ok (.ireturn, 1) := by decide +kernel
theorem dX12_areSignsHere_32 : decode cX12_areSignsHere 32 = .ok (.aload_n 0, 1) := by decide +kernel
theorem dX12_areSignsHere_33 : decode cX12_areSignsHere 33 = .ok (.getfield 26, 3) := by decide +kernel
theorem dX12_areSignsHere_36 : decode cX12_areSignsHere 36 = .ok (.iload_n 1, 1) := by decide +kernel
theorem dX12_areSignsHere_37 : decode cX12_areSignsHere 37 = .ok (.iload_n 2, 1) := by decide +kernel
theorem dX12_areSignsHere_38 : decode cX12_areSignsHere 38 = .ok (.iadd, 1) := by decide +kernel
theorem dX12_areSignsHere_39 : decode cX12_areSignsHere 39 = .ok (.iload_n 3, 1) := by decide +kernel
theorem dX12_areSignsHere_40 : decode cX12_areSignsHere 40 = .ok (.iastore, 1) := by decide +kernel
theorem dX12_areSignsHere_41 : decode cX12_areSignsHere 41 = .ok (.aload_n 0, 1) := by decide +kernel
theorem dX12_areSignsHere_42 : decode cX12_areSignsHere 42 = .ok (.dup, 1) := by decide +kernel
theorem dX12_areSignsHere_43 : decode cX12_areSignsHere 43 = .ok (.getfield 94, 3) := by decide +kernel
theorem dX12_areSignsHere_46 : decode cX12_areSignsHere 46 = .ok (.iconst 1, 1) := by decide +kernel
theorem dX12_areSignsHere_47 : decode cX12_areSignsHere 47 = .ok (.iadd, 1) := by decide +kernel
theorem dX12_areSignsHere_48 : decode cX12_areSignsHere 48 = .ok (.putfield 94, 3) := by decide +kernel
theorem dX12_areSignsHere_51 : decode cX12_areSignsHere 51 = .ok (.iinc 2 1, 3) := by decide +kernel
theorem dX12_areSignsHere_54 : decode cX12_areSignsHere 54 = .ok (.goto (-47), 3) := by decide +kernel
theorem dX12_areSignsHere_57 : decode cX12_areSignsHere 57 = .ok (.iconst 1, 1) := by decide +kernel
theorem dX12_areSignsHere_58 : decode cX12_areSignsHere 58 = .ok (.ireturn, 1) := by decide +kernel
set_option maxRecDepth 20000 in
theorem ggX12_isStreetHere_X12_fails : GoodIn wsX12_isStreetHere wsX12_fails := goodIn_r _ [10, 11, 45, 46, 47, 48, 49, 50, 51, 52, 53, 54, 55, 56, 57, 58, 59, 60, 61, 62, 63, 64, 65, 66, 67, 68, 69, 70, 71, 72, 73, 74, 75, 76, 77, 78, 79, 80, 81, 82, 83, 84, 85, 86] (by decide +kernel) (by decide +kernel)
set_option maxRecDepth 20000 in
theorem gX12_isStreetHere_X12_fails : GoodIn wsX12_isStreetHere (wsV RX12 115 RX12 yX12_fails wsX12_fails) := goodIn_app (goodIn_of _ (by decide +kernel)) ggX12_isStreetHere_X12_fails
set_option maxRecDepth 20000 in
theorem ggX12_isStreetHere_X12_passWord : GoodIn wsX12_isStreetHere wsX12_passWord := goodIn_r _ [15, 5, 16, 17, 18, 9, 19, 20, 21, 45, 46, 47, 48, 49, 50, 51, 52, 53, 54, 55, 56, 57, 58, 59, 60, 61, 62, 63, 64, 65, 66, 67, 68, 69, 70, 71, 72, 73, 74, 75, 76, 77, 78, 79, 80, 81, 82, 83, 84, 85, 86] (by decide +kernel) (by decide +kernel)
set_option maxRecDepth 20000 in
theorem gX12_isStreetHere_X12_passWord : GoodIn wsX12_isStreetHere (wsV RX12 109 RX12 yX12_passWord wsX12_passWord) := goodIn_app (goodIn_of _ (by decide +kernel)) ggX12_isStreetHere_X12_passWord
set_option maxRecDepth 20000 in
theorem ggX12_isStreetHere_X12_numberHere : GoodIn wsX12_isStreetHere wsX12_numberHere := goodIn_r _ [25, 5, 21, 4, 26, 27, 28, 9, 29, 20, 30, 31, 32, 33, 6, 7, 8, 10, 11, 34, 35, 36, 45, 46, 47, 48, 49, 50, 51, 52, 53, 54, 55, 56, 57, 58, 59, 60, 61, 62, 63, 64, 65, 66, 67, 68, 69, 70, 71, 72, 73, 74, 75, 76, 77, 78, 79, 80, 81, 82, 83, 84, 85, 86] (by decide +kernel) (by decide +kernel)
set_option maxRecDepth 20000 in
theorem gX12_isStreetHere_X12_numberHere : GoodIn wsX12_isStreetHere (wsV RX12 167 RX12 yX12_numberHere wsX12_numberHere) := goodIn_app (goodIn_of _ (by decide +kernel)) ggX12_isStreetHere_X12_numberHere
set_option maxRecDepth 20000 in
theorem ggX12_isStreetHere_X12_see : GoodIn wsX12_isStreetHere wsX12_see := goodIn_r _ [29, 5, 20, 21, 45, 46, 47, 48, 49, 50, 51, 52, 53, 54, 55, 56, 57, 58, 59, 60, 61, 62, 63, 64, 65, 66, 67, 68, 69, 70, 71, 72, 73, 74, 75, 76, 77, 78, 79, 80, 81, 82, 83, 84, 85, 86] (by decide +kernel) (by decide +kernel)
set_option maxRecDepth 20000 in
theorem gX12_isStreetHere_X12_see : GoodIn wsX12_isStreetHere (wsV RX12 97 RX12 yX12_see wsX12_see) := goodIn_app (goodIn_of _ (by decide +kernel)) ggX12_isStreetHere_X12_see
set_option maxRecDepth 20000 in
theorem ggX12_isStreetHere_X12_areSignsHere : GoodIn wsX12_isStreetHere wsX12_areSignsHere := goodIn_r _ [40, 5, 3, 26, 27, 28, 9, 29, 20, 21, 41, 42, 43, 44, 6, 7, 8, 10, 11, 45, 46, 47, 48, 49, 50, 51, 52, 53, 54, 55, 56, 57, 58, 59, 60, 61, 62, 63, 64, 65, 66, 67, 68, 69, 70, 71, 72, 73, 74, 75, 76, 77, 78, 79, 80, 81, 82, 83, 84, 85, 86] (by decide +kernel) (by decide +kernel)
set_option maxRecDepth 20000 in
theorem gX12_isStreetHere_X12_areSignsHere : GoodIn wsX12_isStreetHere (wsV RX12 227 RX12 yX12_areSignsHere wsX12_areSignsHere) := goodIn_app (goodIn_of _ (by decide +kernel)) ggX12_isStreetHere_X12_areSignsHere
theorem dX12_isStreetHere_0 : decode cX12_isStreetHere 0 = .ok (.aload_n 0, 1) := by decide +kernel
theorem dX12_isStreetHere_1 : decode cX12_isStreetHere 1 = .ok (.getfield 224, 3) := by decide +kernel
theorem dX12_isStreetHere_4 : decode cX12_isStreetHere 4 = .ok (.bipush 12, 2) := by decide +kernel
theorem dX12_isStreetHere_6 : decode cX12_isStreetHere 6 = .ok (.if_icmp .ne 10, 3) := by decide +kernel
theorem dX12_isStreetHere_9 : decode cX12_isStreetHere 9 = .ok (.aload_n 0, 1) := by decide +kernel
theorem dX12_isStreetHere_10 : decode cX12_isStreetHere 10 = .ok (.iconst 4, 1) := by decide +kernel
theorem dX12_isStreetHere_11 : decode cX12_isStreetHere 11 = .ok (.iload_n 1, 1) := by decide +kernel
theorem dX12_isStreetHere_12 : decode cX12_isStreetHere 12 = .ok (.invokevirtual 115, 3) := by decide +kernel
theorem dX12_isStreetHere_15 : decode cX12_isStreetHere 15 = .ok (.ireturn, 1) := by decide +kernel
theorem dX12_isStreetHere_16 : decode cX12_isStreetHere 16 = .ok (.aload_n 0, 1) := by decide +kernel
theorem dX12_isStreetHere_17 : decode cX12_isStreetHere 17 = .ok (.invokevirtual 109, 3) := by decide +kernel
theorem dX12_isStreetHere_20 : decode cX12_isStreetHere 20 = .ok (.bipush 10, 2) := by decide +kernel
theorem dX12_isStreetHere_22 : decode cX12_isStreetHere 22 = .ok (.aload_n 0, 1) := by decide +kernel
theorem dX12_isStreetHere_23 : decode cX12_isStreetHere 23 = .ok (.getfield 224, 3) := by decide +kernel
theorem dX12_isStreetHere_26 : decode cX12_isStreetHere 26 = .ok (.imul, 1) := by decide +kernel
theorem dX12_isStreetHere_27 : decode cX12_isStreetHere 27 = .ok (.istore_n 2, 1) := by decide +kernel
theorem dX12_isStreetHere_28 : decode cX12_isStreetHere 28 = .ok (.aload_n 0, 1) := by decide +kernel
theorem dX12_isStreetHere_29 : decode cX12_isStreetHere 29 = .ok (.iconst 0, 1) := by decide +kernel
theorem dX12_isStreetHere_30 : decode cX12_isStreetHere 30 = .ok (.aload_n 0, 1) := by decide +kernel
theorem dX12_isStreetHere_31 : decode cX12_isStreetHere 31 = .ok (.getfield 218, 3) := by decide +kernel
theorem dX12_isStreetHere_34 : decode cX12_isStreetHere 34 = .ok (.iconst 1, 1) := by decide +kernel
theorem dX12_isStreetHere_35 : decode cX12_isStreetHere 35 = .ok (.isub, 1) := by decide +kernel
theorem dX12_isStreetHere_36 : decode cX12_isStreetHere 36 = .ok (.invokevirtual 167, 3) := by decide +kernel
theorem dX12_isStreetHere_39 : decode cX12_isStreetHere 39 = .ok (.ifCond .ne 5, 3) := by decide +kernel
theorem dX12_isStreetHere_42 : decode cX12_isStreetHere 42 = .ok (.iconst 0, 1) := by decide +kernel
theorem dX12_isStreetHere_43 : decode cX12_isStreetHere 43 = .ok (.ireturn, 1) := by decide +kernel
theorem dX12_isStreetHere_44 : decode cX12_isStreetHere 44 = .ok (.aload_n 0, 1) := by decide +kernel
theorem dX12_isStreetHere_45 : decode cX12_isStreetHere 45 = .ok (.getfield 26, 3) := by decide +kernel
theorem dX12_isStreetHere_48 : decode cX12_isStreetHere 48 = .ok (.iload_n 2, 1) := by decide +kernel
theorem dX12_isStreetHere_49 : decode cX12_isStreetHere 49 = .ok (.aload_n 0, 1) := by decide +kernel
theorem dX12_isStreetHere_50 : decode cX12_isStreetHere 50 = .ok (.getfield 119, 3) := by decide +kernel
theorem dX12_isStreetHere_53 : decode cX12_isStreetHere 53 = .ok (.iastore, 1) := by decide +kernel
theorem dX12_isStreetHere_54 : decode cX12_isStreetHere 54 = .ok (.aload_n 0, 1) := by decide +kernel
theorem dX12_isStreetHere_55 : decode cX12_isStreetHere 55 = .ok (.invokevirtual 97, 3) := by decide +kernel
theorem dX12_isStreetHere_58 : decode cX12_isStreetHere 58 = .ok (.pop, 1) := by decide +kernel
theorem dX12_isStreetHere_59 : decode cX12_isStreetHere 59 = .ok (.aload_n 0, 1) := by decide +kernel
theorem dX12_isStreetHere_60 : decode cX12_isStreetHere 60 = .ok (.getfield 94, 3) := by decide +kernel
theorem dX12_isStreetHere_63 : decode cX12_isStreetHere 63 = .ok (.istore_n 3, 1) := by decide +kernel
theorem dX12_isStreetHere_64 : decode cX12_isStreetHere 64 = .ok (.aload_n 0, 1) := by decide +kernel
theorem dX12_isStreetHere_65 : decode cX12_isStreetHere 65 = .ok (.iconst 0, 1) := by decide +kernel
theorem dX12_isStreetHere_66 : decode cX12_isStreetHere 66 = .ok (.aload_n 0, 1) := by decide +kernel
theorem dX12_isStreetHere_67 : decode cX12_isStreetHere 67 = .ok (.getfield 218, 3) := by decide +kernel
theorem dX12_isStreetHere_70 : decode cX12_isStreetHere 70 = .ok (.iconst 1, 1) := by decide +kernel
theorem dX12_isStreetHere_71 : decode cX12_isStreetHere 71 = .ok (.isub, 1) := by decide +kernel
theorem dX12_isStreetHere_72 : decode cX12_isStreetHere 72 = .ok (.invokevirtual 167, 3) := by decide +kernel
theorem dX12_isStreetHere_75 : decode cX12_isStreetHere 75 = .ok (.ifCond .ne 5, 3) := by decide +kernel
theorem dX12_isStreetHere_78 : decode cX12_isStreetHere 78 = .ok (.iconst 0, 1) := by decide +kernel
theorem dX12_isStreetHere_79 : decode cX12_isStreetHere 79 = .ok (.ireturn, 1) := by decide +kernel
theorem dX12_isStreetHere_80 : decode cX12_isStreetHere 80 = .ok (.aload_n 0, 1) := by decide +kernel
theorem dX12_isStreetHere_81 : decode cX12_isStreetHere 81 = .ok (.getfield 119, 3) := by decide +kernel
theorem dX12_isStreetHere_84 : decode cX12_isStreetHere 84 = .ok (.aload_n 0, 1) := by decide +kernel
theorem dX12_isStreetHere_85 : decode cX12_isStreetHere 85 = .ok (.getfield 26, 3) := by decide +kernel
theorem dX12_isStreetHere_88 : decode cX12_isStreetHere 88 = .ok (.iload_n 2, 1) := by decide +kernel
theorem dX12_isStreetHere_89 : decode cX12_isStreetHere 89 = .ok (.iaload, 1) := by decide +kernel
theorem dX12_isStreetHere_90 : decode cX12_isStreetHere 90 = .ok (.if_icmp .ne 10, 3) := by decide +kernel
theorem dX12_isStreetHere_93 : decode cX12_isStreetHere 93 = .ok (.aload_n 0, 1) := by decide +kernel
theorem dX12_isStreetHere_94 : decode cX12_isStreetHere 94 = .ok (.iconst 1, 1) := by decide +kernel
theorem dX12_isStreetHere_95 : decode cX12_isStreetHere 95 = .ok (.iload_n 3, 1) := by decide +kernel
theorem dX12_isStreetHere_96 : decode cX12_isStreetHere 96 = .ok (.invokevirtual 115, 3) := by decide +kernel
theorem dX12_isStreetHere_99 : decode cX12_isStreetHere 99 = .ok (.ireturn, 1) := by decide +kernel
theorem dX12_isStreetHere_100 : decode cX12_isStreetHere 100 = .ok (.aload_n 0, 1) := by decide +kernel
theorem dX12_isStreetHere_101 : decode cX12_isStreetHere 101 = .ok (.getfield 26, 3) := by decide +kernel
theorem dX12_isStreetHere_104 : decode cX12_isStreetHere 104 = .ok (.iload_n 2, 1) := by decide +kernel
theorem dX12_isStreetHere_105 : decode cX12_isStreetHere 105 = .ok (.iconst 1, 1) := by decide +kernel
theorem dX12_isStreetHere_106 : decode cX12_isStreetHere 106 = .ok (.iadd, 1) := by decide +kernel
theorem dX12_isStreetHere_107 : decode cX12_isStreetHere 107 = .ok (.aload_n 0, 1) := by decide +kernel
theorem dX12_isStreetHere_108 : decode cX12_isStreetHere 108 = .ok (.getfield 119, 3) := by decide +kernel
theorem dX12_isStreetHere_111 : decode cX12_isStreetHere 111 = .ok (.iastore, 1) := by decide +kernel
theorem dX12_isStreetHere_112 : decode cX12_isStreetHere 112 = .ok (.aload_n 0, 1) := by decide +kernel
theorem dX12_isStreetHere_113 : decode cX12_isStreetHere 113 = .ok (.iconst 1, 1) := by decide +kernel
theorem dX12_isStreetHere_114 : decode cX12_isStreetHere 114 = .ok (.bipush 9, 2) := by decide +kernel
theorem dX12_isStreetHere_116 : decode cX12_isStreetHere 116 = .ok (.invokevirtual 167, 3) := by decide +kernel
theorem dX12_isStreetHere_119 : decode cX12_isStreetHere 119 = .ok (.ifCond .ne 5, 3) := by decide +kernel
theorem dX12_isStreetHere_122 : decode cX12_isStreetHere 122 = .ok (.iconst 0, 1) := by decide +kernel
theorem dX12_isStreetHere_123 : decode cX12_isStreetHere 123 = .ok (.ireturn, 1) := by decide +kernel
theorem dX12_isStreetHere_124 : decode cX12_isStreetHere 124 = .ok (.aload_n 0, 1) := by decide +kernel
theorem dX12_isStreetHere_125 : decode cX12_isStreetHere 125 = .ok (.getfield 26, 3) := by decide +kernel
theorem dX12_isStreetHere_128 : decode cX12_isStreetHere 128 = .ok (.iload_n 2, 1) := by decide +kernel
theorem dX12_isStreetHere_129 : decode cX12_isStreetHere 129 = .ok (.iconst 2, 1) := by decide +kernel
theorem dX12_isStreetHere_130 : decode cX12_isStreetHere 130 = .ok (.iadd, 1) := by decide +kernel
theorem dX12_isStreetHere_131 : decode cX12_isStreetHere 131 = .ok (.aload_n 0, 1) := by decide +kernel
theorem dX12_isStreetHere_132 : decode cX12_isStreetHere 132 = .ok (.getfield 119, 3) := by decide +kernel
theorem dX12_isStreetHere_135 : decode cX12_isStreetHere 135 = .ok (.iastore, 1) := by decide +kernel
theorem dX12_isStreetHere_136 : decode cX12_isStreetHere 136 = .ok (.aload_n 0, 1) := by decide +kernel
theorem dX12_isStreetHere_137 : decode cX12_isStreetHere 137 = .ok (.iload_n 2, 1) := by decide +kernel
theorem dX12_isStreetHere_138 : decode cX12_isStreetHere 138 = .ok (.iconst 3, 1) := by decide +kernel
theorem dX12_isStreetHere_139 : decode cX12_isStreetHere 139 = .ok (.iadd, 1) := by decide +kernel
theorem dX12_isStreetHere_140 : decode cX12_isStreetHere 140 = .ok (.invokevirtual 227, 3) := by decide +kernel
theorem dX12_isStreetHere_143 : decode cX12_isStreetHere 143 = .ok (.ifCond .ne 5, 3) := by decide +kernel
theorem dX12_isStreetHere_146 : decode cX12_isStreetHere 146 = .ok (.iconst 0, 1) := by decide +kernel
theorem dX12_isStreetHere_147 : decode cX12_isStreetHere 147 = .ok (.ireturn, 1) := by decide +kernel
theorem dX12_isStreetHere_148 : decode cX12_isStreetHere 148 = .ok (.aload_n 0, 1) := by decide +kernel
theorem dX12_isStreetHere_149 : decode cX12_isStreetHere 149 = .ok (.dup, 1) := by decide +kernel
theorem dX12_isStreetHere_150 : decode cX12_isStreetHere 150 = .ok (.getfield 224, 3) := by decide +kernel
theorem dX12_isStreetHere_153 : decode cX12_isStreetHere 153 = .ok (.iconst 1, 1) := by decide +kernel
theorem dX12_isStreetHere_154 : decode cX12_isStreetHere 154 = .ok (.iadd, 1) := by decide +kernel
theorem dX12_isStreetHere_155 : decode cX12_isStreetHere 155 = .ok (.putfield 224, 3) := by decide +kernel
theorem dX12_isStreetHere_158 : decode cX12_isStreetHere 158 = .ok (.iconst 1, 1) := by decide +kernel
theorem dX12_isStreetHere_159 : decode cX12_isStreetHere 159 = .ok (.ireturn, 1) := by decide +kernel
set_option maxRecDepth 20000 in
theorem ggX12_isSaintHere_X12_fails : GoodIn wsX12_isSaintHere wsX12_fails := goodIn_r _ [9, 10, 37, 38, 39, 40, 41, 42, 43, 44, 45, 46, 47, 48, 49, 50, 51, 52, 53, 54, 55, 56, 57, 58, 59, 60, 61, 62, 63, 64, 65, 66, 67, 68, 69, 70, 71, 72, 73, 74, 75, 76, 77, 78] (by decide +kernel) (by decide +kernel)
set_option maxRecDepth 20000 in
theorem gX12_isSaintHere_X12_fails : GoodIn wsX12_isSaintHere (wsV RX12 115 RX12 yX12_fails wsX12_fails) := goodIn_app (goodIn_of _ (by decide +kernel)) ggX12_isSaintHere_X12_fails
set_option maxRecDepth 20000 in
theorem ggX12_isSaintHere_X12_passWord : GoodIn wsX12_isSaintHere wsX12_passWord := goodIn_r _ [14, 15, 16, 17, 18, 8, 19, 20, 21, 37, 38, 39, 40, 41, 42, 43, 44, 45, 46, 47, 48, 49, 50, 51, 52, 53, 54, 55, 56, 57, 58, 59, 60, 61, 62, 63, 64, 65, 66, 67, 68, 69, 70, 71, 72, 73, 74, 75, 76, 77, 78] (by decide +kernel) (by decide +kernel)
set_option maxRecDepth 20000 in
theorem gX12_isSaintHere_X12_passWord : GoodIn wsX12_isSaintHere (wsV RX12 109 RX12 yX12_passWord wsX12_passWord) := goodIn_app (goodIn_of _ (by decide +kernel)) ggX12_isSaintHere_X12_passWord
set_option maxRecDepth 20000 in
theorem ggX12_isSaintHere_X12_numberHere : GoodIn wsX12_isSaintHere wsX12_numberHere := goodIn_r _ [25, 15, 21, 4, 26, 27, 28, 8, 29, 20, 30, 31, 32, 33, 5, 6, 7, 9, 10, 34, 35, 36, 37, 38, 39, 40, 41, 42, 43, 44, 45, 46, 47, 48, 49, 50, 51, 52, 53, 54, 55, 56, 57, 58, 59, 60, 61, 62, 63, 64, 65, 66, 67, 68, 69, 70, 71, 72, 73, 74, 75, 76, 77, 78] (by decide +kernel) (by decide +kernel)
set_option maxRecDepth 20000 in
theorem gX12_isSaintHere_X12_numberHere : GoodIn wsX12_isSaintHere (wsV RX12 167 RX12 yX12_numberHere wsX12_numberHere) := goodIn_app (goodIn_of _ (by decide +kernel)) ggX12_isSaintHere_X12_numberHere
theorem dX12_isSaintHere_0 : decode cX12_isSaintHere 0 = .ok (.aload_n 0, 1) := by decide +kernel
theorem dX12_isSaintHere_1 : decode cX12_isSaintHere 1 = .ok (.getfield 230, 3) := by decide +kernel
theorem dX12_isSaintHere_4 : decode cX12_isSaintHere 4 = .ok (.bipush 8, 2) := by decide +kernel
theorem dX12_isSaintHere_6 : decode cX12_isSaintHere 6 = .ok (.if_icmp .ne 10, 3) := by decide +kernel
theorem dX12_isSaintHere_9 : decode cX12_isSaintHere 9 = .ok (.aload_n 0, 1) := by decide +kernel
theorem dX12_isSaintHere_10 : decode cX12_isSaintHere 10 = .ok (.iconst 4, 1) := by decide +kernel
theorem dX12_isSaintHere_11 : decode cX12_isSaintHere 11 = .ok (.iload_n 1, 1) := by decide +kernel
theorem dX12_isSaintHere_12 : decode cX12_isSaintHere 12 = .ok (.invokevirtual 115, 3) := by decide +kernel
theorem dX12_isSaintHere_15 : decode cX12_isSaintHere 15 = .ok (.ireturn, 1) := by decide +kernel
theorem dX12_isSaintHere_16 : decode cX12_isSaintHere 16 = .ok (.aload_n 0, 1) := by decide +kernel
theorem dX12_isSaintHere_17 : decode cX12_isSaintHere 17 = .ok (.invokevirtual 109, 3) := by decide +kernel
theorem dX12_isSaintHere_20 : decode cX12_isSaintHere 20 = .ok (.aload_n 0, 1) := by decide +kernel
theorem dX12_isSaintHere_21 : decode cX12_isSaintHere 21 = .ok (.iconst 0, 1) := by decide +kernel
theorem dX12_isSaintHere_22 : decode cX12_isSaintHere 22 = .ok (.aload_n 0, 1) := by decide +kernel
theorem dX12_isSaintHere_23 : decode cX12_isSaintHere 23 = .ok (.getfield 218, 3) := by decide +kernel
theorem dX12_isSaintHere_26 : decode cX12_isSaintHere 26 = .ok (.iconst 1, 1) := by decide +kernel
theorem dX12_isSaintHere_27 : decode cX12_isSaintHere 27 = .ok (.isub, 1) := by decide +kernel
theorem dX12_isSaintHere_28 : decode cX12_isSaintHere 28 = .ok (.invokevirtual 167, 3) := by decide +kernel
theorem dX12_isSaintHere_31 : decode cX12_isSaintHere 31 = .ok (.ifCond .ne 5, 3) := by decide +kernel
theorem dX12_isSaintHere_34 : decode cX12_isSaintHere 34 = .ok (.iconst 0, 1) := by decide +kernel
theorem dX12_isSaintHere_35 : decode cX12_isSaintHere 35 = .ok (.ireturn, 1) := by decide +kernel
theorem dX12_isSaintHere_36 : decode cX12_isSaintHere 36 = .ok (.aload_n 0, 1) := by decide +kernel
theorem dX12_isSaintHere_37 : decode cX12_isSaintHere 37 = .ok (.getfield 29, 3) := by decide +kernel
theorem dX12_isSaintHere_40 : decode cX12_isSaintHere 40 = .ok (.iconst 2, 1) := by decide +kernel
theorem dX12_isSaintHere_41 : decode cX12_isSaintHere 41 = .ok (.aload_n 0, 1) := by decide +kernel
theorem dX12_isSaintHere_42 : decode cX12_isSaintHere 42 = .ok (.getfield 230, 3) := by decide +kernel
theorem dX12_isSaintHere_45 : decode cX12_isSaintHere 45 = .ok (.imul, 1) := by decide +kernel
theorem dX12_isSaintHere_46 : decode cX12_isSaintHere 46 = .ok (.aload_n 0, 1) := by decide +kernel
theorem dX12_isSaintHere_47 : decode cX12_isSaintHere 47 = .ok (.getfield 119, 3) := by decide +kernel
theorem dX12_isSaintHere_50 : decode cX12_isSaintHere 50 = .ok (.iastore, 1) := by decide +kernel
theorem dX12_isSaintHere_51 : decode cX12_isSaintHere 51 = .ok (.aload_n 0, 1) := by decide +kernel
theorem dX12_isSaintHere_52 : decode cX12_isSaintHere 52 = .ok (.iconst 0, 1) := by decide +kernel
theorem dX12_isSaintHere_53 : decode cX12_isSaintHere 53 = .ok (.sipush 359, 3) := by decide +kernel
theorem dX12_isSaintHere_56 : decode cX12_isSaintHere 56 = .ok (.invokevirtual 167, 3) := by decide +kernel
theorem dX12_isSaintHere_59 : decode cX12_isSaintHere 59 = .ok (.ifCond .ne 5, 3) := by decide +kernel
theorem dX12_isSaintHere_62 : decode cX12_isSaintHere 62 = .ok (.iconst 0, 1) := by decide +kernel
theorem dX12_isSaintHere_63 : decode cX12_isSaintHere 63 = .ok (.ireturn, 1) := by decide +kernel
theorem dX12_isSaintHere_64 : decode cX12_isSaintHere 64 = .ok (.aload_n 0, 1) := by decide +kernel
theorem dX12_isSaintHere_65 : decode cX12_isSaintHere 65 = .ok (.getfield 29, 3) := by decide +kernel
theorem dX12_isSaintHere_68 : decode cX12_isSaintHere 68 = .ok (.iconst 2, 1) := by decide +kernel
theorem dX12_isSaintHere_69 : decode cX12_isSaintHere 69 = .ok (.aload_n 0, 1) := by decide +kernel
theorem dX12_isSaintHere_70 : decode cX12_isSaintHere 70 = .ok (.getfield 230, 3) := by decide +kernel
theorem dX12_isSaintHere_73 : decode cX12_isSaintHere 73 = .ok (.imul, 1) := by decide +kernel
theorem dX12_isSaintHere_74 : decode cX12_isSaintHere 74 = .ok (.iconst 1, 1) := by decide +kernel
theorem dX12_isSaintHere_75 : decode cX12_isSaintHere 75 = .ok (.iadd, 1) := by decide +kernel
theorem dX12_isSaintHere_76 : decode cX12_isSaintHere 76 = .ok (.aload_n 0, 1) := by decide +kernel
theorem dX12_isSaintHere_77 : decode cX12_isSaintHere 77 = .ok (.getfield 119, 3) := by decide +kernel
theorem dX12_isSaintHere_80 : decode cX12_isSaintHere 80 = .ok (.iastore, 1) := by decide +kernel
theorem dX12_isSaintHere_81 : decode cX12_isSaintHere 81 = .ok (.aload_n 0, 1) := by decide +kernel
theorem dX12_isSaintHere_82 : decode cX12_isSaintHere 82 = .ok (.dup, 1) := by decide +kernel
theorem dX12_isSaintHere_83 : decode cX12_isSaintHere 83 = .ok (.getfield 230, 3) := by decide +kernel
theorem dX12_isSaintHere_86 : decode cX12_isSaintHere 86 = .ok (.iconst 1, 1) := by decide +kernel
theorem dX12_isSaintHere_87 : decode cX12_isSaintHere 87 = .ok (.iadd, 1) := by decide +kernel
theorem dX12_isSaintHere_88 : decode cX12_isSaintHere 88 = .ok (.putfield 230, 3) := by decide +kernel
theorem dX12_isSaintHere_91 : decode cX12_isSaintHere 91 = .ok (.iconst 1, 1) := by decide +kernel
theorem dX12_isSaintHere_92 : decode cX12_isSaintHere 92 = .ok (.ireturn, 1) := by decide +kernel
set_option maxRecDepth 20000 in
theorem ggX12_isLiftHere_X12_fails : GoodIn wsX12_isLiftHere wsX12_fails := goodIn_r _ [9, 10, 37, 38, 39, 40, 41, 42, 43, 44, 45, 46, 47, 48, 49, 50, 51, 52, 53, 54, 55, 56, 57, 58, 59, 60, 61, 62, 63, 64, 65, 66, 67, 68, 69, 70, 71, 72, 73, 74, 75, 76, 77, 78] (by decide +kernel) (by decide +kernel)
set_option maxRecDepth 20000 in
theorem gX12_isLiftHere_X12_fails : GoodIn wsX12_isLiftHere (wsV RX12 115 RX12 yX12_fails wsX12_fails) := goodIn_app (goodIn_of _ (by decide +kernel)) ggX12_isLiftHere_X12_fails
set_option maxRecDepth 20000 in
theorem ggX12_isLiftHere_X12_passWord : GoodIn wsX12_isLiftHere wsX12_passWord := goodIn_r _ [14, 15, 16, 17, 18, 8, 19, 20, 21, 37, 38, 39, 40, 41, 42, 43, 44, 45, 46, 47, 48, 49, 50, 51, 52, 53, 54, 55, 56, 57, 58, 59, 60, 61, 62, 63, 64, 65, 66, 67, 68, 69, 70, 71, 72, 73, 74, 75, 76, 77, 78] (by decide +kernel) (by decide +kernel)
set_option maxRecDepth 20000 in
theorem gX12_isLiftHere_X12_passWord : GoodIn wsX12_isLiftHere (wsV RX12 109 RX12 yX12_passWord wsX12_passWord) := goodIn_app (goodIn_of _ (by decide +kernel)) ggX12_isLiftHere_X12_passWord
set_option maxRecDepth 20000 in
theorem ggX12_isLiftHere_X12_numberHere : GoodIn wsX12_isLiftHere wsX12_numberHere := goodIn_r _ [25, 15, 21, 4, 26, 27, 28, 8, 29, 20, 30, 31, 32, 33, 5, 6, 7, 9, 10, 34, 35, 36, 37, 38, 39, 40, 41, 42, 43, 44, 45, 46, 47, 48, 49, 50, 51, 52, 53, 54, 55, 56, 57, 58, 59, 60, 61, 62, 63, 64, 65, 66, 67, 68, 69, 70, 71, 72, 73, 74, 75, 76, 77, 78] (by decide +kernel) (by decide +kernel)
set_option maxRecDepth 20000 in
theorem gX12_isLiftHere_X12_numberHere : GoodIn wsX12_isLiftHere (wsV RX12 167 RX12 yX12_numberHere wsX12_numberHere) := goodIn_app (goodIn_of _ (by decide +kernel)) ggX12_isLiftHere_X12_numberHere
theorem dX12_isLiftHere_0 : decode cX12_isLiftHere 0 = .ok (.aload_n 0, 1) := by decide +kernel
theorem dX12_isLiftHere_1 : decode cX12_isLiftHere 1 = .ok (.getfield 233, 3) := by decide +kernel
theorem dX12_isLiftHere_4 : decode cX12_isLiftHere 4 = .ok (.iconst 4, 1) := by decide +kernel
theorem dX12_isLiftHere_5 : decode cX12_isLiftHere 5 = .ok (.if_icmp .ne 10, 3) := by decide +kernel
theorem dX12_isLiftHere_8 : decode cX12_isLiftHere 8 = .ok (.aload_n 0, 1) := by decide +kernel
theorem dX12_isLiftHere_9 : decode cX12_isLiftHere 9 = .ok (.iconst 4, 1) := by decide +kernel
theorem dX12_isLiftHere_10 : decode cX12_isLiftHere 10 = .ok (.iload_n 1, 1) := by decide +kernel
theorem dX12_isLiftHere_11 : decode cX12_isLiftHere 11 = .ok (.invokevirtual 115, 3) := by decide +kernel
theorem dX12_isLiftHere_14 : decode cX12_isLiftHere 14 = .ok (.ireturn, 1) := by decide +kernel
theorem dX12_isLiftHere_15 : decode cX12_isLiftHere 15 = .ok (.aload_n 0, 1) := by decide +kernel
theorem dX12_isLiftHere_16 : decode cX12_isLiftHere 16 = .ok (.invokevirtual 109, 3) := by decide +kernel
theorem dX12_isLiftHere_19 : decode cX12_isLiftHere 19 = .ok (.iconst 3, 1) := by decide +kernel
theorem dX12_isLiftHere_20 : decode cX12_isLiftHere 20 = .ok (.aload_n 0, 1) := by decide +kernel
theorem dX12_isLiftHere_21 : decode cX12_isLiftHere 21 = .ok (.getfield 233, 3) := by decide +kernel
theorem dX12_isLiftHere_24 : decode cX12_isLiftHere 24 = .ok (.imul, 1) := by decide +kernel
theorem dX12_isLiftHere_25 : decode cX12_isLiftHere 25 = .ok (.istore_n 2, 1) := by decide +kernel
theorem dX12_isLiftHere_26 : decode cX12_isLiftHere 26 = .ok (.aload_n 0, 1) := by decide +kernel
theorem dX12_isLiftHere_27 : decode cX12_isLiftHere 27 = .ok (.iconst 0, 1) := by decide +kernel
theorem dX12_isLiftHere_28 : decode cX12_isLiftHere 28 = .ok (.aload_n 0, 1) := by decide +kernel
theorem dX12_isLiftHere_29 : decode cX12_isLiftHere 29 = .ok (.getfield 224, 3) := by decide +kernel
theorem dX12_isLiftHere_32 : decode cX12_isLiftHere 32 = .ok (.iconst 1, 1) := by decide +kernel
theorem dX12_isLiftHere_33 : decode cX12_isLiftHere 33 = .ok (.isub, 1) := by decide +kernel
theorem dX12_isLiftHere_34 : decode cX12_isLiftHere 34 = .ok (.invokevirtual 167, 3) := by decide +kernel
theorem dX12_isLiftHere_37 : decode cX12_isLiftHere 37 = .ok (.ifCond .ne 5, 3) := by decide +kernel
theorem dX12_isLiftHere_40 : decode cX12_isLiftHere 40 = .ok (.iconst 0, 1) := by decide +kernel
theorem dX12_isLiftHere_41 : decode cX12_isLiftHere 41 = .ok (.ireturn, 1) := by decide +kernel
theorem dX12_isLiftHere_42 : decode cX12_isLiftHere 42 = .ok (.aload_n 0, 1) := by decide +kernel
theorem dX12_isLiftHere_43 : decode cX12_isLiftHere 43 = .ok (.getfield 32, 3) := by decide +kernel
theorem dX12_isLiftHere_46 : decode cX12_isLiftHere 46 = .ok (.iload_n 2, 1) := by decide +kernel
theorem dX12_isLiftHere_47 : decode cX12_isLiftHere 47 = .ok (.aload_n 0, 1) := by decide +kernel
theorem dX12_isLiftHere_48 : decode cX12_isLiftHere 48 = .ok (.getfield 119, 3) := by decide +kernel
theorem dX12_isLiftHere_51 : decode cX12_isLiftHere 51 = .ok (.iastore, 1) := by decide +kernel
theorem dX12_isLiftHere_52 : decode cX12_isLiftHere 52 = .ok (.aload_n 0, 1) := by decide +kernel
theorem dX12_isLiftHere_53 : decode cX12_isLiftHere 53 = .ok (.iconst 0, 1) := by decide +kernel
theorem dX12_isLiftHere_54 : decode cX12_isLiftHere 54 = .ok (.bipush 23, 2) := by decide +kernel
theorem dX12_isLiftHere_56 : decode cX12_isLiftHere 56 = .ok (.invokevirtual 167, 3) := by decide +kernel
theorem dX12_isLiftHere_59 : decode cX12_isLiftHere 59 = .ok (.ifCond .ne 5, 3) := by decide +kernel
theorem dX12_isLiftHere_62 : decode cX12_isLiftHere 62 = .ok (.iconst 0, 1) := by decide +kernel
theorem dX12_isLiftHere_63 : decode cX12_isLiftHere 63 = .ok (.ireturn, 1) := by decide +kernel
theorem dX12_isLiftHere_64 : decode cX12_isLiftHere 64 = .ok (.aload_n 0, 1) := by decide +kernel
theorem dX12_isLiftHere_65 : decode cX12_isLiftHere 65 = .ok (.getfield 32, 3) := by decide +kernel
theorem dX12_isLiftHere_68 : decode cX12_isLiftHere 68 = .ok (.iload_n 2, 1) := by decide +kernel
theorem dX12_isLiftHere_69 : decode cX12_isLiftHere 69 = .ok (.iconst 1, 1) := by decide +kernel
theorem dX12_isLiftHere_70 : decode cX12_isLiftHere 70 = .ok (.iadd, 1) := by decide +kernel
theorem dX12_isLiftHere_71 : decode cX12_isLiftHere 71 = .ok (.aload_n 0, 1) := by decide +kernel
theorem dX12_isLiftHere_72 : decode cX12_isLiftHere 72 = .ok (.getfield 119, 3) := by decide +kernel
theorem dX12_isLiftHere_75 : decode cX12_isLiftHere 75 = .ok (.iastore, 1) := by decide +kernel
theorem dX12_isLiftHere_76 : decode cX12_isLiftHere 76 = .ok (.aload_n 0, 1) := by decide +kernel
theorem dX12_isLiftHere_77 : decode cX12_isLiftHere 77 = .ok (.aload_n 0, 1) := by decide +kernel
theorem dX12_isLiftHere_78 : decode cX12_isLiftHere 78 = .ok (.getfield 119, 3) := by decide +kernel
theorem dX12_isLiftHere_81 : decode cX12_isLiftHere 81 = .ok (.iconst 1, 1) := by decide +kernel
theorem dX12_isLiftHere_82 : decode cX12_isLiftHere 82 = .ok (.iadd, 1) := by decide +kernel
theorem dX12_isLiftHere_83 : decode cX12_isLiftHere 83 = .ok (.bipush 24, 2) := by decide +kernel
theorem dX12_isLiftHere_85 : decode cX12_isLiftHere 85 = .ok (.invokevirtual 167, 3) := by decide +kernel
theorem dX12_isLiftHere_88 : decode cX12_isLiftHere 88 = .ok (.ifCond .ne 5, 3) := by decide +kernel
theorem dX12_isLiftHere_91 : decode cX12_isLiftHere 91 = .ok (.iconst 0, 1) := by decide +kernel
theorem dX12_isLiftHere_92 : decode cX12_isLiftHere 92 = .ok (.ireturn, 1) := by decide +kernel
theorem dX12_isLiftHere_93 : decode cX12_isLiftHere 93 = .ok (.aload_n 0, 1) := by decide +kernel
theorem dX12_isLiftHere_94 : decode cX12_isLiftHere 94 = .ok (.getfield 32, 3) := by decide +kernel
theorem dX12_isLiftHere_97 : decode cX12_isLiftHere 97 = .ok (.iload_n 2, 1) := by decide +kernel
theorem dX12_isLiftHere_98 : decode cX12_isLiftHere 98 = .ok (.iconst 2, 1) := by decide +kernel
theorem dX12_isLiftHere_99 : decode cX12_isLiftHere 99 = .ok (.iadd, 1) := by decide +kernel
theorem dX12_isLiftHere_100 : decode cX12_isLiftHere 100 = .ok (.aload_n 0, 1) := by decide +kernel
theorem dX12_isLiftHere_101 : decode cX12_isLiftHere 101 = .ok (.getfield 119, 3) := by decide +kernel
theorem dX12_isLiftHere_104 : decode cX12_isLiftHere 104 = .ok (.iastore, 1) := by decide +kernel
theorem dX12_isLiftHere_105 : decode cX12_isLiftHere 105 = .ok (.aload_n 0, 1) := by decide +kernel
theorem dX12_isLiftHere_106 : decode cX12_isLiftHere 106 = .ok (.dup, 1) := by decide +kernel
theorem dX12_isLiftHere_107 : decode cX12_isLiftHere 107 = .ok (.getfield 233, 3) := by decide +kernel
theorem dX12_isLiftHere_110 : decode cX12_isLiftHere 110 = .ok (.iconst 1, 1) := by decide +kernel
theorem dX12_isLiftHere_111 : decode cX12_isLiftHere 111 = .ok (.iadd, 1) := by decide +kernel
theorem dX12_isLiftHere_112 : decode cX12_isLiftHere 112 = .ok (.putfield 233, 3) := by decide +kernel
theorem dX12_isLiftHere_115 : decode cX12_isLiftHere 115 = .ok (.iconst 1, 1) := by decide +kernel
theorem dX12_isLiftHere_116 : decode cX12_isLiftHere 116 = .ok (.ireturn, 1) := by decide +kernel
set_option maxRecDepth 20000 in
theorem ggX12_townLineHere_X12_isWord : GoodIn wsX12_townLineHere wsX12_isWord := goodIn_r _ [9, 10, 11, 12, 13, 14, 8, 15, 16, 17, 18, 19, 20, 72, 73, 74, 75, 76, 77, 78, 79, 80, 81, 82, 83, 84, 85, 86, 87, 88, 89, 90, 91, 92, 93, 94, 95, 96, 97, 98, 99, 100, 101, 102, 103, 104, 105, 106, 107, 108, 109, 110, 111, 112, 113] (by decide +kernel) (by decide +kernel)
set_option maxRecDepth 20000 in
theorem gX12_townLineHere_X12_isWord : GoodIn wsX12_townLineHere (wsV RX12 105 RX12 yX12_isWord wsX12_isWord) := goodIn_app (goodIn_of _ (by decide +kernel)) ggX12_townLineHere_X12_isWord
set_option maxRecDepth 20000 in
theorem ggX12_townLineHere_X12_areCornersHere : GoodIn wsX12_townLineHere wsX12_areCornersHere := goodIn_r _ [24, 2, 25, 26, 27, 28, 8, 29, 30, 31, 32, 33, 34, 10, 17, 18, 19, 20, 16, 11, 35, 36, 37, 38, 12, 13, 14, 15, 39, 40, 41, 42, 43, 44, 45, 72, 73, 74, 75, 76, 77, 78, 79, 80, 81, 82, 83, 84, 85, 86, 87, 88, 89, 90, 91, 92, 93, 94, 95, 96, 97, 98, 99, 100, 101, 102, 103, 104, 105, 106, 107, 108, 109, 110, 111, 112, 113] (by decide +kernel) (by decide +kernel)
set_option maxRecDepth 20000 in
theorem gX12_townLineHere_X12_areCornersHere : GoodIn wsX12_townLineHere (wsV RX12 238 RX12 yX12_areCornersHere wsX12_areCornersHere) := goodIn_app (goodIn_of _ (by decide +kernel)) ggX12_townLineHere_X12_areCornersHere
set_option maxRecDepth 20000 in
theorem ggX12_townLineHere_X12_fails : GoodIn wsX12_townLineHere wsX12_fails := goodIn_r _ [29, 30, 72, 73, 74, 75, 76, 77, 78, 79, 80, 81, 82, 83, 84, 85, 86, 87, 88, 89, 90, 91, 92, 93, 94, 95, 96, 97, 98, 99, 100, 101, 102, 103, 104, 105, 106, 107, 108, 109, 110, 111, 112, 113] (by decide +kernel) (by decide +kernel)
set_option maxRecDepth 20000 in
theorem gX12_townLineHere_X12_fails : GoodIn wsX12_townLineHere (wsV RX12 115 RX12 yX12_fails wsX12_fails) := goodIn_app (goodIn_of _ (by decide +kernel)) ggX12_townLineHere_X12_fails
set_option maxRecDepth 20000 in
theorem ggX12_townLineHere_X12_isStreetHere : GoodIn wsX12_townLineHere wsX12_isStreetHere := goodIn_r _ [49, 50, 2, 51, 25, 10, 26, 27, 28, 8, 29, 30, 31, 32, 33, 34, 17, 18, 19, 20, 16, 11, 35, 36, 37, 38, 12, 13, 14, 15, 39, 40, 41, 42, 43, 44, 45, 52, 53, 54, 55, 56, 57, 58, 59, 72, 73, 74, 75, 76, 77, 78, 79, 80, 81, 82, 83, 84, 85, 86, 87, 88, 89, 90, 91, 92, 93, 94, 95, 96, 97, 98, 99, 100, 101, 102, 103, 104, 105, 106, 107, 108, 109, 110, 111, 112, 113] (by decide +kernel) (by decide +kernel)
set_option maxRecDepth 20000 in
theorem gX12_townLineHere_X12_isStreetHere : GoodIn wsX12_townLineHere (wsV RX12 243 RX12 yX12_isStreetHere wsX12_isStreetHere) := goodIn_app (goodIn_of _ (by decide +kernel)) ggX12_townLineHere_X12_isStreetHere
set_option maxRecDepth 20000 in
theorem ggX12_townLineHere_X12_isSaintHere : GoodIn wsX12_townLineHere wsX12_isSaintHere := goodIn_r _ [63, 64, 2, 65, 25, 26, 27, 28, 8, 29, 30, 31, 32, 33, 34, 10, 17, 18, 19, 20, 16, 11, 35, 36, 37, 38, 12, 13, 14, 15, 39, 40, 41, 42, 43, 44, 45, 72, 73, 74, 75, 76, 77, 78, 79, 80, 81, 82, 83, 84, 85, 86, 87, 88, 89, 90, 91, 92, 93, 94, 95, 96, 97, 98, 99, 100, 101, 102, 103, 104, 105, 106, 107, 108, 109, 110, 111, 112, 113] (by decide +kernel) (by decide +kernel)
set_option maxRecDepth 20000 in
theorem gX12_townLineHere_X12_isSaintHere : GoodIn wsX12_townLineHere (wsV RX12 248 RX12 yX12_isSaintHere wsX12_isSaintHere) := goodIn_app (goodIn_of _ (by decide +kernel)) ggX12_townLineHere_X12_isSaintHere
set_option maxRecDepth 20000 in
theorem ggX12_townLineHere_X12_isLiftHere : GoodIn wsX12_townLineHere wsX12_isLiftHere := goodIn_r _ [69, 70, 50, 71, 25, 26, 27, 28, 8, 29, 30, 31, 32, 33, 34, 10, 17, 18, 19, 20, 16, 11, 35, 36, 37, 38, 12, 13, 14, 15, 39, 40, 41, 42, 43, 44, 45, 72, 73, 74, 75, 76, 77, 78, 79, 80, 81, 82, 83, 84, 85, 86, 87, 88, 89, 90, 91, 92, 93, 94, 95, 96, 97, 98, 99, 100, 101, 102, 103, 104, 105, 106, 107, 108, 109, 110, 111, 112, 113] (by decide +kernel) (by decide +kernel)
set_option maxRecDepth 20000 in
theorem gX12_townLineHere_X12_isLiftHere : GoodIn wsX12_townLineHere (wsV RX12 251 RX12 yX12_isLiftHere wsX12_isLiftHere) := goodIn_app (goodIn_of _ (by decide +kernel)) ggX12_townLineHere_X12_isLiftHere
theorem dX12_townLineHere_0 : decode cX12_townLineHere 0 = .ok (.aload_n 0, 1) := by decide +kernel
theorem dX12_townLineHere_1 : decode cX12_townLineHere 1 = .ok (.ldc2_w 236, 3) := by decide +kernel
theorem dX12_townLineHere_4 : decode cX12_townLineHere 4 = .ok (.invokevirtual 105, 3) := by decide +kernel
theorem dX12_townLineHere_7 : decode cX12_townLineHere 7 = .ok (.ifCond .eq 9, 3) := by decide +kernel
theorem dX12_townLineHere_10 : decode cX12_townLineHere 10 = .ok (.aload_n 0, 1) := by decide +kernel
theorem dX12_townLineHere_11 : decode cX12_townLineHere 11 = .ok (.iload_n 1, 1) := by decide +kernel
theorem dX12_townLineHere_12 : decode cX12_townLineHere 12 = .ok (.invokevirtual 238, 3) := by decide +kernel
theorem dX12_townLineHere_15 : decode cX12_townLineHere 15 = .ok (.ireturn, 1) := by decide +kernel
theorem dX12_townLineHere_16 : decode cX12_townLineHere 16 = .ok (.aload_n 0, 1) := by decide +kernel
theorem dX12_townLineHere_17 : decode cX12_townLineHere 17 = .ok (.getfield 218, 3) := by decide +kernel
theorem dX12_townLineHere_20 : decode cX12_townLineHere 20 = .ok (.ifCond .ne 10, 3) := by decide +kernel
theorem dX12_townLineHere_23 : decode cX12_townLineHere 23 = .ok (.aload_n 0, 1) := by decide +kernel
theorem dX12_townLineHere_24 : decode cX12_townLineHere 24 = .ok (.iconst 4, 1) := by decide +kernel
theorem dX12_townLineHere_25 : decode cX12_townLineHere 25 = .ok (.iload_n 1, 1) := by decide +kernel
theorem dX12_townLineHere_26 : decode cX12_townLineHere 26 = .ok (.invokevirtual 115, 3) := by decide +kernel
theorem dX12_townLineHere_29 : decode cX12_townLineHere 29 = .ok (.ireturn, 1) := by decide +kernel
theorem dX12_townLineHere_30 : decode cX12_townLineHere 30 = .ok (.aload_n 0, 1) := by decide +kernel
theorem dX12_townLineHere_31 : decode cX12_townLineHere 31 = .ok (.ldc2_w 241, 3) := by decide +kernel
theorem dX12_townLineHere_34 : decode cX12_townLineHere 34 = .ok (.invokevirtual 105, 3) := by decide +kernel
theorem dX12_townLineHere_37 : decode cX12_townLineHere 37 = .ok (.ifCond .eq 11, 3) := by decide +kernel
theorem dX12_townLineHere_40 : decode cX12_townLineHere 40 = .ok (.aload_n 0, 1) := by decide +kernel
theorem dX12_townLineHere_41 : decode cX12_townLineHere 41 = .ok (.iload_n 1, 1) := by decide +kernel
theorem dX12_townLineHere_42 : decode cX12_townLineHere 42 = .ok (.invokevirtual 243, 3) := by decide +kernel
theorem dX12_townLineHere_45 : decode cX12_townLineHere 45 = .ok (.goto 26, 3) := by decide +kernel
theorem dX12_townLineHere_48 : decode cX12_townLineHere 48 = .ok (.aload_n 0, 1) := by decide +kernel
theorem dX12_townLineHere_49 : decode cX12_townLineHere 49 = .ok (.ldc2_w 246, 3) := by decide +kernel
theorem dX12_townLineHere_52 : decode cX12_townLineHere 52 = .ok (.invokevirtual 105, 3) := by decide +kernel
theorem dX12_townLineHere_55 : decode cX12_townLineHere 55 = .ok (.ifCond .eq 11, 3) := by decide +kernel
theorem dX12_townLineHere_58 : decode cX12_townLineHere 58 = .ok (.aload_n 0, 1) := by decide +kernel
theorem dX12_townLineHere_59 : decode cX12_townLineHere 59 = .ok (.iload_n 1, 1) := by decide +kernel
theorem dX12_townLineHere_60 : decode cX12_townLineHere 60 = .ok (.invokevirtual 248, 3) := by decide +kernel
theorem dX12_townLineHere_63 : decode cX12_townLineHere 63 = .ok (.goto 8, 3) := by decide +kernel
theorem dX12_townLineHere_66 : decode cX12_townLineHere 66 = .ok (.aload_n 0, 1) := by decide +kernel
theorem dX12_townLineHere_67 : decode cX12_townLineHere 67 = .ok (.iload_n 1, 1) := by decide +kernel
theorem dX12_townLineHere_68 : decode cX12_townLineHere 68 = .ok (.invokevirtual 251, 3) := by decide +kernel
theorem dX12_townLineHere_71 : decode cX12_townLineHere 71 = .ok (.ireturn, 1) := by decide +kernel
set_option maxRecDepth 20000 in
theorem ggX12_clauseHere_X12_see : GoodIn wsX12_clauseHere wsX12_see := goodIn_r _ [12, 1, 13, 14, 173, 174, 175, 176, 177, 178, 179, 180, 181, 182, 183, 184, 185, 186, 187, 188, 189, 190, 191, 192, 193, 194, 195, 196, 197, 198, 199, 200, 201, 202, 203, 204, 205, 206, 207, 208, 209, 210, 211, 212, 213, 214] (by decide +kernel) (by decide +kernel)
set_option maxRecDepth 20000 in
theorem gX12_clauseHere_X12_see : GoodIn wsX12_clauseHere (wsV RX12 97 RX12 yX12_see wsX12_see) := goodIn_app (goodIn_of _ (by decide +kernel)) ggX12_clauseHere_X12_see
set_option maxRecDepth 20000 in
theorem ggX12_clauseHere_X12_isWord : GoodIn wsX12_clauseHere wsX12_isWord := goodIn_r _ [18, 1, 14, 8, 9, 10, 11, 12, 13, 19, 20, 21, 22, 173, 174, 175, 176, 177, 178, 179, 180, 181, 182, 183, 184, 185, 186, 187, 188, 189, 190, 191, 192, 193, 194, 195, 196, 197, 198, 199, 200, 201, 202, 203, 204, 205, 206, 207, 208, 209, 210, 211, 212, 213, 214] (by decide +kernel) (by decide +kernel)
set_option maxRecDepth 20000 in
theorem gX12_clauseHere_X12_isWord : GoodIn wsX12_clauseHere (wsV RX12 105 RX12 yX12_isWord wsX12_isWord) := goodIn_app (goodIn_of _ (by decide +kernel)) ggX12_clauseHere_X12_isWord
set_option maxRecDepth 20000 in
theorem ggX12_clauseHere_X12_fails : GoodIn wsX12_clauseHere wsX12_fails := goodIn_r _ [34, 35, 173, 174, 175, 176, 177, 178, 179, 180, 181, 182, 183, 184, 185, 186, 187, 188, 189, 190, 191, 192, 193, 194, 195, 196, 197, 198, 199, 200, 201, 202, 203, 204, 205, 206, 207, 208, 209, 210, 211, 212, 213, 214] (by decide +kernel) (by decide +kernel)
set_option maxRecDepth 20000 in
theorem gX12_clauseHere_X12_fails : GoodIn wsX12_clauseHere (wsV RX12 115 RX12 yX12_fails wsX12_fails) := goodIn_app (goodIn_of _ (by decide +kernel)) ggX12_clauseHere_X12_fails
set_option maxRecDepth 20000 in
theorem ggX12_clauseHere_X12_townLineHere : GoodIn wsX12_clauseHere wsX12_townLineHere := goodIn_r _ [39, 3, 40, 4, 5, 15, 16, 17, 11, 18, 1, 14, 8, 9, 10, 12, 13, 19, 20, 21, 22, 41, 42, 43, 44, 45, 31, 32, 33, 34, 35, 46, 47, 48, 49, 50, 51, 52, 53, 54, 55, 56, 57, 58, 59, 60, 61, 62, 63, 64, 65, 66, 67, 68, 69, 70, 71, 72, 73, 74, 75, 76, 77, 78, 79, 80, 81, 82, 83, 84, 85, 86, 173, 174, 175, 176, 177, 178, 179, 180, 181, 182, 183, 184, 185, 186, 187, 188, 189, 190, 191, 192, 193, 194, 195, 196, 197, 198, 199, 200, 201, 202, 203, 204, 205, 206, 207, 208, 209, 210, 211, 212, 213, 214] (by decide +kernel) (by decide +kernel)
set_option maxRecDepth 20000 in
theorem gX12_clauseHere_X12_townLineHere : GoodIn wsX12_clauseHere (wsV RX12 270 RX12 yX12_townLineHere wsX12_townLineHere) := goodIn_app (goodIn_of _ (by decide +kernel)) ggX12_clauseHere_X12_townLineHere
theorem dX12_clauseHere_0 : decode cX12_clauseHere 0 = .ok (.aload_n 0, 1) := by decide +kernel
theorem dX12_clauseHere_1 : decode cX12_clauseHere 1 = .ok (.invokevirtual 97, 3) := by decide +kernel
theorem dX12_clauseHere_4 : decode cX12_clauseHere 4 = .ok (.pop, 1) := by decide +kernel
theorem dX12_clauseHere_5 : decode cX12_clauseHere 5 = .ok (.aload_n 0, 1) := by decide +kernel
theorem dX12_clauseHere_6 : decode cX12_clauseHere 6 = .ok (.getfield 94, 3) := by decide +kernel
theorem dX12_clauseHere_9 : decode cX12_clauseHere 9 = .ok (.istore_n 1, 1) := by decide +kernel
theorem dX12_clauseHere_10 : decode cX12_clauseHere 10 = .ok (.aload_n 0, 1) := by decide +kernel
theorem dX12_clauseHere_11 : decode cX12_clauseHere 11 = .ok (.getfield 146, 3) := by decide +kernel
theorem dX12_clauseHere_14 : decode cX12_clauseHere 14 = .ok (.bipush 6, 2) := by decide +kernel
theorem dX12_clauseHere_16 : decode cX12_clauseHere 16 = .ok (.if_icmp .ne 7, 3) := by decide +kernel
theorem dX12_clauseHere_19 : decode cX12_clauseHere 19 = .ok (.iconst 1, 1) := by decide +kernel
theorem dX12_clauseHere_20 : decode cX12_clauseHere 20 = .ok (.goto 4, 3) := by decide +kernel
theorem dX12_clauseHere_24 : decode cX12_clauseHere 24 = .ok (.istore_n 2, 1) := by decide +kernel
theorem dX12_clauseHere_25 : decode cX12_clauseHere 25 = .ok (.iload_n 2, 1) := by decide +kernel
theorem dX12_clauseHere_26 : decode cX12_clauseHere 26 = .ok (.ifCond .eq 51, 3) := by decide +kernel
theorem dX12_clauseHere_29 : decode cX12_clauseHere 29 = .ok (.aload_n 0, 1) := by decide +kernel
theorem dX12_clauseHere_30 : decode cX12_clauseHere 30 = .ok (.ldc2_w 236, 3) := by decide +kernel
theorem dX12_clauseHere_33 : decode cX12_clauseHere 33 = .ok (.invokevirtual 105, 3) := by decide +kernel
theorem dX12_clauseHere_36 : decode cX12_clauseHere 36 = .ok (.ifCond .ne 33, 3) := by decide +kernel
theorem dX12_clauseHere_39 : decode cX12_clauseHere 39 = .ok (.aload_n 0, 1) := by decide +kernel
theorem dX12_clauseHere_40 : decode cX12_clauseHere 40 = .ok (.ldc2_w 241, 3) := by decide +kernel
theorem dX12_clauseHere_43 : decode cX12_clauseHere 43 = .ok (.invokevirtual 105, 3) := by decide +kernel
theorem dX12_clauseHere_46 : decode cX12_clauseHere 46 = .ok (.ifCond .ne 23, 3) := by decide +kernel
theorem dX12_clauseHere_49 : decode cX12_clauseHere 49 = .ok (.aload_n 0, 1) := by decide +kernel
theorem dX12_clauseHere_50 : decode cX12_clauseHere 50 = .ok (.ldc2_w 246, 3) := by decide +kernel
theorem dX12_clauseHere_53 : decode cX12_clauseHere 53 = .ok (.invokevirtual 105, 3) := by decide +kernel
theorem dX12_clauseHere_56 : decode cX12_clauseHere 56 = .ok (.ifCond .ne 13, 3) := by decide +kernel
theorem dX12_clauseHere_59 : decode cX12_clauseHere 59 = .ok (.aload_n 0, 1) := by decide +kernel
theorem dX12_clauseHere_60 : decode cX12_clauseHere 60 = .ok (.ldc2_w 262, 3) := by decide +kernel
theorem dX12_clauseHere_63 : decode cX12_clauseHere 63 = .ok (.invokevirtual 105, 3) := by decide +kernel
theorem dX12_clauseHere_66 : decode cX12_clauseHere 66 = .ok (.ifCond .eq 7, 3) := by decide +kernel
theorem dX12_clauseHere_69 : decode cX12_clauseHere 69 = .ok (.iconst 1, 1) := by decide +kernel
theorem dX12_clauseHere_70 : decode cX12_clauseHere 70 = .ok (.goto 19, 3) := by decide +kernel
theorem dX12_clauseHere_73 : decode cX12_clauseHere 73 = .ok (.iconst 0, 1) := by decide +kernel
theorem dX12_clauseHere_74 : decode cX12_clauseHere 74 = .ok (.goto 15, 3) := by decide +kernel
theorem dX12_clauseHere_89 : decode cX12_clauseHere 89 = .ok (.istore_n 3, 1) := by decide +kernel
theorem dX12_clauseHere_90 : decode cX12_clauseHere 90 = .ok (.iload_n 3, 1) := by decide +kernel
theorem dX12_clauseHere_91 : decode cX12_clauseHere 91 = .ok (.ifCond .ne 10, 3) := by decide +kernel
theorem dX12_clauseHere_94 : decode cX12_clauseHere 94 = .ok (.aload_n 0, 1) := by decide +kernel
theorem dX12_clauseHere_95 : decode cX12_clauseHere 95 = .ok (.iconst 0, 1) := by decide +kernel
theorem dX12_clauseHere_96 : decode cX12_clauseHere 96 = .ok (.iload_n 1, 1) := by decide +kernel
theorem dX12_clauseHere_97 : decode cX12_clauseHere 97 = .ok (.invokevirtual 115, 3) := by decide +kernel
theorem dX12_clauseHere_100 : decode cX12_clauseHere 100 = .ok (.ireturn, 1) := by decide +kernel
theorem dX12_clauseHere_101 : decode cX12_clauseHere 101 = .ok (.aload_n 0, 1) := by decide +kernel
theorem dX12_clauseHere_102 : decode cX12_clauseHere 102 = .ok (.getfield 267, 3) := by decide +kernel
theorem dX12_clauseHere_105 : decode cX12_clauseHere 105 = .ok (.iload_n 2, 1) := by decide +kernel
theorem dX12_clauseHere_106 : decode cX12_clauseHere 106 = .ok (.ifCond .eq 8, 3) := by decide +kernel
theorem dX12_clauseHere_109 : decode cX12_clauseHere 109 = .ok (.bipush 32, 2) := by decide +kernel
theorem dX12_clauseHere_111 : decode cX12_clauseHere 111 = .ok (.goto 5, 3) := by decide +kernel
theorem dX12_clauseHere_116 : decode cX12_clauseHere 116 = .ok (.if_icmp .ne 10, 3) := by decide +kernel
theorem dX12_clauseHere_119 : decode cX12_clauseHere 119 = .ok (.aload_n 0, 1) := by decide +kernel
theorem dX12_clauseHere_120 : decode cX12_clauseHere 120 = .ok (.iconst 4, 1) := by decide +kernel
theorem dX12_clauseHere_121 : decode cX12_clauseHere 121 = .ok (.iload_n 1, 1) := by decide +kernel
theorem dX12_clauseHere_122 : decode cX12_clauseHere 122 = .ok (.invokevirtual 115, 3) := by decide +kernel
theorem dX12_clauseHere_125 : decode cX12_clauseHere 125 = .ok (.ireturn, 1) := by decide +kernel
theorem dX12_clauseHere_126 : decode cX12_clauseHere 126 = .ok (.aload_n 0, 1) := by decide +kernel
theorem dX12_clauseHere_127 : decode cX12_clauseHere 127 = .ok (.dup, 1) := by decide +kernel
theorem dX12_clauseHere_128 : decode cX12_clauseHere 128 = .ok (.getfield 267, 3) := by decide +kernel
theorem dX12_clauseHere_131 : decode cX12_clauseHere 131 = .ok (.iconst 1, 1) := by decide +kernel
theorem dX12_clauseHere_132 : decode cX12_clauseHere 132 = .ok (.iadd, 1) := by decide +kernel
theorem dX12_clauseHere_133 : decode cX12_clauseHere 133 = .ok (.putfield 267, 3) := by decide +kernel
theorem dX12_clauseHere_136 : decode cX12_clauseHere 136 = .ok (.iload_n 2, 1) := by decide +kernel
theorem dX12_clauseHere_137 : decode cX12_clauseHere 137 = .ok (.ifCond .eq 11, 3) := by decide +kernel
theorem dX12_clauseHere_140 : decode cX12_clauseHere 140 = .ok (.aload_n 0, 1) := by decide +kernel
theorem dX12_clauseHere_141 : decode cX12_clauseHere 141 = .ok (.iload_n 1, 1) := by decide +kernel
theorem dX12_clauseHere_142 : decode cX12_clauseHere 142 = .ok (.invokevirtual 270, 3) := by decide +kernel
theorem dX12_clauseHere_145 : decode cX12_clauseHere 145 = .ok (.goto 11, 3) := by decide +kernel
theorem dX12_clauseHere_156 : decode cX12_clauseHere 156 = .ok (.ireturn, 1) := by decide +kernel
set_option maxRecDepth 20000 in
theorem ggX12_readsAll_X12_clauseHere : GoodIn wsX12_readsAll wsX12_clauseHere := goodIn_r _ [12, 4, 2, 13, 14, 15, 16, 3, 17, 18, 19, 11, 20, 7, 21, 22, 23, 24, 25, 26, 27, 28, 29, 30, 31, 32, 33, 34, 35, 36, 37, 38, 39, 40, 41, 5, 42, 43, 44, 45, 46, 47, 48, 49, 50, 51, 52, 53, 54, 55, 56, 57, 58, 59, 60, 61, 62, 63, 64, 65, 66, 67, 68, 69, 70, 71, 72, 73, 74, 75, 76, 77, 78, 79, 80, 81, 82, 83, 84, 85, 86, 87, 88, 89, 90, 91, 92, 93, 94, 95, 96, 97, 98, 99, 1, 100, 101, 102, 103, 104, 105, 106, 107, 108, 109, 110, 111, 112, 113, 114, 115, 116, 117, 118, 119, 120, 121, 122, 123, 124, 125, 126, 127, 128, 129, 130, 131, 132, 133, 134, 135, 136, 137, 138, 139, 140, 141, 142, 6, 143, 144, 145, 146, 147, 148, 149, 150, 151, 152, 153, 154, 155, 156, 157, 158, 159, 160, 161, 162, 163, 164, 165, 166, 167, 168, 169, 170, 171, 172, 173, 174, 175, 176, 177, 178, 179, 180, 181, 182, 183, 184, 185, 186, 187, 188, 189, 190, 191, 192, 193, 194, 195, 196, 197, 198, 199, 200, 201, 202, 203, 204, 205, 206, 207, 208, 209, 210, 211, 212, 213, 214, 215, 216, 217, 218] (by decide +kernel) (by decide +kernel)
set_option maxRecDepth 20000 in
theorem gX12_readsAll_X12_clauseHere : GoodIn wsX12_readsAll (wsV RX12 276 RX12 yX12_clauseHere wsX12_clauseHere) := goodIn_app (goodIn_of _ (by decide +kernel)) ggX12_readsAll_X12_clauseHere
set_option maxRecDepth 20000 in
theorem ggX12_readsAll_X12_see : GoodIn wsX12_readsAll wsX12_see := goodIn_r _ [20, 4, 7, 21, 177, 178, 179, 180, 181, 182, 183, 184, 185, 186, 187, 188, 189, 190, 191, 192, 193, 194, 195, 196, 197, 198, 199, 200, 201, 202, 203, 204, 205, 206, 207, 208, 209, 210, 211, 212, 213, 214, 215, 216, 217, 218] (by decide +kernel) (by decide +kernel)
set_option maxRecDepth 20000 in
theorem gX12_readsAll_X12_see : GoodIn wsX12_readsAll (wsV RX12 97 RX12 yX12_see wsX12_see) := goodIn_app (goodIn_of _ (by decide +kernel)) ggX12_readsAll_X12_see
set_option maxRecDepth 20000 in
theorem ggX12_readsAll_X12_fails : GoodIn wsX12_readsAll wsX12_fails := goodIn_r _ [41, 5, 177, 178, 179, 180, 181, 182, 183, 184, 185, 186, 187, 188, 189, 190, 191, 192, 193, 194, 195, 196, 197, 198, 199, 200, 201, 202, 203, 204, 205, 206, 207, 208, 209, 210, 211, 212, 213, 214, 215, 216, 217, 218] (by decide +kernel) (by decide +kernel)
set_option maxRecDepth 20000 in
theorem gX12_readsAll_X12_fails : GoodIn wsX12_readsAll (wsV RX12 115 RX12 yX12_fails wsX12_fails) := goodIn_app (goodIn_of _ (by decide +kernel)) ggX12_readsAll_X12_fails
theorem dX12_readsAll_0 : decode cX12_readsAll 0 = .ok (.aload_n 0, 1) := by decide +kernel
theorem dX12_readsAll_1 : decode cX12_readsAll 1 = .ok (.getfield 17, 3) := by decide +kernel
theorem dX12_readsAll_4 : decode cX12_readsAll 4 = .ok (.aload_n 0, 1) := by decide +kernel
theorem dX12_readsAll_5 : decode cX12_readsAll 5 = .ok (.getfield 146, 3) := by decide +kernel
theorem dX12_readsAll_8 : decode cX12_readsAll 8 = .ok (.iconst 0, 1) := by decide +kernel
theorem dX12_readsAll_9 : decode cX12_readsAll 9 = .ok (.iastore, 1) := by decide +kernel
theorem dX12_readsAll_10 : decode cX12_readsAll 10 = .ok (.aload_n 0, 1) := by decide +kernel
theorem dX12_readsAll_11 : decode cX12_readsAll 11 = .ok (.iconst 0, 1) := by decide +kernel
theorem dX12_readsAll_12 : decode cX12_readsAll 12 = .ok (.putfield 267, 3) := by decide +kernel
theorem dX12_readsAll_15 : decode cX12_readsAll 15 = .ok (.aload_n 0, 1) := by decide +kernel
theorem dX12_readsAll_16 : decode cX12_readsAll 16 = .ok (.iconst 0, 1) := by decide +kernel
theorem dX12_readsAll_17 : decode cX12_readsAll 17 = .ok (.putfield 94, 3) := by decide +kernel
theorem dX12_readsAll_20 : decode cX12_readsAll 20 = .ok (.aload_n 0, 1) := by decide +kernel
theorem dX12_readsAll_21 : decode cX12_readsAll 21 = .ok (.iconst 0, 1) := by decide +kernel
theorem dX12_readsAll_22 : decode cX12_readsAll 22 = .ok (.putfield 91, 3) := by decide +kernel
theorem dX12_readsAll_25 : decode cX12_readsAll 25 = .ok (.aload_n 0, 1) := by decide +kernel
theorem dX12_readsAll_26 : decode cX12_readsAll 26 = .ok (.iconst 0, 1) := by decide +kernel
theorem dX12_readsAll_27 : decode cX12_readsAll 27 = .ok (.putfield 149, 3) := by decide +kernel
theorem dX12_readsAll_30 : decode cX12_readsAll 30 = .ok (.aload_n 0, 1) := by decide +kernel
theorem dX12_readsAll_31 : decode cX12_readsAll 31 = .ok (.invokevirtual 276, 3) := by decide +kernel
theorem dX12_readsAll_34 : decode cX12_readsAll 34 = .ok (.istore_n 1, 1) := by decide +kernel
theorem dX12_readsAll_35 : decode cX12_readsAll 35 = .ok (.iload_n 1, 1) := by decide +kernel
theorem dX12_readsAll_36 : decode cX12_readsAll 36 = .ok (.ifCond .eq 30, 3) := by decide +kernel
theorem dX12_readsAll_39 : decode cX12_readsAll 39 = .ok (.aload_n 0, 1) := by decide +kernel
theorem dX12_readsAll_40 : decode cX12_readsAll 40 = .ok (.invokevirtual 97, 3) := by decide +kernel
theorem dX12_readsAll_43 : decode cX12_readsAll 43 = .ok (.bipush 59, 2) := by decide +kernel
theorem dX12_readsAll_45 : decode cX12_readsAll 45 = .ok (.if_icmp .ne 21, 3) := by decide +kernel
theorem dX12_readsAll_48 : decode cX12_readsAll 48 = .ok (.aload_n 0, 1) := by decide +kernel
theorem dX12_readsAll_49 : decode cX12_readsAll 49 = .ok (.dup, 1) := by decide +kernel
theorem dX12_readsAll_50 : decode cX12_readsAll 50 = .ok (.getfield 94, 3) := by decide +kernel
theorem dX12_readsAll_53 : decode cX12_readsAll 53 = .ok (.iconst 1, 1) := by decide +kernel
theorem dX12_readsAll_54 : decode cX12_readsAll 54 = .ok (.iadd, 1) := by decide +kernel
theorem dX12_readsAll_55 : decode cX12_readsAll 55 = .ok (.putfield 94, 3) := by decide +kernel
theorem dX12_readsAll_58 : decode cX12_readsAll 58 = .ok (.aload_n 0, 1) := by decide +kernel
theorem dX12_readsAll_59 : decode cX12_readsAll 59 = .ok (.invokevirtual 276, 3) := by decide +kernel
theorem dX12_readsAll_62 : decode cX12_readsAll 62 = .ok (.istore_n 1, 1) := by decide +kernel
theorem dX12_readsAll_63 : decode cX12_readsAll 63 = .ok (.goto (-28), 3) := by decide +kernel
theorem dX12_readsAll_66 : decode cX12_readsAll 66 = .ok (.iload_n 1, 1) := by decide +kernel
theorem dX12_readsAll_67 : decode cX12_readsAll 67 = .ok (.ifCond .eq 21, 3) := by decide +kernel
theorem dX12_readsAll_70 : decode cX12_readsAll 70 = .ok (.aload_n 0, 1) := by decide +kernel
theorem dX12_readsAll_71 : decode cX12_readsAll 71 = .ok (.invokevirtual 97, 3) := by decide +kernel
theorem dX12_readsAll_74 : decode cX12_readsAll 74 = .ok (.iconst (-1), 1) := by decide +kernel
theorem dX12_readsAll_75 : decode cX12_readsAll 75 = .ok (.if_icmp .eq 13, 3) := by decide +kernel
theorem dX12_readsAll_78 : decode cX12_readsAll 78 = .ok (.aload_n 0, 1) := by decide +kernel
theorem dX12_readsAll_79 : decode cX12_readsAll 79 = .ok (.iconst 0, 1) := by decide +kernel
theorem dX12_readsAll_80 : decode cX12_readsAll 80 = .ok (.aload_n 0, 1) := by decide +kernel
theorem dX12_readsAll_81 : decode cX12_readsAll 81 = .ok (.getfield 94, 3) := by decide +kernel
theorem dX12_readsAll_84 : decode cX12_readsAll 84 = .ok (.invokevirtual 115, 3) := by decide +kernel
theorem dX12_readsAll_87 : decode cX12_readsAll 87 = .ok (.pop, 1) := by decide +kernel
theorem dX12_readsAll_88 : decode cX12_readsAll 88 = .ok (.aload_n 0, 1) := by decide +kernel
theorem dX12_readsAll_89 : decode cX12_readsAll 89 = .ok (.iconst 0, 1) := by decide +kernel
theorem dX12_readsAll_90 : decode cX12_readsAll 90 = .ok (.putfield 83, 3) := by decide +kernel
theorem dX12_readsAll_93 : decode cX12_readsAll 93 = .ok (.aload_n 0, 1) := by decide +kernel
theorem dX12_readsAll_94 : decode cX12_readsAll 94 = .ok (.getfield 91, 3) := by decide +kernel
theorem dX12_readsAll_97 : decode cX12_readsAll 97 = .ok (.ifCond .ne 7, 3) := by decide +kernel
theorem dX12_readsAll_100 : decode cX12_readsAll 100 = .ok (.iconst 1, 1) := by decide +kernel
theorem dX12_readsAll_101 : decode cX12_readsAll 101 = .ok (.goto 4, 3) := by decide +kernel
theorem dX12_readsAll_104 : decode cX12_readsAll 104 = .ok (.iconst 0, 1) := by decide +kernel
theorem dX12_readsAll_105 : decode cX12_readsAll 105 = .ok (.ireturn, 1) := by decide +kernel
set_option maxRecDepth 20000 in
theorem ggX12_town_X12_readsAll : GoodIn wsX12_town wsX12_readsAll := goodIn_r _ [15, 16, 1, 17, 18, 6, 19, 20, 21, 22, 23, 14, 24, 25, 26, 27, 28, 29, 30, 31, 32, 33, 34, 35, 36, 37, 38, 39, 40, 41, 42, 43, 44, 45, 46, 47, 48, 49, 50, 51, 52, 53, 54, 55, 56, 57, 2, 58, 59, 60, 61, 62, 63, 64, 65, 66, 67, 68, 69, 70, 71, 72, 73, 74, 75, 76, 77, 78, 79, 80, 81, 3, 8, 82, 83, 84, 85, 86, 87, 88, 89, 90, 91, 92, 93, 4, 9, 94, 95, 96, 97, 5, 10, 98, 99, 100, 101, 102, 103, 104, 105, 106, 107, 108, 109, 110, 111, 112, 113, 114, 115, 116, 117, 118, 119, 120, 121, 122, 123, 124, 125, 126, 127, 128, 129, 130, 131, 132, 133, 134, 135, 136, 137, 138, 139, 140, 141, 142, 143, 144, 145, 146, 147, 148, 149, 150, 151, 152, 153, 154, 155, 156, 157, 158, 159, 160, 161, 162, 163, 164, 165, 166, 167, 168, 169, 170, 171, 172, 173, 174, 175, 176, 177, 178, 179, 180, 181, 182, 183, 184, 185, 186, 187, 188, 189, 190, 191, 192, 193, 194, 195, 196, 197, 198, 199, 200, 201, 202, 203, 204, 205, 206, 207, 208, 209, 210, 211, 212, 213, 214, 215, 216, 217, 218, 219, 220, 221, 222, 223] (by decide +kernel) (by decide +kernel)
set_option maxRecDepth 20000 in
theorem gX12_town_X12_readsAll : GoodIn wsX12_town (wsV RX12 282 RX12 yX12_readsAll wsX12_readsAll) := goodIn_app (goodIn_of _ (by decide +kernel)) ggX12_town_X12_readsAll
theorem dX12_town_0 : decode cX12_town 0 = .ok (.aload_n 0, 1) := by decide +kernel
theorem dX12_town_1 : decode cX12_town 1 = .ok (.bipush 6, 2) := by decide +kernel
theorem dX12_town_3 : decode cX12_town 3 = .ok (.putfield 146, 3) := by decide +kernel
theorem dX12_town_6 : decode cX12_town 6 = .ok (.aload_n 0, 1) := by decide +kernel
theorem dX12_town_7 : decode cX12_town 7 = .ok (.iconst 0, 1) := by decide +kernel
theorem dX12_town_8 : decode cX12_town 8 = .ok (.putfield 218, 3) := by decide +kernel
theorem dX12_town_11 : decode cX12_town 11 = .ok (.aload_n 0, 1) := by decide +kernel
theorem dX12_town_12 : decode cX12_town 12 = .ok (.iconst 0, 1) := by decide +kernel
theorem dX12_town_13 : decode cX12_town 13 = .ok (.putfield 224, 3) := by decide +kernel
theorem dX12_town_16 : decode cX12_town 16 = .ok (.aload_n 0, 1) := by decide +kernel
theorem dX12_town_17 : decode cX12_town 17 = .ok (.iconst 0, 1) := by decide +kernel
theorem dX12_town_18 : decode cX12_town 18 = .ok (.putfield 230, 3) := by decide +kernel
theorem dX12_town_21 : decode cX12_town 21 = .ok (.aload_n 0, 1) := by decide +kernel
theorem dX12_town_22 : decode cX12_town 22 = .ok (.iconst 0, 1) := by decide +kernel
theorem dX12_town_23 : decode cX12_town 23 = .ok (.putfield 233, 3) := by decide +kernel
theorem dX12_town_26 : decode cX12_town 26 = .ok (.aload_n 0, 1) := by decide +kernel
theorem dX12_town_27 : decode cX12_town 27 = .ok (.invokevirtual 282, 3) := by decide +kernel
theorem dX12_town_30 : decode cX12_town 30 = .ok (.ifCond .ne 11, 3) := by decide +kernel
theorem dX12_town_33 : decode cX12_town 33 = .ok (.bipush (-2), 2) := by decide +kernel
theorem dX12_town_35 : decode cX12_town 35 = .ok (.aload_n 0, 1) := by decide +kernel
theorem dX12_town_36 : decode cX12_town 36 = .ok (.getfield 91, 3) := by decide +kernel
theorem dX12_town_39 : decode cX12_town 39 = .ok (.isub, 1) := by decide +kernel
theorem dX12_town_40 : decode cX12_town 40 = .ok (.ireturn, 1) := by decide +kernel
theorem dX12_town_41 : decode cX12_town 41 = .ok (.aload_n 0, 1) := by decide +kernel
theorem dX12_town_42 : decode cX12_town 42 = .ok (.getfield 45, 3) := by decide +kernel
theorem dX12_town_45 : decode cX12_town 45 = .ok (.bipush 9, 2) := by decide +kernel
theorem dX12_town_47 : decode cX12_town 47 = .ok (.iaload, 1) := by decide +kernel
theorem dX12_town_48 : decode cX12_town 48 = .ok (.istore_n 1, 1) := by decide +kernel
theorem dX12_town_49 : decode cX12_town 49 = .ok (.iconst 0, 1) := by decide +kernel
theorem dX12_town_50 : decode cX12_town 50 = .ok (.istore_n 2, 1) := by decide +kernel
theorem dX12_town_51 : decode cX12_town 51 = .ok (.iload_n 2, 1) := by decide +kernel
theorem dX12_town_52 : decode cX12_town 52 = .ok (.sipush 296, 3) := by decide +kernel
theorem dX12_town_55 : decode cX12_town 55 = .ok (.if_icmp .ge 16, 3) := by decide +kernel
theorem dX12_town_58 : decode cX12_town 58 = .ok (.aload_n 0, 1) := by decide +kernel
theorem dX12_town_59 : decode cX12_town 59 = .ok (.getfield 45, 3) := by decide +kernel
theorem dX12_town_62 : decode cX12_town 62 = .ok (.iload_n 2, 1) := by decide +kernel
theorem dX12_town_63 : decode cX12_town 63 = .ok (.iconst 0, 1) := by decide +kernel
theorem dX12_town_64 : decode cX12_town 64 = .ok (.iastore, 1) := by decide +kernel
theorem dX12_town_65 : decode cX12_town 65 = .ok (.iinc 2 1, 3) := by decide +kernel
theorem dX12_town_68 : decode cX12_town 68 = .ok (.goto (-17), 3) := by decide +kernel
theorem dX12_town_71 : decode cX12_town 71 = .ok (.aload_n 0, 1) := by decide +kernel
theorem dX12_town_72 : decode cX12_town 72 = .ok (.getfield 45, 3) := by decide +kernel
theorem dX12_town_75 : decode cX12_town 75 = .ok (.iconst 0, 1) := by decide +kernel
theorem dX12_town_76 : decode cX12_town 76 = .ok (.aload_n 0, 1) := by decide +kernel
theorem dX12_town_77 : decode cX12_town 77 = .ok (.getfield 218, 3) := by decide +kernel
theorem dX12_town_80 : decode cX12_town 80 = .ok (.iastore, 1) := by decide +kernel
theorem dX12_town_81 : decode cX12_town 81 = .ok (.aload_n 0, 1) := by decide +kernel
theorem dX12_town_82 : decode cX12_town 82 = .ok (.getfield 45, 3) := by decide +kernel
theorem dX12_town_85 : decode cX12_town 85 = .ok (.iconst 1, 1) := by decide +kernel
theorem dX12_town_86 : decode cX12_town 86 = .ok (.aload_n 0, 1) := by decide +kernel
theorem dX12_town_87 : decode cX12_town 87 = .ok (.getfield 224, 3) := by decide +kernel
theorem dX12_town_90 : decode cX12_town 90 = .ok (.iastore, 1) := by decide +kernel
theorem dX12_town_91 : decode cX12_town 91 = .ok (.aload_n 0, 1) := by decide +kernel
theorem dX12_town_92 : decode cX12_town 92 = .ok (.getfield 45, 3) := by decide +kernel
theorem dX12_town_95 : decode cX12_town 95 = .ok (.iconst 2, 1) := by decide +kernel
theorem dX12_town_96 : decode cX12_town 96 = .ok (.aload_n 0, 1) := by decide +kernel
theorem dX12_town_97 : decode cX12_town 97 = .ok (.getfield 230, 3) := by decide +kernel
theorem dX12_town_100 : decode cX12_town 100 = .ok (.iastore, 1) := by decide +kernel
theorem dX12_town_101 : decode cX12_town 101 = .ok (.aload_n 0, 1) := by decide +kernel
theorem dX12_town_102 : decode cX12_town 102 = .ok (.getfield 45, 3) := by decide +kernel
theorem dX12_town_105 : decode cX12_town 105 = .ok (.iconst 3, 1) := by decide +kernel
theorem dX12_town_106 : decode cX12_town 106 = .ok (.aload_n 0, 1) := by decide +kernel
theorem dX12_town_107 : decode cX12_town 107 = .ok (.getfield 233, 3) := by decide +kernel
theorem dX12_town_110 : decode cX12_town 110 = .ok (.iastore, 1) := by decide +kernel
theorem dX12_town_111 : decode cX12_town 111 = .ok (.aload_n 0, 1) := by decide +kernel
theorem dX12_town_112 : decode cX12_town 112 = .ok (.getfield 45, 3) := by decide +kernel
theorem dX12_town_115 : decode cX12_town 115 = .ok (.bipush 9, 2) := by decide +kernel
theorem dX12_town_117 : decode cX12_town 117 = .ok (.iload_n 1, 1) := by decide +kernel
theorem dX12_town_118 : decode cX12_town 118 = .ok (.iastore, 1) := by decide +kernel
theorem dX12_town_119 : decode cX12_town 119 = .ok (.iconst 0, 1) := by decide +kernel
theorem dX12_town_120 : decode cX12_town 120 = .ok (.istore_n 2, 1) := by decide +kernel
theorem dX12_town_121 : decode cX12_town 121 = .ok (.iload_n 2, 1) := by decide +kernel
theorem dX12_town_122 : decode cX12_town 122 = .ok (.bipush 10, 2) := by decide +kernel
theorem dX12_town_124 : decode cX12_town 124 = .ok (.aload_n 0, 1) := by decide +kernel
theorem dX12_town_125 : decode cX12_town 125 = .ok (.getfield 224, 3) := by decide +kernel
theorem dX12_town_128 : decode cX12_town 128 = .ok (.imul, 1) := by decide +kernel
theorem dX12_town_129 : decode cX12_town 129 = .ok (.if_icmp .ge 24, 3) := by decide +kernel
theorem dX12_town_132 : decode cX12_town 132 = .ok (.aload_n 0, 1) := by decide +kernel
theorem dX12_town_133 : decode cX12_town 133 = .ok (.getfield 45, 3) := by decide +kernel
theorem dX12_town_136 : decode cX12_town 136 = .ok (.bipush 10, 2) := by decide +kernel
theorem dX12_town_138 : decode cX12_town 138 = .ok (.iload_n 2, 1) := by decide +kernel
theorem dX12_town_139 : decode cX12_town 139 = .ok (.iadd, 1) := by decide +kernel
theorem dX12_town_140 : decode cX12_town 140 = .ok (.aload_n 0, 1) := by decide +kernel
theorem dX12_town_141 : decode cX12_town 141 = .ok (.getfield 26, 3) := by decide +kernel
theorem dX12_town_144 : decode cX12_town 144 = .ok (.iload_n 2, 1) := by decide +kernel
theorem dX12_town_145 : decode cX12_town 145 = .ok (.iaload, 1) := by decide +kernel
theorem dX12_town_146 : decode cX12_town 146 = .ok (.iastore, 1) := by decide +kernel
theorem dX12_town_147 : decode cX12_town 147 = .ok (.iinc 2 1, 3) := by decide +kernel
theorem dX12_town_150 : decode cX12_town 150 = .ok (.goto (-29), 3) := by decide +kernel
theorem dX12_town_153 : decode cX12_town 153 = .ok (.iconst 0, 1) := by decide +kernel
theorem dX12_town_154 : decode cX12_town 154 = .ok (.istore_n 2, 1) := by decide +kernel
theorem dX12_town_155 : decode cX12_town 155 = .ok (.iload_n 2, 1) := by decide +kernel
theorem dX12_town_156 : decode cX12_town 156 = .ok (.iconst 2, 1) := by decide +kernel
theorem dX12_town_157 : decode cX12_town 157 = .ok (.aload_n 0, 1) := by decide +kernel
theorem dX12_town_158 : decode cX12_town 158 = .ok (.getfield 230, 3) := by decide +kernel
theorem dX12_town_161 : decode cX12_town 161 = .ok (.imul, 1) := by decide +kernel
theorem dX12_town_162 : decode cX12_town 162 = .ok (.if_icmp .ge 25, 3) := by decide +kernel
theorem dX12_town_165 : decode cX12_town 165 = .ok (.aload_n 0, 1) := by decide +kernel
theorem dX12_town_166 : decode cX12_town 166 = .ok (.getfield 45, 3) := by decide +kernel
theorem dX12_town_169 : decode cX12_town 169 = .ok (.sipush 140, 3) := by decide +kernel
theorem dX12_town_172 : decode cX12_town 172 = .ok (.iload_n 2, 1) := by decide +kernel
theorem dX12_town_173 : decode cX12_town 173 = .ok (.iadd, 1) := by decide +kernel
theorem dX12_town_174 : decode cX12_town 174 = .ok (.aload_n 0, 1) := by decide +kernel
theorem dX12_town_175 : decode cX12_town 175 = .ok (.getfield 29, 3) := by decide +kernel
theorem dX12_town_178 : decode cX12_town 178 = .ok (.iload_n 2, 1) := by decide +kernel
theorem dX12_town_179 : decode cX12_town 179 = .ok (.iaload, 1) := by decide +kernel
theorem dX12_town_180 : decode cX12_town 180 = .ok (.iastore, 1) := by decide +kernel
theorem dX12_town_181 : decode cX12_town 181 = .ok (.iinc 2 1, 3) := by decide +kernel
theorem dX12_town_184 : decode cX12_town 184 = .ok (.goto (-29), 3) := by decide +kernel
theorem dX12_town_187 : decode cX12_town 187 = .ok (.iconst 0, 1) := by decide +kernel
theorem dX12_town_188 : decode cX12_town 188 = .ok (.istore_n 2, 1) := by decide +kernel
theorem dX12_town_189 : decode cX12_town 189 = .ok (.iload_n 2, 1) := by decide +kernel
theorem dX12_town_190 : decode cX12_town 190 = .ok (.iconst 3, 1) := by decide +kernel
theorem dX12_town_191 : decode cX12_town 191 = .ok (.aload_n 0, 1) := by decide +kernel
theorem dX12_town_192 : decode cX12_town 192 = .ok (.getfield 233, 3) := by decide +kernel
theorem dX12_town_195 : decode cX12_town 195 = .ok (.imul, 1) := by decide +kernel
theorem dX12_town_196 : decode cX12_town 196 = .ok (.if_icmp .ge 25, 3) := by decide +kernel
theorem dX12_town_199 : decode cX12_town 199 = .ok (.aload_n 0, 1) := by decide +kernel
theorem dX12_town_200 : decode cX12_town 200 = .ok (.getfield 45, 3) := by decide +kernel
theorem dX12_town_203 : decode cX12_town 203 = .ok (.sipush 156, 3) := by decide +kernel
theorem dX12_town_206 : decode cX12_town 206 = .ok (.iload_n 2, 1) := by decide +kernel
theorem dX12_town_207 : decode cX12_town 207 = .ok (.iadd, 1) := by decide +kernel
theorem dX12_town_208 : decode cX12_town 208 = .ok (.aload_n 0, 1) := by decide +kernel
theorem dX12_town_209 : decode cX12_town 209 = .ok (.getfield 32, 3) := by decide +kernel
theorem dX12_town_212 : decode cX12_town 212 = .ok (.iload_n 2, 1) := by decide +kernel
theorem dX12_town_213 : decode cX12_town 213 = .ok (.iaload, 1) := by decide +kernel
theorem dX12_town_214 : decode cX12_town 214 = .ok (.iastore, 1) := by decide +kernel
theorem dX12_town_215 : decode cX12_town 215 = .ok (.iinc 2 1, 3) := by decide +kernel
theorem dX12_town_218 : decode cX12_town 218 = .ok (.goto (-29), 3) := by decide +kernel
theorem dX12_town_221 : decode cX12_town 221 = .ok (.aload_n 0, 1) := by decide +kernel
theorem dX12_town_222 : decode cX12_town 222 = .ok (.getfield 224, 3) := by decide +kernel
theorem dX12_town_225 : decode cX12_town 225 = .ok (.ireturn, 1) := by decide +kernel
theorem dX12_isRule_0 : decode cX12_isRule 0 = .ok (.iload_n 1, 1) := by decide +kernel
theorem dX12_isRule_1 : decode cX12_isRule 1 = .ok (.ifCond .lt 15, 3) := by decide +kernel
theorem dX12_isRule_4 : decode cX12_isRule 4 = .ok (.iload_n 1, 1) := by decide +kernel
theorem dX12_isRule_5 : decode cX12_isRule 5 = .ok (.aload_n 0, 1) := by decide +kernel
theorem dX12_isRule_6 : decode cX12_isRule 6 = .ok (.getfield 279, 3) := by decide +kernel
theorem dX12_isRule_9 : decode cX12_isRule 9 = .ok (.if_icmp .ge 7, 3) := by decide +kernel
theorem dX12_isRule_12 : decode cX12_isRule 12 = .ok (.iconst 1, 1) := by decide +kernel
theorem dX12_isRule_13 : decode cX12_isRule 13 = .ok (.goto 4, 3) := by decide +kernel
theorem dX12_isRule_16 : decode cX12_isRule 16 = .ok (.iconst 0, 1) := by decide +kernel
theorem dX12_isRule_17 : decode cX12_isRule 17 = .ok (.ireturn, 1) := by decide +kernel
theorem dX12_isTown_0 : decode cX12_isTown 0 = .ok (.aload_n 0, 1) := by decide +kernel
theorem dX12_isTown_1 : decode cX12_isTown 1 = .ok (.getfield 45, 3) := by decide +kernel
theorem dX12_isTown_4 : decode cX12_isTown 4 = .ok (.iconst 0, 1) := by decide +kernel
theorem dX12_isTown_5 : decode cX12_isTown 5 = .ok (.iaload, 1) := by decide +kernel
theorem dX12_isTown_6 : decode cX12_isTown 6 = .ok (.ifCond .le 7, 3) := by decide +kernel
theorem dX12_isTown_9 : decode cX12_isTown 9 = .ok (.iconst 1, 1) := by decide +kernel
theorem dX12_isTown_10 : decode cX12_isTown 10 = .ok (.goto 4, 3) := by decide +kernel
theorem dX12_isTown_13 : decode cX12_isTown 13 = .ok (.iconst 0, 1) := by decide +kernel
theorem dX12_isTown_14 : decode cX12_isTown 14 = .ok (.ireturn, 1) := by decide +kernel
theorem dX12_isCorner_0 : decode cX12_isCorner 0 = .ok (.iload_n 1, 1) := by decide +kernel
theorem dX12_isCorner_1 : decode cX12_isCorner 1 = .ok (.ifCond .lt 17, 3) := by decide +kernel
theorem dX12_isCorner_4 : decode cX12_isCorner 4 = .ok (.iload_n 1, 1) := by decide +kernel
theorem dX12_isCorner_5 : decode cX12_isCorner 5 = .ok (.aload_n 0, 1) := by decide +kernel
theorem dX12_isCorner_6 : decode cX12_isCorner 6 = .ok (.getfield 45, 3) := by decide +kernel
theorem dX12_isCorner_9 : decode cX12_isCorner 9 = .ok (.iconst 0, 1) := by decide +kernel
theorem dX12_isCorner_10 : decode cX12_isCorner 10 = .ok (.iaload, 1) := by decide +kernel
theorem dX12_isCorner_11 : decode cX12_isCorner 11 = .ok (.if_icmp .ge 7, 3) := by decide +kernel
theorem dX12_isCorner_14 : decode cX12_isCorner 14 = .ok (.iconst 1, 1) := by decide +kernel
theorem dX12_isCorner_15 : decode cX12_isCorner 15 = .ok (.goto 4, 3) := by decide +kernel
theorem dX12_isCorner_18 : decode cX12_isCorner 18 = .ok (.iconst 0, 1) := by decide +kernel
theorem dX12_isCorner_19 : decode cX12_isCorner 19 = .ok (.ireturn, 1) := by decide +kernel
theorem dX12_isStreet_0 : decode cX12_isStreet 0 = .ok (.iload_n 1, 1) := by decide +kernel
theorem dX12_isStreet_1 : decode cX12_isStreet 1 = .ok (.ifCond .lt 17, 3) := by decide +kernel
theorem dX12_isStreet_4 : decode cX12_isStreet 4 = .ok (.iload_n 1, 1) := by decide +kernel
theorem dX12_isStreet_5 : decode cX12_isStreet 5 = .ok (.aload_n 0, 1) := by decide +kernel
theorem dX12_isStreet_6 : decode cX12_isStreet 6 = .ok (.getfield 45, 3) := by decide +kernel
theorem dX12_isStreet_9 : decode cX12_isStreet 9 = .ok (.iconst 1, 1) := by decide +kernel
theorem dX12_isStreet_10 : decode cX12_isStreet 10 = .ok (.iaload, 1) := by decide +kernel
theorem dX12_isStreet_11 : decode cX12_isStreet 11 = .ok (.if_icmp .ge 7, 3) := by decide +kernel
theorem dX12_isStreet_14 : decode cX12_isStreet 14 = .ok (.iconst 1, 1) := by decide +kernel
theorem dX12_isStreet_15 : decode cX12_isStreet 15 = .ok (.goto 4, 3) := by decide +kernel
theorem dX12_isStreet_18 : decode cX12_isStreet 18 = .ok (.iconst 0, 1) := by decide +kernel
theorem dX12_isStreet_19 : decode cX12_isStreet 19 = .ok (.ireturn, 1) := by decide +kernel
theorem dX12_isMap_0 : decode cX12_isMap 0 = .ok (.iload_n 1, 1) := by decide +kernel
theorem dX12_isMap_1 : decode cX12_isMap 1 = .ok (.ifCond .lt 17, 3) := by decide +kernel
theorem dX12_isMap_4 : decode cX12_isMap 4 = .ok (.iload_n 1, 1) := by decide +kernel
theorem dX12_isMap_5 : decode cX12_isMap 5 = .ok (.aload_n 0, 1) := by decide +kernel
theorem dX12_isMap_6 : decode cX12_isMap 6 = .ok (.getfield 45, 3) := by decide +kernel
theorem dX12_isMap_9 : decode cX12_isMap 9 = .ok (.iconst 4, 1) := by decide +kernel
theorem dX12_isMap_10 : decode cX12_isMap 10 = .ok (.iaload, 1) := by decide +kernel
theorem dX12_isMap_11 : decode cX12_isMap 11 = .ok (.if_icmp .ge 7, 3) := by decide +kernel
theorem dX12_isMap_14 : decode cX12_isMap 14 = .ok (.iconst 1, 1) := by decide +kernel
theorem dX12_isMap_15 : decode cX12_isMap 15 = .ok (.goto 4, 3) := by decide +kernel
theorem dX12_isMap_18 : decode cX12_isMap 18 = .ok (.iconst 0, 1) := by decide +kernel
theorem dX12_isMap_19 : decode cX12_isMap 19 = .ok (.ireturn, 1) := by decide +kernel
theorem dX12_isWalker_0 : decode cX12_isWalker 0 = .ok (.iload_n 1, 1) := by decide +kernel
theorem dX12_isWalker_1 : decode cX12_isWalker 1 = .ok (.ifCond .lt 17, 3) := by decide +kernel
theorem dX12_isWalker_4 : decode cX12_isWalker 4 = .ok (.iload_n 1, 1) := by decide +kernel
theorem dX12_isWalker_5 : decode cX12_isWalker 5 = .ok (.aload_n 0, 1) := by decide +kernel
theorem dX12_isWalker_6 : decode cX12_isWalker 6 = .ok (.getfield 45, 3) := by decide +kernel
theorem dX12_isWalker_9 : decode cX12_isWalker 9 = .ok (.iconst 5, 1) := by decide +kernel
theorem dX12_isWalker_10 : decode cX12_isWalker 10 = .ok (.iaload, 1) := by decide +kernel
theorem dX12_isWalker_11 : decode cX12_isWalker 11 = .ok (.if_icmp .ge 7, 3) := by decide +kernel
theorem dX12_isWalker_14 : decode cX12_isWalker 14 = .ok (.iconst 1, 1) := by decide +kernel
theorem dX12_isWalker_15 : decode cX12_isWalker 15 = .ok (.goto 4, 3) := by decide +kernel
theorem dX12_isWalker_18 : decode cX12_isWalker 18 = .ok (.iconst 0, 1) := by decide +kernel
theorem dX12_isWalker_19 : decode cX12_isWalker 19 = .ok (.ireturn, 1) := by decide +kernel
theorem dX12_isHour_0 : decode cX12_isHour 0 = .ok (.iload_n 0, 1) := by decide +kernel
theorem dX12_isHour_1 : decode cX12_isHour 1 = .ok (.ifCond .lt 13, 3) := by decide +kernel
theorem dX12_isHour_4 : decode cX12_isHour 4 = .ok (.iload_n 0, 1) := by decide +kernel
theorem dX12_isHour_5 : decode cX12_isHour 5 = .ok (.ldc 166, 2) := by decide +kernel
theorem dX12_isHour_7 : decode cX12_isHour 7 = .ok (.if_icmp .gt 7, 3) := by decide +kernel
theorem dX12_isHour_10 : decode cX12_isHour 10 = .ok (.iconst 1, 1) := by decide +kernel
theorem dX12_isHour_11 : decode cX12_isHour 11 = .ok (.goto 4, 3) := by decide +kernel
theorem dX12_isHour_14 : decode cX12_isHour 14 = .ok (.iconst 0, 1) := by decide +kernel
theorem dX12_isHour_15 : decode cX12_isHour 15 = .ok (.ireturn, 1) := by decide +kernel
theorem dX12_streetOf_0 : decode cX12_streetOf 0 = .ok (.aload_n 0, 1) := by decide +kernel
theorem dX12_streetOf_1 : decode cX12_streetOf 1 = .ok (.getfield 45, 3) := by decide +kernel
theorem dX12_streetOf_4 : decode cX12_streetOf 4 = .ok (.bipush 10, 2) := by decide +kernel
theorem dX12_streetOf_6 : decode cX12_streetOf 6 = .ok (.bipush 10, 2) := by decide +kernel
theorem dX12_streetOf_8 : decode cX12_streetOf 8 = .ok (.iload_n 1, 1) := by decide +kernel
theorem dX12_streetOf_9 : decode cX12_streetOf 9 = .ok (.imul, 1) := by decide +kernel
theorem dX12_streetOf_10 : decode cX12_streetOf 10 = .ok (.iadd, 1) := by decide +kernel
theorem dX12_streetOf_11 : decode cX12_streetOf 11 = .ok (.iload_n 2, 1) := by decide +kernel
theorem dX12_streetOf_12 : decode cX12_streetOf 12 = .ok (.iadd, 1) := by decide +kernel
theorem dX12_streetOf_13 : decode cX12_streetOf 13 = .ok (.iaload, 1) := by decide +kernel
theorem dX12_streetOf_14 : decode cX12_streetOf 14 = .ok (.ireturn, 1) := by decide +kernel
theorem dX12_walkerOf_0 : decode cX12_walkerOf 0 = .ok (.aload_n 0, 1) := by decide +kernel
theorem dX12_walkerOf_1 : decode cX12_walkerOf 1 = .ok (.getfield 45, 3) := by decide +kernel
theorem dX12_walkerOf_4 : decode cX12_walkerOf 4 = .ok (.sipush 216, 3) := by decide +kernel
theorem dX12_walkerOf_7 : decode cX12_walkerOf 7 = .ok (.bipush 9, 2) := by decide +kernel
theorem dX12_walkerOf_9 : decode cX12_walkerOf 9 = .ok (.iload_n 1, 1) := by decide +kernel
theorem dX12_walkerOf_10 : decode cX12_walkerOf 10 = .ok (.imul, 1) := by decide +kernel
theorem dX12_walkerOf_11 : decode cX12_walkerOf 11 = .ok (.iadd, 1) := by decide +kernel
theorem dX12_walkerOf_12 : decode cX12_walkerOf 12 = .ok (.iload_n 2, 1) := by decide +kernel
theorem dX12_walkerOf_13 : decode cX12_walkerOf 13 = .ok (.iadd, 1) := by decide +kernel
theorem dX12_walkerOf_14 : decode cX12_walkerOf 14 = .ok (.iaload, 1) := by decide +kernel
theorem dX12_walkerOf_15 : decode cX12_walkerOf 15 = .ok (.ireturn, 1) := by decide +kernel
set_option maxRecDepth 20000 in
theorem ggX12_otherOf_X12_streetOf : GoodIn wsX12_otherOf wsX12_streetOf := goodIn_r _ [5, 6, 7, 8, 9, 10, 11, 12, 13, 14, 15, 16, 17, 18, 19, 20, 21, 22, 23, 24, 25, 26, 27, 28, 29, 30, 31, 32, 33, 34, 35, 36, 37, 38, 39, 40, 41, 42, 43, 44, 45, 46, 47, 48] (by decide +kernel) (by decide +kernel)
set_option maxRecDepth 20000 in
theorem gX12_otherOf_X12_streetOf : GoodIn wsX12_otherOf (wsV RX12 300 RX12 yX12_streetOf wsX12_streetOf) := goodIn_app (goodIn_of _ (by decide +kernel)) ggX12_otherOf_X12_streetOf
theorem dX12_otherOf_0 : decode cX12_otherOf 0 = .ok (.aload_n 0, 1) := by decide +kernel
theorem dX12_otherOf_1 : decode cX12_otherOf 1 = .ok (.iload_n 1, 1) := by decide +kernel
theorem dX12_otherOf_2 : decode cX12_otherOf 2 = .ok (.iconst 0, 1) := by decide +kernel
theorem dX12_otherOf_3 : decode cX12_otherOf 3 = .ok (.invokevirtual 300, 3) := by decide +kernel
theorem dX12_otherOf_6 : decode cX12_otherOf 6 = .ok (.iload_n 2, 1) := by decide +kernel
theorem dX12_otherOf_7 : decode cX12_otherOf 7 = .ok (.if_icmp .ne 12, 3) := by decide +kernel
theorem dX12_otherOf_10 : decode cX12_otherOf 10 = .ok (.aload_n 0, 1) := by decide +kernel
theorem dX12_otherOf_11 : decode cX12_otherOf 11 = .ok (.iload_n 1, 1) := by decide +kernel
theorem dX12_otherOf_12 : decode cX12_otherOf 12 = .ok (.iconst 1, 1) := by decide +kernel
theorem dX12_otherOf_13 : decode cX12_otherOf 13 = .ok (.invokevirtual 300, 3) := by decide +kernel
theorem dX12_otherOf_16 : decode cX12_otherOf 16 = .ok (.goto 9, 3) := by decide +kernel
theorem dX12_otherOf_19 : decode cX12_otherOf 19 = .ok (.aload_n 0, 1) := by decide +kernel
theorem dX12_otherOf_20 : decode cX12_otherOf 20 = .ok (.iload_n 1, 1) := by decide +kernel
theorem dX12_otherOf_21 : decode cX12_otherOf 21 = .ok (.iconst 0, 1) := by decide +kernel
theorem dX12_otherOf_22 : decode cX12_otherOf 22 = .ok (.invokevirtual 300, 3) := by decide +kernel
theorem dX12_otherOf_25 : decode cX12_otherOf 25 = .ok (.ireturn, 1) := by decide +kernel
set_option maxRecDepth 20000 in
theorem ggX12_isAt_X12_streetOf : GoodIn wsX12_isAt wsX12_streetOf := goodIn_r _ [5, 6, 7, 8, 9, 10, 11, 12, 13, 14, 15, 16, 17, 18, 19, 20, 21, 22, 23, 24, 25, 26, 27, 28, 29, 30, 31, 32, 33, 34, 35, 36, 37, 38, 39, 40, 41, 42, 43, 44, 45, 46, 47, 48] (by decide +kernel) (by decide +kernel)
set_option maxRecDepth 20000 in
theorem gX12_isAt_X12_streetOf : GoodIn wsX12_isAt (wsV RX12 300 RX12 yX12_streetOf wsX12_streetOf) := goodIn_app (goodIn_of _ (by decide +kernel)) ggX12_isAt_X12_streetOf
theorem dX12_isAt_0 : decode cX12_isAt 0 = .ok (.aload_n 0, 1) := by decide +kernel
theorem dX12_isAt_1 : decode cX12_isAt 1 = .ok (.iload_n 1, 1) := by decide +kernel
theorem dX12_isAt_2 : decode cX12_isAt 2 = .ok (.iconst 0, 1) := by decide +kernel
theorem dX12_isAt_3 : decode cX12_isAt 3 = .ok (.invokevirtual 300, 3) := by decide +kernel
theorem dX12_isAt_6 : decode cX12_isAt 6 = .ok (.iload_n 2, 1) := by decide +kernel
theorem dX12_isAt_7 : decode cX12_isAt 7 = .ok (.if_icmp .eq 13, 3) := by decide +kernel
theorem dX12_isAt_10 : decode cX12_isAt 10 = .ok (.aload_n 0, 1) := by decide +kernel
theorem dX12_isAt_11 : decode cX12_isAt 11 = .ok (.iload_n 1, 1) := by decide +kernel
theorem dX12_isAt_12 : decode cX12_isAt 12 = .ok (.iconst 1, 1) := by decide +kernel
theorem dX12_isAt_13 : decode cX12_isAt 13 = .ok (.invokevirtual 300, 3) := by decide +kernel
theorem dX12_isAt_16 : decode cX12_isAt 16 = .ok (.iload_n 2, 1) := by decide +kernel
theorem dX12_isAt_17 : decode cX12_isAt 17 = .ok (.if_icmp .ne 7, 3) := by decide +kernel
theorem dX12_isAt_20 : decode cX12_isAt 20 = .ok (.iconst 1, 1) := by decide +kernel
theorem dX12_isAt_21 : decode cX12_isAt 21 = .ok (.goto 4, 3) := by decide +kernel
theorem dX12_isAt_24 : decode cX12_isAt 24 = .ok (.iconst 0, 1) := by decide +kernel
theorem dX12_isAt_25 : decode cX12_isAt 25 = .ok (.ireturn, 1) := by decide +kernel
set_option maxRecDepth 20000 in
theorem ggX12_hasSign_X12_streetOf : GoodIn wsX12_hasSign wsX12_streetOf := goodIn_r _ [5, 6, 10, 11, 12, 13, 14, 15, 16, 17, 18, 19, 20, 21, 22, 23, 24, 25, 26, 27, 28, 29, 30, 31, 32, 33, 34, 35, 36, 37, 38, 39, 40, 41, 42, 43, 44, 45, 46, 47, 48, 49, 50, 51] (by decide +kernel) (by decide +kernel)
set_option maxRecDepth 20000 in
theorem gX12_hasSign_X12_streetOf : GoodIn wsX12_hasSign (wsV RX12 300 RX12 yX12_streetOf wsX12_streetOf) := goodIn_app (goodIn_of _ (by decide +kernel)) ggX12_hasSign_X12_streetOf
set_option maxRecDepth 20000 in
theorem ggX12_hasSign_X12_isOf : GoodIn wsX12_hasSign wsX12_isOf := goodIn_r _ [9] (by decide +kernel) (by decide +kernel)
set_option maxRecDepth 20000 in
theorem gX12_hasSign_X12_isOf : GoodIn wsX12_hasSign (va_wsS RX12 304 yX12_isOf wsX12_isOf) := goodIn_app (goodIn_of _ (by decide +kernel)) ggX12_hasSign_X12_isOf
theorem dX12_hasSign_0 : decode cX12_hasSign 0 = .ok (.iload_n 1, 1) := by decide +kernel
theorem dX12_hasSign_1 : decode cX12_hasSign 1 = .ok (.aload_n 0, 1) := by decide +kernel
theorem dX12_hasSign_2 : decode cX12_hasSign 2 = .ok (.iload_n 2, 1) := by decide +kernel
theorem dX12_hasSign_3 : decode cX12_hasSign 3 = .ok (.iconst 0, 1) := by decide +kernel
theorem dX12_hasSign_4 : decode cX12_hasSign 4 = .ok (.invokevirtual 300, 3) := by decide +kernel
theorem dX12_hasSign_7 : decode cX12_hasSign 7 = .ok (.iload_n 3, 1) := by decide +kernel
theorem dX12_hasSign_8 : decode cX12_hasSign 8 = .ok (.if_icmp .ne 7, 3) := by decide +kernel
theorem dX12_hasSign_11 : decode cX12_hasSign 11 = .ok (.iconst 0, 1) := by decide +kernel
theorem dX12_hasSign_12 : decode cX12_hasSign 12 = .ok (.goto 4, 3) := by decide +kernel
theorem dX12_hasSign_15 : decode cX12_hasSign 15 = .ok (.iconst 1, 1) := by decide +kernel
theorem dX12_hasSign_16 : decode cX12_hasSign 16 = .ok (.invokestatic 304, 3) := by decide +kernel
theorem dX12_hasSign_19 : decode cX12_hasSign 19 = .ok (.ireturn, 1) := by decide +kernel
theorem dX12_isClosed_0 : decode cX12_isClosed 0 = .ok (.iconst 0, 1) := by decide +kernel
theorem dX12_isClosed_1 : decode cX12_isClosed 1 = .ok (.istore_n 3, 1) := by decide +kernel
theorem dX12_isClosed_2 : decode cX12_isClosed 2 = .ok (.iload_n 3, 1) := by decide +kernel
theorem dX12_isClosed_3 : decode cX12_isClosed 3 = .ok (.aload_n 0, 1) := by decide +kernel
theorem dX12_isClosed_4 : decode cX12_isClosed 4 = .ok (.getfield 45, 3) := by decide +kernel
theorem dX12_isClosed_7 : decode cX12_isClosed 7 = .ok (.iconst 2, 1) := by decide +kernel
theorem dX12_isClosed_8 : decode cX12_isClosed 8 = .ok (.iaload, 1) := by decide +kernel
theorem dX12_isClosed_9 : decode cX12_isClosed 9 = .ok (.if_icmp .ge 52, 3) := by decide +kernel
theorem dX12_isClosed_12 : decode cX12_isClosed 12 = .ok (.aload_n 0, 1) := by decide +kernel
theorem dX12_isClosed_13 : decode cX12_isClosed 13 = .ok (.getfield 48, 3) := by decide +kernel
theorem dX12_isClosed_16 : decode cX12_isClosed 16 = .ok (.ifCond .eq 45, 3) := by decide +kernel
theorem dX12_isClosed_19 : decode cX12_isClosed 19 = .ok (.aload_n 0, 1) := by decide +kernel
theorem dX12_isClosed_20 : decode cX12_isClosed 20 = .ok (.getfield 45, 3) := by decide +kernel
theorem dX12_isClosed_23 : decode cX12_isClosed 23 = .ok (.sipush 140, 3) := by decide +kernel
theorem dX12_isClosed_26 : decode cX12_isClosed 26 = .ok (.iconst 2, 1) := by decide +kernel
theorem dX12_isClosed_27 : decode cX12_isClosed 27 = .ok (.iload_n 3, 1) := by decide +kernel
theorem dX12_isClosed_28 : decode cX12_isClosed 28 = .ok (.imul, 1) := by decide +kernel
theorem dX12_isClosed_29 : decode cX12_isClosed 29 = .ok (.iadd, 1) := by decide +kernel
theorem dX12_isClosed_30 : decode cX12_isClosed 30 = .ok (.iaload, 1) := by decide +kernel
theorem dX12_isClosed_31 : decode cX12_isClosed 31 = .ok (.iload_n 1, 1) := by decide +kernel
theorem dX12_isClosed_32 : decode cX12_isClosed 32 = .ok (.if_icmp .ne 23, 3) := by decide +kernel
theorem dX12_isClosed_35 : decode cX12_isClosed 35 = .ok (.aload_n 0, 1) := by decide +kernel
theorem dX12_isClosed_36 : decode cX12_isClosed 36 = .ok (.getfield 45, 3) := by decide +kernel
theorem dX12_isClosed_39 : decode cX12_isClosed 39 = .ok (.sipush 140, 3) := by decide +kernel
theorem dX12_isClosed_42 : decode cX12_isClosed 42 = .ok (.iconst 2, 1) := by decide +kernel
theorem dX12_isClosed_43 : decode cX12_isClosed 43 = .ok (.iload_n 3, 1) := by decide +kernel
theorem dX12_isClosed_44 : decode cX12_isClosed 44 = .ok (.imul, 1) := by decide +kernel
theorem dX12_isClosed_45 : decode cX12_isClosed 45 = .ok (.iadd, 1) := by decide +kernel
theorem dX12_isClosed_46 : decode cX12_isClosed 46 = .ok (.iconst 1, 1) := by decide +kernel
theorem dX12_isClosed_47 : decode cX12_isClosed 47 = .ok (.iadd, 1) := by decide +kernel
theorem dX12_isClosed_48 : decode cX12_isClosed 48 = .ok (.iaload, 1) := by decide +kernel
theorem dX12_isClosed_49 : decode cX12_isClosed 49 = .ok (.iload_n 2, 1) := by decide +kernel
theorem dX12_isClosed_50 : decode cX12_isClosed 50 = .ok (.if_icmp .ne 5, 3) := by decide +kernel
theorem dX12_isClosed_53 : decode cX12_isClosed 53 = .ok (.iconst 1, 1) := by decide +kernel
theorem dX12_isClosed_54 : decode cX12_isClosed 54 = .ok (.ireturn, 1) := by decide +kernel
theorem dX12_isClosed_55 : decode cX12_isClosed 55 = .ok (.iinc 3 1, 3) := by decide +kernel
theorem dX12_isClosed_58 : decode cX12_isClosed 58 = .ok (.goto (-56), 3) := by decide +kernel
theorem dX12_isClosed_61 : decode cX12_isClosed 61 = .ok (.iconst 0, 1) := by decide +kernel
theorem dX12_isClosed_62 : decode cX12_isClosed 62 = .ok (.ireturn, 1) := by decide +kernel
set_option maxRecDepth 20000 in
theorem ggX12_isDayFor_X12_streetOf : GoodIn wsX12_isDayFor wsX12_streetOf := goodIn_r _ [5, 6, 19, 20, 21, 22, 23, 24, 25, 26, 27, 28, 29, 30, 31, 32, 33, 34, 35, 36, 37, 38, 39, 40, 41, 42, 43, 44, 45, 46, 47, 48, 49, 50, 51, 52, 53, 54, 55, 56, 57, 58, 59, 60] (by decide +kernel) (by decide +kernel)
set_option maxRecDepth 20000 in
theorem gX12_isDayFor_X12_streetOf : GoodIn wsX12_isDayFor (wsV RX12 300 RX12 yX12_streetOf wsX12_streetOf) := goodIn_app (goodIn_of _ (by decide +kernel)) ggX12_isDayFor_X12_streetOf
set_option maxRecDepth 20000 in
theorem ggX12_isDayFor_X12_hasSign : GoodIn wsX12_isDayFor wsX12_hasSign := goodIn_r _ [10, 1, 2, 3, 4, 5, 6, 11, 12, 13, 19, 20, 21, 22, 23, 24, 25, 26, 27, 28, 29, 30, 31, 32, 33, 34, 35, 36, 37, 38, 39, 40, 41, 42, 43, 44, 45, 46, 47, 48, 49, 50, 51, 52, 53, 54, 55, 56, 57, 58, 59, 60] (by decide +kernel) (by decide +kernel)
set_option maxRecDepth 20000 in
theorem gX12_isDayFor_X12_hasSign : GoodIn wsX12_isDayFor (wsV RX12 307 RX12 yX12_hasSign wsX12_hasSign) := goodIn_app (goodIn_of _ (by decide +kernel)) ggX12_isDayFor_X12_hasSign
set_option maxRecDepth 20000 in
theorem ggX12_isDayFor_X12_isClosed : GoodIn wsX12_isDayFor wsX12_isClosed := goodIn_r _ [17, 6, 18, 19, 20, 21, 22, 23, 24, 25, 26, 27, 28, 29, 30, 31, 32, 33, 34, 35, 36, 37, 38, 39, 40, 41, 42, 43, 44, 45, 46, 47, 48, 49, 50, 51, 52, 53, 54, 55, 56, 57, 58, 59, 60] (by decide +kernel) (by decide +kernel)
set_option maxRecDepth 20000 in
theorem gX12_isDayFor_X12_isClosed : GoodIn wsX12_isDayFor (wsV RX12 311 RX12 yX12_isClosed wsX12_isClosed) := goodIn_app (goodIn_of _ (by decide +kernel)) ggX12_isDayFor_X12_isClosed
theorem dX12_isDayFor_0 : decode cX12_isDayFor 0 = .ok (.aload_n 0, 1) := by decide +kernel
theorem dX12_isDayFor_1 : decode cX12_isDayFor 1 = .ok (.aload_n 0, 1) := by decide +kernel
theorem dX12_isDayFor_2 : decode cX12_isDayFor 2 = .ok (.iload_n 1, 1) := by decide +kernel
theorem dX12_isDayFor_3 : decode cX12_isDayFor 3 = .ok (.iconst 3, 1) := by decide +kernel
theorem dX12_isDayFor_4 : decode cX12_isDayFor 4 = .ok (.iload_n 3, 1) := by decide +kernel
theorem dX12_isDayFor_5 : decode cX12_isDayFor 5 = .ok (.bipush 7, 2) := by decide +kernel
theorem dX12_isDayFor_7 : decode cX12_isDayFor 7 = .ok (.irem, 1) := by decide +kernel
theorem dX12_isDayFor_8 : decode cX12_isDayFor 8 = .ok (.iadd, 1) := by decide +kernel
theorem dX12_isDayFor_9 : decode cX12_isDayFor 9 = .ok (.invokevirtual 300, 3) := by decide +kernel
theorem dX12_isDayFor_12 : decode cX12_isDayFor 12 = .ok (.iload_n 1, 1) := by decide +kernel
theorem dX12_isDayFor_13 : decode cX12_isDayFor 13 = .ok (.iload_n 2, 1) := by decide +kernel
theorem dX12_isDayFor_14 : decode cX12_isDayFor 14 = .ok (.invokevirtual 307, 3) := by decide +kernel
theorem dX12_isDayFor_17 : decode cX12_isDayFor 17 = .ok (.ifCond .ne 5, 3) := by decide +kernel
theorem dX12_isDayFor_20 : decode cX12_isDayFor 20 = .ok (.iconst 0, 1) := by decide +kernel
theorem dX12_isDayFor_21 : decode cX12_isDayFor 21 = .ok (.ireturn, 1) := by decide +kernel
theorem dX12_isDayFor_22 : decode cX12_isDayFor 22 = .ok (.aload_n 0, 1) := by decide +kernel
theorem dX12_isDayFor_23 : decode cX12_isDayFor 23 = .ok (.aload_n 0, 1) := by decide +kernel
theorem dX12_isDayFor_24 : decode cX12_isDayFor 24 = .ok (.iload_n 1, 1) := by decide +kernel
theorem dX12_isDayFor_25 : decode cX12_isDayFor 25 = .ok (.iconst 0, 1) := by decide +kernel
theorem dX12_isDayFor_26 : decode cX12_isDayFor 26 = .ok (.invokevirtual 300, 3) := by decide +kernel
theorem dX12_isDayFor_29 : decode cX12_isDayFor 29 = .ok (.iload_n 3, 1) := by decide +kernel
theorem dX12_isDayFor_30 : decode cX12_isDayFor 30 = .ok (.sipush 360, 3) := by decide +kernel
theorem dX12_isDayFor_33 : decode cX12_isDayFor 33 = .ok (.irem, 1) := by decide +kernel
theorem dX12_isDayFor_34 : decode cX12_isDayFor 34 = .ok (.invokevirtual 311, 3) := by decide +kernel
theorem dX12_isDayFor_37 : decode cX12_isDayFor 37 = .ok (.ifCond .ne 25, 3) := by decide +kernel
theorem dX12_isDayFor_40 : decode cX12_isDayFor 40 = .ok (.aload_n 0, 1) := by decide +kernel
theorem dX12_isDayFor_41 : decode cX12_isDayFor 41 = .ok (.aload_n 0, 1) := by decide +kernel
theorem dX12_isDayFor_42 : decode cX12_isDayFor 42 = .ok (.iload_n 1, 1) := by decide +kernel
theorem dX12_isDayFor_43 : decode cX12_isDayFor 43 = .ok (.iconst 1, 1) := by decide +kernel
theorem dX12_isDayFor_44 : decode cX12_isDayFor 44 = .ok (.invokevirtual 300, 3) := by decide +kernel
theorem dX12_isDayFor_47 : decode cX12_isDayFor 47 = .ok (.iload_n 3, 1) := by decide +kernel
theorem dX12_isDayFor_48 : decode cX12_isDayFor 48 = .ok (.sipush 360, 3) := by decide +kernel
theorem dX12_isDayFor_51 : decode cX12_isDayFor 51 = .ok (.irem, 1) := by decide +kernel
theorem dX12_isDayFor_52 : decode cX12_isDayFor 52 = .ok (.invokevirtual 311, 3) := by decide +kernel
theorem dX12_isDayFor_55 : decode cX12_isDayFor 55 = .ok (.ifCond .ne 7, 3) := by decide +kernel
theorem dX12_isDayFor_58 : decode cX12_isDayFor 58 = .ok (.iconst 1, 1) := by decide +kernel
theorem dX12_isDayFor_59 : decode cX12_isDayFor 59 = .ok (.goto 4, 3) := by decide +kernel
theorem dX12_isDayFor_62 : decode cX12_isDayFor 62 = .ok (.iconst 0, 1) := by decide +kernel
theorem dX12_isDayFor_63 : decode cX12_isDayFor 63 = .ok (.ireturn, 1) := by decide +kernel
theorem dX12_isLifted_0 : decode cX12_isLifted 0 = .ok (.iconst 0, 1) := by decide +kernel
theorem dX12_isLifted_1 : decode cX12_isLifted 1 = .ok (.istore_n 3, 1) := by decide +kernel
theorem dX12_isLifted_2 : decode cX12_isLifted 2 = .ok (.iload_n 3, 1) := by decide +kernel
theorem dX12_isLifted_3 : decode cX12_isLifted 3 = .ok (.aload_n 0, 1) := by decide +kernel
theorem dX12_isLifted_4 : decode cX12_isLifted 4 = .ok (.getfield 45, 3) := by decide +kernel
theorem dX12_isLifted_7 : decode cX12_isLifted 7 = .ok (.iconst 3, 1) := by decide +kernel
theorem dX12_isLifted_8 : decode cX12_isLifted 8 = .ok (.iaload, 1) := by decide +kernel
theorem dX12_isLifted_9 : decode cX12_isLifted 9 = .ok (.if_icmp .ge 63, 3) := by decide +kernel
theorem dX12_isLifted_12 : decode cX12_isLifted 12 = .ok (.sipush 156, 3) := by decide +kernel
theorem dX12_isLifted_15 : decode cX12_isLifted 15 = .ok (.iconst 3, 1) := by decide +kernel
theorem dX12_isLifted_16 : decode cX12_isLifted 16 = .ok (.iload_n 3, 1) := by decide +kernel
theorem dX12_isLifted_17 : decode cX12_isLifted 17 = .ok (.imul, 1) := by decide +kernel
theorem dX12_isLifted_18 : decode cX12_isLifted 18 = .ok (.iadd, 1) := by decide +kernel
theorem dX12_isLifted_19 : decode cX12_isLifted 19 = .ok (.istore 4, 2) := by decide +kernel
theorem dX12_isLifted_21 : decode cX12_isLifted 21 = .ok (.aload_n 0, 1) := by decide +kernel
theorem dX12_isLifted_22 : decode cX12_isLifted 22 = .ok (.getfield 45, 3) := by decide +kernel
theorem dX12_isLifted_25 : decode cX12_isLifted 25 = .ok (.iload 4, 2) := by decide +kernel
theorem dX12_isLifted_27 : decode cX12_isLifted 27 = .ok (.iaload, 1) := by decide +kernel
theorem dX12_isLifted_28 : decode cX12_isLifted 28 = .ok (.iload_n 1, 1) := by decide +kernel
theorem dX12_isLifted_29 : decode cX12_isLifted 29 = .ok (.if_icmp .ne 37, 3) := by decide +kernel
theorem dX12_isLifted_32 : decode cX12_isLifted 32 = .ok (.iload_n 2, 1) := by decide +kernel
theorem dX12_isLifted_33 : decode cX12_isLifted 33 = .ok (.bipush 24, 2) := by decide +kernel
theorem dX12_isLifted_35 : decode cX12_isLifted 35 = .ok (.irem, 1) := by decide +kernel
theorem dX12_isLifted_36 : decode cX12_isLifted 36 = .ok (.aload_n 0, 1) := by decide +kernel
theorem dX12_isLifted_37 : decode cX12_isLifted 37 = .ok (.getfield 45, 3) := by decide +kernel
theorem dX12_isLifted_40 : decode cX12_isLifted 40 = .ok (.iload 4, 2) := by decide +kernel
theorem dX12_isLifted_42 : decode cX12_isLifted 42 = .ok (.iconst 1, 1) := by decide +kernel
theorem dX12_isLifted_43 : decode cX12_isLifted 43 = .ok (.iadd, 1) := by decide +kernel
theorem dX12_isLifted_44 : decode cX12_isLifted 44 = .ok (.iaload, 1) := by decide +kernel
theorem dX12_isLifted_45 : decode cX12_isLifted 45 = .ok (.if_icmp .lt 21, 3) := by decide +kernel
theorem dX12_isLifted_48 : decode cX12_isLifted 48 = .ok (.iload_n 2, 1) := by decide +kernel
theorem dX12_isLifted_49 : decode cX12_isLifted 49 = .ok (.bipush 24, 2) := by decide +kernel
theorem dX12_isLifted_51 : decode cX12_isLifted 51 = .ok (.irem, 1) := by decide +kernel
theorem dX12_isLifted_52 : decode cX12_isLifted 52 = .ok (.aload_n 0, 1) := by decide +kernel
theorem dX12_isLifted_53 : decode cX12_isLifted 53 = .ok (.getfield 45, 3) := by decide +kernel
theorem dX12_isLifted_56 : decode cX12_isLifted 56 = .ok (.iload 4, 2) := by decide +kernel
theorem dX12_isLifted_58 : decode cX12_isLifted 58 = .ok (.iconst 2, 1) := by decide +kernel
theorem dX12_isLifted_59 : decode cX12_isLifted 59 = .ok (.iadd, 1) := by decide +kernel
theorem dX12_isLifted_60 : decode cX12_isLifted 60 = .ok (.iaload, 1) := by decide +kernel
theorem dX12_isLifted_61 : decode cX12_isLifted 61 = .ok (.if_icmp .ge 5, 3) := by decide +kernel
theorem dX12_isLifted_64 : decode cX12_isLifted 64 = .ok (.iconst 1, 1) := by decide +kernel
theorem dX12_isLifted_65 : decode cX12_isLifted 65 = .ok (.ireturn, 1) := by decide +kernel
theorem dX12_isLifted_66 : decode cX12_isLifted 66 = .ok (.iinc 3 1, 3) := by decide +kernel
theorem dX12_isLifted_69 : decode cX12_isLifted 69 = .ok (.goto (-67), 3) := by decide +kernel
theorem dX12_isLifted_72 : decode cX12_isLifted 72 = .ok (.iconst 0, 1) := by decide +kernel
theorem dX12_isLifted_73 : decode cX12_isLifted 73 = .ok (.ireturn, 1) := by decide +kernel
set_option maxRecDepth 20000 in
theorem ggX12_isOpen_X12_isAt : GoodIn wsX12_isOpen wsX12_isAt := goodIn_r _ [5, 6, 7, 8, 4, 9, 10, 31, 32, 33, 34, 35, 36, 37, 38, 39, 40, 41, 42, 43, 44, 45, 46, 47, 48, 49, 50, 51, 52, 53, 54, 55, 56, 57, 58, 59, 60, 61, 62, 63, 64, 65, 66, 67, 68, 69, 70, 71, 72] (by decide +kernel) (by decide +kernel)
set_option maxRecDepth 20000 in
theorem gX12_isOpen_X12_isAt : GoodIn wsX12_isOpen (wsV RX12 314 RX12 yX12_isAt wsX12_isAt) := goodIn_app (goodIn_of _ (by decide +kernel)) ggX12_isOpen_X12_isAt
set_option maxRecDepth 20000 in
theorem ggX12_isOpen_X12_isDayFor : GoodIn wsX12_isOpen wsX12_isDayFor := goodIn_r _ [14, 6, 7, 8, 4, 9, 10, 15, 16, 17, 18, 19, 20, 21, 22, 23, 24, 25, 26, 31, 32, 33, 34, 35, 36, 37, 38, 39, 40, 41, 42, 43, 44, 45, 46, 47, 48, 49, 50, 51, 52, 53, 54, 55, 56, 57, 58, 59, 60, 61, 62, 63, 64, 65, 66, 67, 68, 69, 70, 71, 72] (by decide +kernel) (by decide +kernel)
set_option maxRecDepth 20000 in
theorem gX12_isOpen_X12_isDayFor : GoodIn wsX12_isOpen (wsV RX12 317 RX12 yX12_isDayFor wsX12_isDayFor) := goodIn_app (goodIn_of _ (by decide +kernel)) ggX12_isOpen_X12_isDayFor
set_option maxRecDepth 20000 in
theorem ggX12_isOpen_X12_isLifted : GoodIn wsX12_isOpen wsX12_isLifted := goodIn_r _ [30, 10, 31, 32, 33, 34, 35, 36, 37, 38, 39, 40, 41, 42, 43, 44, 45, 46, 47, 48, 49, 50, 51, 52, 53, 54, 55, 56, 57, 58, 59, 60, 61, 62, 63, 64, 65, 66, 67, 68, 69, 70, 71, 72] (by decide +kernel) (by decide +kernel)
set_option maxRecDepth 20000 in
theorem gX12_isOpen_X12_isLifted : GoodIn wsX12_isOpen (wsV RX12 320 RX12 yX12_isLifted wsX12_isLifted) := goodIn_app (goodIn_of _ (by decide +kernel)) ggX12_isOpen_X12_isLifted
theorem dX12_isOpen_0 : decode cX12_isOpen 0 = .ok (.aload_n 0, 1) := by decide +kernel
theorem dX12_isOpen_1 : decode cX12_isOpen 1 = .ok (.iload_n 1, 1) := by decide +kernel
theorem dX12_isOpen_2 : decode cX12_isOpen 2 = .ok (.iload_n 2, 1) := by decide +kernel
theorem dX12_isOpen_3 : decode cX12_isOpen 3 = .ok (.invokevirtual 314, 3) := by decide +kernel
theorem dX12_isOpen_6 : decode cX12_isOpen 6 = .ok (.ifCond .eq 29, 3) := by decide +kernel
theorem dX12_isOpen_9 : decode cX12_isOpen 9 = .ok (.aload_n 0, 1) := by decide +kernel
theorem dX12_isOpen_10 : decode cX12_isOpen 10 = .ok (.iload_n 1, 1) := by decide +kernel
theorem dX12_isOpen_11 : decode cX12_isOpen 11 = .ok (.iload_n 2, 1) := by decide +kernel
theorem dX12_isOpen_12 : decode cX12_isOpen 12 = .ok (.iload_n 3, 1) := by decide +kernel
theorem dX12_isOpen_13 : decode cX12_isOpen 13 = .ok (.bipush 24, 2) := by decide +kernel
theorem dX12_isOpen_15 : decode cX12_isOpen 15 = .ok (.idiv, 1) := by decide +kernel
theorem dX12_isOpen_16 : decode cX12_isOpen 16 = .ok (.invokevirtual 317, 3) := by decide +kernel
theorem dX12_isOpen_19 : decode cX12_isOpen 19 = .ok (.ifCond .eq 16, 3) := by decide +kernel
theorem dX12_isOpen_22 : decode cX12_isOpen 22 = .ok (.aload_n 0, 1) := by decide +kernel
theorem dX12_isOpen_23 : decode cX12_isOpen 23 = .ok (.iload_n 1, 1) := by decide +kernel
theorem dX12_isOpen_24 : decode cX12_isOpen 24 = .ok (.iload_n 3, 1) := by decide +kernel
theorem dX12_isOpen_25 : decode cX12_isOpen 25 = .ok (.invokevirtual 320, 3) := by decide +kernel
theorem dX12_isOpen_28 : decode cX12_isOpen 28 = .ok (.ifCond .ne 7, 3) := by decide +kernel
theorem dX12_isOpen_31 : decode cX12_isOpen 31 = .ok (.iconst 1, 1) := by decide +kernel
theorem dX12_isOpen_32 : decode cX12_isOpen 32 = .ok (.goto 4, 3) := by decide +kernel
theorem dX12_isOpen_35 : decode cX12_isOpen 35 = .ok (.iconst 0, 1) := by decide +kernel
theorem dX12_isOpen_36 : decode cX12_isOpen 36 = .ok (.ireturn, 1) := by decide +kernel
set_option maxRecDepth 20000 in
theorem ggX12_street_X12_isStreet : GoodIn wsX12_street wsX12_isStreet := goodIn_r _ [6, 7, 15, 16, 17, 18, 19, 20, 21, 22, 23, 24, 25, 26, 27, 28, 29, 30, 31, 32, 33, 34, 35, 36, 37, 38, 39, 40, 41, 42, 43, 44, 45, 46, 47, 48, 49, 50, 51, 52, 53, 54, 55, 56] (by decide +kernel) (by decide +kernel)
set_option maxRecDepth 20000 in
theorem gX12_street_X12_isStreet : GoodIn wsX12_street (wsV RX12 323 RX12 yX12_isStreet wsX12_isStreet) := goodIn_app (goodIn_of _ (by decide +kernel)) ggX12_street_X12_isStreet
set_option maxRecDepth 20000 in
theorem ggX12_street_X12_in : GoodIn wsX12_street wsX12_in := goodIn_r _ [10] (by decide +kernel) (by decide +kernel)
set_option maxRecDepth 20000 in
theorem gX12_street_X12_in : GoodIn wsX12_street (va_wsS RX12 122 yX12_in wsX12_in) := goodIn_app (goodIn_of _ (by decide +kernel)) ggX12_street_X12_in
set_option maxRecDepth 20000 in
theorem ggX12_street_X12_streetOf : GoodIn wsX12_street wsX12_streetOf := goodIn_r _ [14, 7, 15, 16, 17, 18, 19, 20, 21, 22, 23, 24, 25, 26, 27, 28, 29, 30, 31, 32, 33, 34, 35, 36, 37, 38, 39, 40, 41, 42, 43, 44, 45, 46, 47, 48, 49, 50, 51, 52, 53, 54, 55, 56] (by decide +kernel) (by decide +kernel)
set_option maxRecDepth 20000 in
theorem gX12_street_X12_streetOf : GoodIn wsX12_street (wsV RX12 300 RX12 yX12_streetOf wsX12_streetOf) := goodIn_app (goodIn_of _ (by decide +kernel)) ggX12_street_X12_streetOf
theorem dX12_street_0 : decode cX12_street 0 = .ok (.aload_n 0, 1) := by decide +kernel
theorem dX12_street_1 : decode cX12_street 1 = .ok (.iload_n 1, 1) := by decide +kernel
theorem dX12_street_2 : decode cX12_street 2 = .ok (.invokevirtual 323, 3) := by decide +kernel
theorem dX12_street_5 : decode cX12_street 5 = .ok (.ifCond .eq 24, 3) := by decide +kernel
theorem dX12_street_8 : decode cX12_street 8 = .ok (.iload_n 2, 1) := by decide +kernel
theorem dX12_street_9 : decode cX12_street 9 = .ok (.i2l, 1) := by decide +kernel
theorem dX12_street_10 : decode cX12_street 10 = .ok (.lconst 0, 1) := by decide +kernel
theorem dX12_street_11 : decode cX12_street 11 = .ok (.ldc2_w 326, 3) := by decide +kernel
theorem dX12_street_14 : decode cX12_street 14 = .ok (.invokestatic 122, 3) := by decide +kernel
theorem dX12_street_17 : decode cX12_street 17 = .ok (.ifCond .eq 12, 3) := by decide +kernel
theorem dX12_street_20 : decode cX12_street 20 = .ok (.aload_n 0, 1) := by decide +kernel
theorem dX12_street_21 : decode cX12_street 21 = .ok (.iload_n 1, 1) := by decide +kernel
theorem dX12_street_22 : decode cX12_street 22 = .ok (.iload_n 2, 1) := by decide +kernel
theorem dX12_street_23 : decode cX12_street 23 = .ok (.invokevirtual 300, 3) := by decide +kernel
theorem dX12_street_26 : decode cX12_street 26 = .ok (.goto 4, 3) := by decide +kernel
theorem dX12_street_29 : decode cX12_street 29 = .ok (.iconst (-1), 1) := by decide +kernel
theorem dX12_street_30 : decode cX12_street 30 = .ok (.ireturn, 1) := by decide +kernel
set_option maxRecDepth 20000 in
theorem ggX12_open_X12_isStreet : GoodIn wsX12_open wsX12_isStreet := goodIn_r _ [5, 6, 47, 48, 49, 50, 51, 52, 53, 54, 55, 56, 57, 58, 59, 60, 61, 62, 63, 64, 65, 66, 67, 68, 69, 70, 71, 72, 73, 74, 75, 76, 77, 78, 79, 80, 81, 82, 83, 84, 85, 86, 87, 88] (by decide +kernel) (by decide +kernel)
set_option maxRecDepth 20000 in
theorem gX12_open_X12_isStreet : GoodIn wsX12_open (wsV RX12 323 RX12 yX12_isStreet wsX12_isStreet) := goodIn_app (goodIn_of _ (by decide +kernel)) ggX12_open_X12_isStreet
set_option maxRecDepth 20000 in
theorem ggX12_open_X12_isCorner : GoodIn wsX12_open wsX12_isCorner := goodIn_r _ [10, 6, 47, 48, 49, 50, 51, 52, 53, 54, 55, 56, 57, 58, 59, 60, 61, 62, 63, 64, 65, 66, 67, 68, 69, 70, 71, 72, 73, 74, 75, 76, 77, 78, 79, 80, 81, 82, 83, 84, 85, 86, 87, 88] (by decide +kernel) (by decide +kernel)
set_option maxRecDepth 20000 in
theorem gX12_open_X12_isCorner : GoodIn wsX12_open (wsV RX12 328 RX12 yX12_isCorner wsX12_isCorner) := goodIn_app (goodIn_of _ (by decide +kernel)) ggX12_open_X12_isCorner
set_option maxRecDepth 20000 in
theorem ggX12_open_X12_isAt : GoodIn wsX12_open wsX12_isAt := goodIn_r _ [14, 15, 16, 17, 4, 18, 6, 47, 48, 49, 50, 51, 52, 53, 54, 55, 56, 57, 58, 59, 60, 61, 62, 63, 64, 65, 66, 67, 68, 69, 70, 71, 72, 73, 74, 75, 76, 77, 78, 79, 80, 81, 82, 83, 84, 85, 86, 87, 88] (by decide +kernel) (by decide +kernel)
