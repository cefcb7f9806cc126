theorem dX6_hasRoom_0 : decode cX6_hasRoom 0 = .ok (.aload_n 0, 1) := by decide +kernel
theorem dX6_hasRoom_1 : decode cX6_hasRoom 1 = .ok (.getfield 15, 3) := by decide +kernel
theorem dX6_hasRoom_4 : decode cX6_hasRoom 4 = .ok (.bipush 20, 2) := by decide +kernel
theorem dX6_hasRoom_6 : decode cX6_hasRoom 6 = .ok (.iadd, 1) := by decide +kernel
theorem dX6_hasRoom_7 : decode cX6_hasRoom 7 = .ok (.sipush 400, 3) := by decide +kernel
theorem dX6_hasRoom_10 : decode cX6_hasRoom 10 = .ok (.if_icmp .gt 7, 3) := by decide +kernel
theorem dX6_hasRoom_13 : decode cX6_hasRoom 13 = .ok (.iconst 1, 1) := by decide +kernel
theorem dX6_hasRoom_14 : decode cX6_hasRoom 14 = .ok (.goto 4, 3) := by decide +kernel
theorem dX6_hasRoom_17 : decode cX6_hasRoom 17 = .ok (.iconst 0, 1) := by decide +kernel
theorem dX6_hasRoom_18 : decode cX6_hasRoom 18 = .ok (.ireturn, 1) := by decide +kernel
theorem dX6_blame_0 : decode cX6_blame 0 = .ok (.aload_n 0, 1) := by decide +kernel
theorem dX6_blame_1 : decode cX6_blame 1 = .ok (.getfield 25, 3) := by decide +kernel
theorem dX6_blame_4 : decode cX6_blame 4 = .ok (.ifCond .ne 15, 3) := by decide +kernel
theorem dX6_blame_7 : decode cX6_blame 7 = .ok (.aload_n 0, 1) := by decide +kernel
theorem dX6_blame_8 : decode cX6_blame 8 = .ok (.iconst 1, 1) := by decide +kernel
theorem dX6_blame_9 : decode cX6_blame 9 = .ok (.bipush 8, 2) := by decide +kernel
theorem dX6_blame_11 : decode cX6_blame 11 = .ok (.iload_n 1, 1) := by decide +kernel
theorem dX6_blame_12 : decode cX6_blame 12 = .ok (.imul, 1) := by decide +kernel
theorem dX6_blame_13 : decode cX6_blame 13 = .ok (.iadd, 1) := by decide +kernel
theorem dX6_blame_14 : decode cX6_blame 14 = .ok (.iload_n 2, 1) := by decide +kernel
theorem dX6_blame_15 : decode cX6_blame 15 = .ok (.iadd, 1) := by decide +kernel
theorem dX6_blame_16 : decode cX6_blame 16 = .ok (.putfield 25, 3) := by decide +kernel
theorem dX6_blame_19 : decode cX6_blame 19 = .ok (.return_, 1) := by decide +kernel
theorem dX6_look_0 : decode cX6_look 0 = .ok (.aload_n 0, 1) := by decide +kernel
theorem dX6_look_1 : decode cX6_look 1 = .ok (.getfield 19, 3) := by decide +kernel
theorem dX6_look_4 : decode cX6_look 4 = .ok (.aload_n 0, 1) := by decide +kernel
theorem dX6_look_5 : decode cX6_look 5 = .ok (.getfield 15, 3) := by decide +kernel
theorem dX6_look_8 : decode cX6_look 8 = .ok (.if_icmp .ge 15, 3) := by decide +kernel
theorem dX6_look_11 : decode cX6_look 11 = .ok (.aload_n 0, 1) := by decide +kernel
theorem dX6_look_12 : decode cX6_look 12 = .ok (.getfield 9, 3) := by decide +kernel
theorem dX6_look_15 : decode cX6_look 15 = .ok (.aload_n 0, 1) := by decide +kernel
theorem dX6_look_16 : decode cX6_look 16 = .ok (.getfield 19, 3) := by decide +kernel
theorem dX6_look_19 : decode cX6_look 19 = .ok (.iaload, 1) := by decide +kernel
theorem dX6_look_20 : decode cX6_look 20 = .ok (.goto 4, 3) := by decide +kernel
theorem dX6_look_23 : decode cX6_look 23 = .ok (.iconst (-1), 1) := by decide +kernel
theorem dX6_look_24 : decode cX6_look 24 = .ok (.ireturn, 1) := by decide +kernel
theorem dX6_isDigit_0 : decode cX6_isDigit 0 = .ok (.iload_n 0, 1) := by decide +kernel
theorem dX6_isDigit_1 : decode cX6_isDigit 1 = .ok (.bipush 48, 2) := by decide +kernel
theorem dX6_isDigit_3 : decode cX6_isDigit 3 = .ok (.if_icmp .lt 13, 3) := by decide +kernel
theorem dX6_isDigit_6 : decode cX6_isDigit 6 = .ok (.iload_n 0, 1) := by decide +kernel
theorem dX6_isDigit_7 : decode cX6_isDigit 7 = .ok (.bipush 57, 2) := by decide +kernel
theorem dX6_isDigit_9 : decode cX6_isDigit 9 = .ok (.if_icmp .gt 7, 3) := by decide +kernel
theorem dX6_isDigit_12 : decode cX6_isDigit 12 = .ok (.iconst 1, 1) := by decide +kernel
theorem dX6_isDigit_13 : decode cX6_isDigit 13 = .ok (.goto 4, 3) := by decide +kernel
theorem dX6_isDigit_16 : decode cX6_isDigit 16 = .ok (.iconst 0, 1) := by decide +kernel
theorem dX6_isDigit_17 : decode cX6_isDigit 17 = .ok (.ireturn, 1) := by decide +kernel
theorem dX7_signOn_0 : decode cX7_signOn 0 = .ok (.aload_n 0, 1) := by decide +kernel
theorem dX7_signOn_1 : decode cX7_signOn 1 = .ok (.getfield 18, 3) := by decide +kernel
theorem dX7_signOn_4 : decode cX7_signOn 4 = .ok (.bipush 7, 2) := by decide +kernel
theorem dX7_signOn_6 : decode cX7_signOn 6 = .ok (.iload_n 1, 1) := by decide +kernel
theorem dX7_signOn_7 : decode cX7_signOn 7 = .ok (.imul, 1) := by decide +kernel
theorem dX7_signOn_8 : decode cX7_signOn 8 = .ok (.iload_n 2, 1) := by decide +kernel
theorem dX7_signOn_9 : decode cX7_signOn 9 = .ok (.iadd, 1) := by decide +kernel
theorem dX7_signOn_10 : decode cX7_signOn 10 = .ok (.iaload, 1) := by decide +kernel
theorem dX7_signOn_11 : decode cX7_signOn 11 = .ok (.ireturn, 1) := by decide +kernel
theorem dX7_sideOf_0 : decode cX7_sideOf 0 = .ok (.aload_n 0, 1) := by decide +kernel
theorem dX7_sideOf_1 : decode cX7_sideOf 1 = .ok (.getfield 11, 3) := by decide +kernel
theorem dX7_sideOf_4 : decode cX7_sideOf 4 = .ok (.iconst 2, 1) := by decide +kernel
theorem dX7_sideOf_5 : decode cX7_sideOf 5 = .ok (.iload_n 1, 1) := by decide +kernel
theorem dX7_sideOf_6 : decode cX7_sideOf 6 = .ok (.imul, 1) := by decide +kernel
theorem dX7_sideOf_7 : decode cX7_sideOf 7 = .ok (.iaload, 1) := by decide +kernel
theorem dX7_sideOf_8 : decode cX7_sideOf 8 = .ok (.iload_n 2, 1) := by decide +kernel
theorem dX7_sideOf_9 : decode cX7_sideOf 9 = .ok (.if_icmp .ne 5, 3) := by decide +kernel
theorem dX7_sideOf_12 : decode cX7_sideOf 12 = .ok (.iconst 0, 1) := by decide +kernel
theorem dX7_sideOf_13 : decode cX7_sideOf 13 = .ok (.ireturn, 1) := by decide +kernel
theorem dX7_sideOf_14 : decode cX7_sideOf 14 = .ok (.aload_n 0, 1) := by decide +kernel
theorem dX7_sideOf_15 : decode cX7_sideOf 15 = .ok (.getfield 11, 3) := by decide +kernel
theorem dX7_sideOf_18 : decode cX7_sideOf 18 = .ok (.iconst 2, 1) := by decide +kernel
theorem dX7_sideOf_19 : decode cX7_sideOf 19 = .ok (.iload_n 1, 1) := by decide +kernel
theorem dX7_sideOf_20 : decode cX7_sideOf 20 = .ok (.imul, 1) := by decide +kernel
theorem dX7_sideOf_21 : decode cX7_sideOf 21 = .ok (.iconst 1, 1) := by decide +kernel
theorem dX7_sideOf_22 : decode cX7_sideOf 22 = .ok (.iadd, 1) := by decide +kernel
theorem dX7_sideOf_23 : decode cX7_sideOf 23 = .ok (.iaload, 1) := by decide +kernel
theorem dX7_sideOf_24 : decode cX7_sideOf 24 = .ok (.iload_n 2, 1) := by decide +kernel
theorem dX7_sideOf_25 : decode cX7_sideOf 25 = .ok (.if_icmp .ne 7, 3) := by decide +kernel
theorem dX7_sideOf_28 : decode cX7_sideOf 28 = .ok (.iconst 1, 1) := by decide +kernel
theorem dX7_sideOf_29 : decode cX7_sideOf 29 = .ok (.goto 4, 3) := by decide +kernel
theorem dX7_sideOf_32 : decode cX7_sideOf 32 = .ok (.iconst (-1), 1) := by decide +kernel
theorem dX7_sideOf_33 : decode cX7_sideOf 33 = .ok (.ireturn, 1) := by decide +kernel
set_option maxRecDepth 20000 in
theorem ggX7_daysWith_X7_signOn : GoodIn wsX7_daysWith wsX7_signOn := goodIn_r _ [5, 6, 7, 8, 9, 10, 11, 12, 13, 14, 15, 16, 17, 18] (by decide +kernel) (by decide +kernel)
set_option maxRecDepth 20000 in
theorem gX7_daysWith_X7_signOn : GoodIn wsX7_daysWith (wsV RX7 155 RX7 yX7_signOn wsX7_signOn) := goodIn_app (goodIn_of _ (by decide +kernel)) ggX7_daysWith_X7_signOn
theorem dX7_daysWith_0 : decode cX7_daysWith 0 = .ok (.iconst 0, 1) := by decide +kernel
theorem dX7_daysWith_1 : decode cX7_daysWith 1 = .ok (.istore_n 3, 1) := by decide +kernel
theorem dX7_daysWith_2 : decode cX7_daysWith 2 = .ok (.iconst 0, 1) := by decide +kernel
theorem dX7_daysWith_3 : decode cX7_daysWith 3 = .ok (.istore 4, 2) := by decide +kernel
theorem dX7_daysWith_5 : decode cX7_daysWith 5 = .ok (.iload 4, 2) := by decide +kernel
theorem dX7_daysWith_7 : decode cX7_daysWith 7 = .ok (.bipush 7, 2) := by decide +kernel
theorem dX7_daysWith_9 : decode cX7_daysWith 9 = .ok (.if_icmp .ge 23, 3) := by decide +kernel
theorem dX7_daysWith_12 : decode cX7_daysWith 12 = .ok (.aload_n 0, 1) := by decide +kernel
theorem dX7_daysWith_13 : decode cX7_daysWith 13 = .ok (.iload_n 1, 1) := by decide +kernel
theorem dX7_daysWith_14 : decode cX7_daysWith 14 = .ok (.iload 4, 2) := by decide +kernel
theorem dX7_daysWith_16 : decode cX7_daysWith 16 = .ok (.invokevirtual 155, 3) := by decide +kernel
theorem dX7_daysWith_19 : decode cX7_daysWith 19 = .ok (.iload_n 2, 1) := by decide +kernel
theorem dX7_daysWith_20 : decode cX7_daysWith 20 = .ok (.if_icmp .ne 6, 3) := by decide +kernel
theorem dX7_daysWith_23 : decode cX7_daysWith 23 = .ok (.iinc 3 1, 3) := by decide +kernel
theorem dX7_daysWith_26 : decode cX7_daysWith 26 = .ok (.iinc 4 1, 3) := by decide +kernel
theorem dX7_daysWith_29 : decode cX7_daysWith 29 = .ok (.goto (-24), 3) := by decide +kernel
theorem dX7_daysWith_32 : decode cX7_daysWith 32 = .ok (.iload_n 3, 1) := by decide +kernel
theorem dX7_daysWith_33 : decode cX7_daysWith 33 = .ok (.ireturn, 1) := by decide +kernel
set_option maxRecDepth 20000 in
theorem ggX7_commonSign_X7_daysWith : GoodIn wsX7_commonSign wsX7_daysWith := goodIn_r _ [5, 6, 7, 8, 4, 9, 10, 11, 12, 13, 14, 15, 16, 17, 18, 19, 20, 21, 22] (by decide +kernel) (by decide +kernel)
set_option maxRecDepth 20000 in
theorem gX7_commonSign_X7_daysWith : GoodIn wsX7_commonSign (wsV RX7 158 RX7 yX7_daysWith wsX7_daysWith) := goodIn_app (goodIn_of _ (by decide +kernel)) ggX7_commonSign_X7_daysWith
theorem dX7_commonSign_0 : decode cX7_commonSign 0 = .ok (.iconst 0, 1) := by decide +kernel
theorem dX7_commonSign_1 : decode cX7_commonSign 1 = .ok (.istore_n 2, 1) := by decide +kernel
theorem dX7_commonSign_2 : decode cX7_commonSign 2 = .ok (.iconst 1, 1) := by decide +kernel
theorem dX7_commonSign_3 : decode cX7_commonSign 3 = .ok (.istore_n 3, 1) := by decide +kernel
theorem dX7_commonSign_4 : decode cX7_commonSign 4 = .ok (.iload_n 3, 1) := by decide +kernel
theorem dX7_commonSign_5 : decode cX7_commonSign 5 = .ok (.iconst 3, 1) := by decide +kernel
theorem dX7_commonSign_6 : decode cX7_commonSign 6 = .ok (.if_icmp .gt 26, 3) := by decide +kernel
theorem dX7_commonSign_9 : decode cX7_commonSign 9 = .ok (.aload_n 0, 1) := by decide +kernel
theorem dX7_commonSign_10 : decode cX7_commonSign 10 = .ok (.iload_n 1, 1) := by decide +kernel
theorem dX7_commonSign_11 : decode cX7_commonSign 11 = .ok (.iload_n 3, 1) := by decide +kernel
theorem dX7_commonSign_12 : decode cX7_commonSign 12 = .ok (.invokevirtual 158, 3) := by decide +kernel
theorem dX7_commonSign_15 : decode cX7_commonSign 15 = .ok (.aload_n 0, 1) := by decide +kernel
theorem dX7_commonSign_16 : decode cX7_commonSign 16 = .ok (.iload_n 1, 1) := by decide +kernel
theorem dX7_commonSign_17 : decode cX7_commonSign 17 = .ok (.iload_n 2, 1) := by decide +kernel
theorem dX7_commonSign_18 : decode cX7_commonSign 18 = .ok (.invokevirtual 158, 3) := by decide +kernel
theorem dX7_commonSign_21 : decode cX7_commonSign 21 = .ok (.if_icmp .le 5, 3) := by decide +kernel
theorem dX7_commonSign_24 : decode cX7_commonSign 24 = .ok (.iload_n 3, 1) := by decide +kernel
theorem dX7_commonSign_25 : decode cX7_commonSign 25 = .ok (.istore_n 2, 1) := by decide +kernel
theorem dX7_commonSign_26 : decode cX7_commonSign 26 = .ok (.iinc 3 1, 3) := by decide +kernel
theorem dX7_commonSign_29 : decode cX7_commonSign 29 = .ok (.goto (-25), 3) := by decide +kernel
theorem dX7_commonSign_32 : decode cX7_commonSign 32 = .ok (.iload_n 2, 1) := by decide +kernel
theorem dX7_commonSign_33 : decode cX7_commonSign 33 = .ok (.ireturn, 1) := by decide +kernel
