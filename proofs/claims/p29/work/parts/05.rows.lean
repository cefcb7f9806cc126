theorem dX0_init_0 : decode cX0_init 0 = .ok (.aload_n 0, 1) := by decide +kernel
theorem dX0_init_1 : decode cX0_init 1 = .ok (.invokespecial 3, 3) := by decide +kernel
theorem dX0_init_4 : decode cX0_init 4 = .ok (.aload_n 0, 1) := by decide +kernel
theorem dX0_init_5 : decode cX0_init 5 = .ok (.sipush 1100, 3) := by decide +kernel
theorem dX0_init_8 : decode cX0_init 8 = .ok (.newarray .int, 2) := by decide +kernel
theorem dX0_init_10 : decode cX0_init 10 = .ok (.putfield 11, 3) := by decide +kernel
theorem dX0_init_13 : decode cX0_init 13 = .ok (.aload_n 0, 1) := by decide +kernel
theorem dX0_init_14 : decode cX0_init 14 = .ok (.sipush 1100, 3) := by decide +kernel
theorem dX0_init_17 : decode cX0_init 17 = .ok (.newarray .int, 2) := by decide +kernel
theorem dX0_init_19 : decode cX0_init 19 = .ok (.putfield 15, 3) := by decide +kernel
theorem dX0_init_22 : decode cX0_init 22 = .ok (.aload_n 0, 1) := by decide +kernel
theorem dX0_init_23 : decode cX0_init 23 = .ok (.bipush 11, 2) := by decide +kernel
theorem dX0_init_25 : decode cX0_init 25 = .ok (.newarray .boolean, 2) := by decide +kernel
theorem dX0_init_27 : decode cX0_init 27 = .ok (.putfield 18, 3) := by decide +kernel
theorem dX0_init_30 : decode cX0_init 30 = .ok (.aload_n 0, 1) := by decide +kernel
theorem dX0_init_31 : decode cX0_init 31 = .ok (.aload_n 1, 1) := by decide +kernel
theorem dX0_init_32 : decode cX0_init 32 = .ok (.putfield 22, 3) := by decide +kernel
theorem dX0_init_35 : decode cX0_init 35 = .ok (.return_, 1) := by decide +kernel
theorem dX0_ofWeekday_0 : decode cX0_ofWeekday 0 = .ok (.iconst 4, 1) := by decide +kernel
theorem dX0_ofWeekday_1 : decode cX0_ofWeekday 1 = .ok (.lload_n 0, 1) := by decide +kernel
theorem dX0_ofWeekday_2 : decode cX0_ofWeekday 2 = .ok (.ldc2_w 26, 3) := by decide +kernel
theorem dX0_ofWeekday_5 : decode cX0_ofWeekday 5 = .ok (.lrem, 1) := by decide +kernel
theorem dX0_ofWeekday_6 : decode cX0_ofWeekday 6 = .ok (.l2i, 1) := by decide +kernel
theorem dX0_ofWeekday_7 : decode cX0_ofWeekday 7 = .ok (.iadd, 1) := by decide +kernel
theorem dX0_ofWeekday_8 : decode cX0_ofWeekday 8 = .ok (.ireturn, 1) := by decide +kernel
theorem dX0_forget_0 : decode cX0_forget 0 = .ok (.aload_n 0, 1) := by decide +kernel
theorem dX0_forget_1 : decode cX0_forget 1 = .ok (.getfield 18, 3) := by decide +kernel
theorem dX0_forget_4 : decode cX0_forget 4 = .ok (.iload_n 1, 1) := by decide +kernel
theorem dX0_forget_5 : decode cX0_forget 5 = .ok (.iconst 0, 1) := by decide +kernel
theorem dX0_forget_6 : decode cX0_forget 6 = .ok (.bastore, 1) := by decide +kernel
theorem dX0_forget_7 : decode cX0_forget 7 = .ok (.return_, 1) := by decide +kernel
theorem dX0_forgetAll_0 : decode cX0_forgetAll 0 = .ok (.iconst 0, 1) := by decide +kernel
theorem dX0_forgetAll_1 : decode cX0_forgetAll 1 = .ok (.istore_n 1, 1) := by decide +kernel
theorem dX0_forgetAll_2 : decode cX0_forgetAll 2 = .ok (.iload_n 1, 1) := by decide +kernel
theorem dX0_forgetAll_3 : decode cX0_forgetAll 3 = .ok (.bipush 11, 2) := by decide +kernel
theorem dX0_forgetAll_5 : decode cX0_forgetAll 5 = .ok (.if_icmp .ge 16, 3) := by decide +kernel
theorem dX0_forgetAll_8 : decode cX0_forgetAll 8 = .ok (.aload_n 0, 1) := by decide +kernel
theorem dX0_forgetAll_9 : decode cX0_forgetAll 9 = .ok (.getfield 18, 3) := by decide +kernel
theorem dX0_forgetAll_12 : decode cX0_forgetAll 12 = .ok (.iload_n 1, 1) := by decide +kernel
theorem dX0_forgetAll_13 : decode cX0_forgetAll 13 = .ok (.iconst 0, 1) := by decide +kernel
theorem dX0_forgetAll_14 : decode cX0_forgetAll 14 = .ok (.bastore, 1) := by decide +kernel
theorem dX0_forgetAll_15 : decode cX0_forgetAll 15 = .ok (.iinc 1 1, 3) := by decide +kernel
theorem dX0_forgetAll_18 : decode cX0_forgetAll 18 = .ok (.goto (-16), 3) := by decide +kernel
theorem dX0_forgetAll_21 : decode cX0_forgetAll 21 = .ok (.return_, 1) := by decide +kernel
set_option maxRecDepth 20000 in
theorem ggX0_refreshAll_X0_refresh : GoodIn wsX0_refreshAll wsX0_refresh := goodIn_r _ [7, 8, 9, 10, 11, 6, 12, 13, 14, 15, 1, 16, 17, 18, 19, 20, 21, 22, 23, 24, 25, 26, 27, 28, 29, 30, 31, 32, 33, 34, 35, 36, 37, 38, 39, 40, 41, 42, 43, 44, 45, 46, 47, 48, 49, 50, 51, 52, 53, 54, 55, 56, 57, 58, 59, 60, 61, 62, 63, 64, 65, 66, 67, 68, 69, 70, 71, 72, 73, 74, 75, 76, 77, 78, 79, 80] (by decide +kernel) (by decide +kernel)
set_option maxRecDepth 20000 in
theorem gX0_refreshAll_X0_refresh : GoodIn wsX0_refreshAll (wsV RX0 34 RX0 yX0_refresh wsX0_refresh) := goodIn_app (goodIn_of _ (by decide +kernel)) ggX0_refreshAll_X0_refresh
theorem dX0_refreshAll_0 : decode cX0_refreshAll 0 = .ok (.iconst 0, 1) := by decide +kernel
theorem dX0_refreshAll_1 : decode cX0_refreshAll 1 = .ok (.istore_n 1, 1) := by decide +kernel
theorem dX0_refreshAll_2 : decode cX0_refreshAll 2 = .ok (.iload_n 1, 1) := by decide +kernel
theorem dX0_refreshAll_3 : decode cX0_refreshAll 3 = .ok (.bipush 11, 2) := by decide +kernel
theorem dX0_refreshAll_5 : decode cX0_refreshAll 5 = .ok (.if_icmp .ge 30, 3) := by decide +kernel
theorem dX0_refreshAll_8 : decode cX0_refreshAll 8 = .ok (.iload_n 1, 1) := by decide +kernel
theorem dX0_refreshAll_9 : decode cX0_refreshAll 9 = .ok (.aload_n 0, 1) := by decide +kernel
theorem dX0_refreshAll_10 : decode cX0_refreshAll 10 = .ok (.getfield 22, 3) := by decide +kernel
theorem dX0_refreshAll_13 : decode cX0_refreshAll 13 = .ok (.getfield 28, 3) := by decide +kernel
theorem dX0_refreshAll_16 : decode cX0_refreshAll 16 = .ok (.if_icmp .lt 8, 3) := by decide +kernel
theorem dX0_refreshAll_19 : decode cX0_refreshAll 19 = .ok (.iload_n 1, 1) := by decide +kernel
theorem dX0_refreshAll_20 : decode cX0_refreshAll 20 = .ok (.iconst 4, 1) := by decide +kernel
theorem dX0_refreshAll_21 : decode cX0_refreshAll 21 = .ok (.if_icmp .lt 8, 3) := by decide +kernel
theorem dX0_refreshAll_24 : decode cX0_refreshAll 24 = .ok (.aload_n 0, 1) := by decide +kernel
theorem dX0_refreshAll_25 : decode cX0_refreshAll 25 = .ok (.iload_n 1, 1) := by decide +kernel
theorem dX0_refreshAll_26 : decode cX0_refreshAll 26 = .ok (.invokevirtual 34, 3) := by decide +kernel
theorem dX0_refreshAll_29 : decode cX0_refreshAll 29 = .ok (.iinc 1 1, 3) := by decide +kernel
theorem dX0_refreshAll_32 : decode cX0_refreshAll 32 = .ok (.goto (-30), 3) := by decide +kernel
theorem dX0_refreshAll_35 : decode cX0_refreshAll 35 = .ok (.return_, 1) := by decide +kernel
set_option maxRecDepth 20000 in
theorem ggX0_refresh_X0_drawStreets : GoodIn wsX0_refresh wsX0_drawStreets := goodIn_r _ [6, 7, 8, 9, 10, 11, 12, 13, 14, 15, 5, 16, 17, 18, 19, 20, 21, 22, 23, 24, 25, 26, 27, 28, 29, 30, 31, 32, 46, 47, 48, 49, 50, 51, 52, 53, 54, 55, 56, 57, 58, 59, 60, 61, 62, 63, 64, 65, 66, 67, 68, 69, 70, 71, 72, 73, 74, 75] (by decide +kernel) (by decide +kernel)
set_option maxRecDepth 20000 in
theorem gX0_refresh_X0_drawStreets : GoodIn wsX0_refresh (wsV RX0 38 RX0 yX0_drawStreets wsX0_drawStreets) := goodIn_app (goodIn_of _ (by decide +kernel)) ggX0_refresh_X0_drawStreets
set_option maxRecDepth 20000 in
theorem ggX0_refresh_X0_drawHours : GoodIn wsX0_refresh wsX0_drawHours := goodIn_r _ [36, 10, 11, 37, 7, 8, 14, 15, 5, 16, 46, 47, 48, 49, 50, 51, 52, 53, 54, 55, 56, 57, 58, 59, 60, 61, 62, 63, 64, 65, 66, 67, 68, 69, 70, 71, 72, 73, 74, 75] (by decide +kernel) (by decide +kernel)
set_option maxRecDepth 20000 in
theorem gX0_refresh_X0_drawHours : GoodIn wsX0_refresh (wsV RX0 41 RX0 yX0_drawHours wsX0_drawHours) := goodIn_app (goodIn_of _ (by decide +kernel)) ggX0_refresh_X0_drawHours
set_option maxRecDepth 20000 in
theorem ggX0_refresh_X0_drawFirst : GoodIn wsX0_refresh wsX0_drawFirst := goodIn_r _ [41, 10, 11, 12, 17, 18, 19, 5, 20, 21, 22, 23, 24, 25, 26, 27, 42, 43, 44, 45, 37, 7, 8, 13, 9, 28, 29, 30, 31, 32, 14, 15, 16, 46, 47, 48, 49, 50, 51, 52, 53, 54, 55, 56, 57, 58, 59, 60, 61, 62, 63, 64, 65, 66, 67, 68, 69, 70, 71, 72, 73, 74, 75] (by decide +kernel) (by decide +kernel)
set_option maxRecDepth 20000 in
theorem gX0_refresh_X0_drawFirst : GoodIn wsX0_refresh (wsV RX0 44 RX0 yX0_drawFirst wsX0_drawFirst) := goodIn_app (goodIn_of _ (by decide +kernel)) ggX0_refresh_X0_drawFirst
theorem dX0_refresh_0 : decode cX0_refresh 0 = .ok (.aload_n 0, 1) := by decide +kernel
theorem dX0_refresh_1 : decode cX0_refresh 1 = .ok (.getfield 18, 3) := by decide +kernel
theorem dX0_refresh_4 : decode cX0_refresh 4 = .ok (.iload_n 1, 1) := by decide +kernel
theorem dX0_refresh_5 : decode cX0_refresh 5 = .ok (.baload, 1) := by decide +kernel
theorem dX0_refresh_6 : decode cX0_refresh 6 = .ok (.ifCond .ne 25, 3) := by decide +kernel
theorem dX0_refresh_9 : decode cX0_refresh 9 = .ok (.aload_n 0, 1) := by decide +kernel
theorem dX0_refresh_10 : decode cX0_refresh 10 = .ok (.iload_n 1, 1) := by decide +kernel
theorem dX0_refresh_11 : decode cX0_refresh 11 = .ok (.invokevirtual 38, 3) := by decide +kernel
theorem dX0_refresh_14 : decode cX0_refresh 14 = .ok (.aload_n 0, 1) := by decide +kernel
theorem dX0_refresh_15 : decode cX0_refresh 15 = .ok (.iload_n 1, 1) := by decide +kernel
theorem dX0_refresh_16 : decode cX0_refresh 16 = .ok (.invokevirtual 41, 3) := by decide +kernel
theorem dX0_refresh_19 : decode cX0_refresh 19 = .ok (.aload_n 0, 1) := by decide +kernel
theorem dX0_refresh_20 : decode cX0_refresh 20 = .ok (.iload_n 1, 1) := by decide +kernel
theorem dX0_refresh_21 : decode cX0_refresh 21 = .ok (.invokevirtual 44, 3) := by decide +kernel
theorem dX0_refresh_24 : decode cX0_refresh 24 = .ok (.aload_n 0, 1) := by decide +kernel
theorem dX0_refresh_25 : decode cX0_refresh 25 = .ok (.getfield 18, 3) := by decide +kernel
theorem dX0_refresh_28 : decode cX0_refresh 28 = .ok (.iload_n 1, 1) := by decide +kernel
theorem dX0_refresh_29 : decode cX0_refresh 29 = .ok (.iconst 1, 1) := by decide +kernel
theorem dX0_refresh_30 : decode cX0_refresh 30 = .ok (.bastore, 1) := by decide +kernel
theorem dX0_refresh_31 : decode cX0_refresh 31 = .ok (.return_, 1) := by decide +kernel
set_option maxRecDepth 20000 in
theorem ggX0_hoursBy_X0_spot : GoodIn wsX0_hoursBy wsX0_spot := goodIn_r _ [6] (by decide +kernel) (by decide +kernel)
set_option maxRecDepth 20000 in
theorem gX0_hoursBy_X0_spot : GoodIn wsX0_hoursBy (va_wsS RX0 47 yX0_spot wsX0_spot) := goodIn_app (goodIn_of _ (by decide +kernel)) ggX0_hoursBy_X0_spot
theorem dX0_hoursBy_0 : decode cX0_hoursBy 0 = .ok (.aload_n 0, 1) := by decide +kernel
theorem dX0_hoursBy_1 : decode cX0_hoursBy 1 = .ok (.getfield 11, 3) := by decide +kernel
theorem dX0_hoursBy_4 : decode cX0_hoursBy 4 = .ok (.iload_n 1, 1) := by decide +kernel
theorem dX0_hoursBy_5 : decode cX0_hoursBy 5 = .ok (.iload_n 2, 1) := by decide +kernel
theorem dX0_hoursBy_6 : decode cX0_hoursBy 6 = .ok (.iload_n 3, 1) := by decide +kernel
theorem dX0_hoursBy_7 : decode cX0_hoursBy 7 = .ok (.invokestatic 47, 3) := by decide +kernel
theorem dX0_hoursBy_10 : decode cX0_hoursBy 10 = .ok (.iaload, 1) := by decide +kernel
theorem dX0_hoursBy_11 : decode cX0_hoursBy 11 = .ok (.istore 4, 2) := by decide +kernel
theorem dX0_hoursBy_13 : decode cX0_hoursBy 13 = .ok (.iload 4, 2) := by decide +kernel
theorem dX0_hoursBy_15 : decode cX0_hoursBy 15 = .ok (.ldc 51, 2) := by decide +kernel
theorem dX0_hoursBy_17 : decode cX0_hoursBy 17 = .ok (.if_icmp .lt 7, 3) := by decide +kernel
theorem dX0_hoursBy_20 : decode cX0_hoursBy 20 = .ok (.iconst (-1), 1) := by decide +kernel
theorem dX0_hoursBy_21 : decode cX0_hoursBy 21 = .ok (.goto 5, 3) := by decide +kernel
theorem dX0_hoursBy_24 : decode cX0_hoursBy 24 = .ok (.iload 4, 2) := by decide +kernel
theorem dX0_hoursBy_26 : decode cX0_hoursBy 26 = .ok (.ireturn, 1) := by decide +kernel
set_option maxRecDepth 20000 in
theorem ggX0_streetBy_X0_spot : GoodIn wsX0_streetBy wsX0_spot := goodIn_r _ [5] (by decide +kernel) (by decide +kernel)
set_option maxRecDepth 20000 in
theorem gX0_streetBy_X0_spot : GoodIn wsX0_streetBy (va_wsS RX0 47 yX0_spot wsX0_spot) := goodIn_app (goodIn_of _ (by decide +kernel)) ggX0_streetBy_X0_spot
theorem dX0_streetBy_0 : decode cX0_streetBy 0 = .ok (.aload_n 0, 1) := by decide +kernel
theorem dX0_streetBy_1 : decode cX0_streetBy 1 = .ok (.getfield 15, 3) := by decide +kernel
theorem dX0_streetBy_4 : decode cX0_streetBy 4 = .ok (.iload_n 1, 1) := by decide +kernel
theorem dX0_streetBy_5 : decode cX0_streetBy 5 = .ok (.iload_n 2, 1) := by decide +kernel
theorem dX0_streetBy_6 : decode cX0_streetBy 6 = .ok (.iload_n 3, 1) := by decide +kernel
theorem dX0_streetBy_7 : decode cX0_streetBy 7 = .ok (.invokestatic 47, 3) := by decide +kernel
theorem dX0_streetBy_10 : decode cX0_streetBy 10 = .ok (.iaload, 1) := by decide +kernel
theorem dX0_streetBy_11 : decode cX0_streetBy 11 = .ok (.ireturn, 1) := by decide +kernel
theorem dX0_spot_0 : decode cX0_spot 0 = .ok (.iload_n 0, 1) := by decide +kernel
theorem dX0_spot_1 : decode cX0_spot 1 = .ok (.bipush 100, 2) := by decide +kernel
theorem dX0_spot_3 : decode cX0_spot 3 = .ok (.imul, 1) := by decide +kernel
theorem dX0_spot_4 : decode cX0_spot 4 = .ok (.iload_n 1, 1) := by decide +kernel
theorem dX0_spot_5 : decode cX0_spot 5 = .ok (.bipush 10, 2) := by decide +kernel
theorem dX0_spot_7 : decode cX0_spot 7 = .ok (.imul, 1) := by decide +kernel
theorem dX0_spot_8 : decode cX0_spot 8 = .ok (.iadd, 1) := by decide +kernel
theorem dX0_spot_9 : decode cX0_spot 9 = .ok (.iload_n 2, 1) := by decide +kernel
theorem dX0_spot_10 : decode cX0_spot 10 = .ok (.iadd, 1) := by decide +kernel
theorem dX0_spot_11 : decode cX0_spot 11 = .ok (.ireturn, 1) := by decide +kernel
set_option maxRecDepth 20000 in
theorem ggX0_signOf_X7_signOn : GoodIn wsX0_signOf wsX7_signOn := goodIn_r _ [8, 9, 28, 29, 30, 31, 32, 33, 34, 35, 36, 37, 38, 39] (by decide +kernel) (by decide +kernel)
set_option maxRecDepth 20000 in
theorem gX0_signOf_X7_signOn : GoodIn wsX0_signOf (wsV RX0 59 RX7 yX7_signOn wsX7_signOn) := goodIn_app (goodIn_of _ (by decide +kernel)) ggX0_signOf_X7_signOn
theorem dX0_signOf_0 : decode cX0_signOf 0 = .ok (.iload_n 1, 1) := by decide +kernel
theorem dX0_signOf_1 : decode cX0_signOf 1 = .ok (.iconst 4, 1) := by decide +kernel
theorem dX0_signOf_2 : decode cX0_signOf 2 = .ok (.if_icmp .ge 18, 3) := by decide +kernel
theorem dX0_signOf_5 : decode cX0_signOf 5 = .ok (.aload_n 0, 1) := by decide +kernel
theorem dX0_signOf_6 : decode cX0_signOf 6 = .ok (.getfield 22, 3) := by decide +kernel
theorem dX0_signOf_9 : decode cX0_signOf 9 = .ok (.getfield 52, 3) := by decide +kernel
theorem dX0_signOf_12 : decode cX0_signOf 12 = .ok (.iload_n 1, 1) := by decide +kernel
theorem dX0_signOf_13 : decode cX0_signOf 13 = .ok (.bipush 12, 2) := by decide +kernel
theorem dX0_signOf_15 : decode cX0_signOf 15 = .ok (.imul, 1) := by decide +kernel
theorem dX0_signOf_16 : decode cX0_signOf 16 = .ok (.iload_n 2, 1) := by decide +kernel
theorem dX0_signOf_17 : decode cX0_signOf 17 = .ok (.iadd, 1) := by decide +kernel
theorem dX0_signOf_18 : decode cX0_signOf 18 = .ok (.iaload, 1) := by decide +kernel
theorem dX0_signOf_19 : decode cX0_signOf 19 = .ok (.ireturn, 1) := by decide +kernel
theorem dX0_signOf_20 : decode cX0_signOf 20 = .ok (.aload_n 0, 1) := by decide +kernel
theorem dX0_signOf_21 : decode cX0_signOf 21 = .ok (.getfield 22, 3) := by decide +kernel
theorem dX0_signOf_24 : decode cX0_signOf 24 = .ok (.getfield 55, 3) := by decide +kernel
theorem dX0_signOf_27 : decode cX0_signOf 27 = .ok (.iload_n 2, 1) := by decide +kernel
theorem dX0_signOf_28 : decode cX0_signOf 28 = .ok (.iload_n 1, 1) := by decide +kernel
theorem dX0_signOf_29 : decode cX0_signOf 29 = .ok (.iconst 4, 1) := by decide +kernel
theorem dX0_signOf_30 : decode cX0_signOf 30 = .ok (.isub, 1) := by decide +kernel
theorem dX0_signOf_31 : decode cX0_signOf 31 = .ok (.invokevirtual 59, 3) := by decide +kernel
theorem dX0_signOf_34 : decode cX0_signOf 34 = .ok (.ireturn, 1) := by decide +kernel
set_option maxRecDepth 20000 in
theorem ggX0_drawStreets_X0_spot : GoodIn wsX0_drawStreets wsX0_spot := goodIn_r _ [11] (by decide +kernel) (by decide +kernel)
set_option maxRecDepth 20000 in
theorem gX0_drawStreets_X0_spot : GoodIn wsX0_drawStreets (va_wsS RX0 47 yX0_spot wsX0_spot) := goodIn_app (goodIn_of _ (by decide +kernel)) ggX0_drawStreets_X0_spot
set_option maxRecDepth 20000 in
theorem ggX0_drawStreets_X0_signOf : GoodIn wsX0_drawStreets wsX0_signOf := goodIn_r _ [15, 4, 16, 5, 17, 18, 19, 20, 21, 22, 28, 29, 30, 31, 32, 33, 34, 35, 36, 37, 38, 39, 40, 41, 42, 43, 44, 45, 46, 47, 48, 49, 50, 51, 52, 53, 54, 55, 56, 57] (by decide +kernel) (by decide +kernel)
set_option maxRecDepth 20000 in
theorem gX0_drawStreets_X0_signOf : GoodIn wsX0_drawStreets (wsV RX0 68 RX0 yX0_signOf wsX0_signOf) := goodIn_app (goodIn_of _ (by decide +kernel)) ggX0_drawStreets_X0_signOf
set_option maxRecDepth 20000 in
theorem ggX0_drawStreets_X7_cornerAcross : GoodIn wsX0_drawStreets wsX7_cornerAcross := goodIn_r _ [26, 27, 46, 47, 48, 49, 50, 51, 52, 53, 54, 55, 56, 57] (by decide +kernel) (by decide +kernel)
set_option maxRecDepth 20000 in
theorem gX0_drawStreets_X7_cornerAcross : GoodIn wsX0_drawStreets (wsV RX0 71 RX7 yX7_cornerAcross wsX7_cornerAcross) := goodIn_app (goodIn_of _ (by decide +kernel)) ggX0_drawStreets_X7_cornerAcross
theorem dX0_drawStreets_0 : decode cX0_drawStreets 0 = .ok (.iconst 0, 1) := by decide +kernel
theorem dX0_drawStreets_1 : decode cX0_drawStreets 1 = .ok (.istore_n 2, 1) := by decide +kernel
theorem dX0_drawStreets_2 : decode cX0_drawStreets 2 = .ok (.iload_n 2, 1) := by decide +kernel
theorem dX0_drawStreets_3 : decode cX0_drawStreets 3 = .ok (.bipush 10, 2) := by decide +kernel
theorem dX0_drawStreets_5 : decode cX0_drawStreets 5 = .ok (.if_icmp .ge 57, 3) := by decide +kernel
theorem dX0_drawStreets_8 : decode cX0_drawStreets 8 = .ok (.iconst 0, 1) := by decide +kernel
theorem dX0_drawStreets_9 : decode cX0_drawStreets 9 = .ok (.istore_n 3, 1) := by decide +kernel
theorem dX0_drawStreets_10 : decode cX0_drawStreets 10 = .ok (.iload_n 3, 1) := by decide +kernel
theorem dX0_drawStreets_11 : decode cX0_drawStreets 11 = .ok (.bipush 10, 2) := by decide +kernel
theorem dX0_drawStreets_13 : decode cX0_drawStreets 13 = .ok (.if_icmp .ge 43, 3) := by decide +kernel
theorem dX0_drawStreets_16 : decode cX0_drawStreets 16 = .ok (.aload_n 0, 1) := by decide +kernel
theorem dX0_drawStreets_17 : decode cX0_drawStreets 17 = .ok (.getfield 11, 3) := by decide +kernel
theorem dX0_drawStreets_20 : decode cX0_drawStreets 20 = .ok (.iload_n 1, 1) := by decide +kernel
theorem dX0_drawStreets_21 : decode cX0_drawStreets 21 = .ok (.iload_n 2, 1) := by decide +kernel
theorem dX0_drawStreets_22 : decode cX0_drawStreets 22 = .ok (.iload_n 3, 1) := by decide +kernel
theorem dX0_drawStreets_23 : decode cX0_drawStreets 23 = .ok (.invokestatic 47, 3) := by decide +kernel
theorem dX0_drawStreets_26 : decode cX0_drawStreets 26 = .ok (.iload_n 2, 1) := by decide +kernel
theorem dX0_drawStreets_27 : decode cX0_drawStreets 27 = .ok (.iload_n 3, 1) := by decide +kernel
theorem dX0_drawStreets_28 : decode cX0_drawStreets 28 = .ok (.if_icmp .ne 7, 3) := by decide +kernel
theorem dX0_drawStreets_31 : decode cX0_drawStreets 31 = .ok (.iconst 0, 1) := by decide +kernel
theorem dX0_drawStreets_32 : decode cX0_drawStreets 32 = .ok (.goto 5, 3) := by decide +kernel
theorem dX0_drawStreets_35 : decode cX0_drawStreets 35 = .ok (.ldc 51, 2) := by decide +kernel
theorem dX0_drawStreets_37 : decode cX0_drawStreets 37 = .ok (.iastore, 1) := by decide +kernel
theorem dX0_drawStreets_38 : decode cX0_drawStreets 38 = .ok (.aload_n 0, 1) := by decide +kernel
theorem dX0_drawStreets_39 : decode cX0_drawStreets 39 = .ok (.getfield 15, 3) := by decide +kernel
theorem dX0_drawStreets_42 : decode cX0_drawStreets 42 = .ok (.iload_n 1, 1) := by decide +kernel
theorem dX0_drawStreets_43 : decode cX0_drawStreets 43 = .ok (.iload_n 2, 1) := by decide +kernel
theorem dX0_drawStreets_44 : decode cX0_drawStreets 44 = .ok (.iload_n 3, 1) := by decide +kernel
theorem dX0_drawStreets_45 : decode cX0_drawStreets 45 = .ok (.invokestatic 47, 3) := by decide +kernel
theorem dX0_drawStreets_48 : decode cX0_drawStreets 48 = .ok (.iconst (-1), 1) := by decide +kernel
theorem dX0_drawStreets_49 : decode cX0_drawStreets 49 = .ok (.iastore, 1) := by decide +kernel
theorem dX0_drawStreets_50 : decode cX0_drawStreets 50 = .ok (.iinc 3 1, 3) := by decide +kernel
theorem dX0_drawStreets_53 : decode cX0_drawStreets 53 = .ok (.goto (-43), 3) := by decide +kernel
theorem dX0_drawStreets_56 : decode cX0_drawStreets 56 = .ok (.iinc 2 1, 3) := by decide +kernel
theorem dX0_drawStreets_59 : decode cX0_drawStreets 59 = .ok (.goto (-57), 3) := by decide +kernel
theorem dX0_drawStreets_62 : decode cX0_drawStreets 62 = .ok (.aload_n 0, 1) := by decide +kernel
theorem dX0_drawStreets_63 : decode cX0_drawStreets 63 = .ok (.getfield 22, 3) := by decide +kernel
theorem dX0_drawStreets_66 : decode cX0_drawStreets 66 = .ok (.getfield 55, 3) := by decide +kernel
theorem dX0_drawStreets_69 : decode cX0_drawStreets 69 = .ok (.astore_n 2, 1) := by decide +kernel
theorem dX0_drawStreets_70 : decode cX0_drawStreets 70 = .ok (.iconst 0, 1) := by decide +kernel
theorem dX0_drawStreets_71 : decode cX0_drawStreets 71 = .ok (.istore_n 3, 1) := by decide +kernel
theorem dX0_drawStreets_72 : decode cX0_drawStreets 72 = .ok (.iload_n 3, 1) := by decide +kernel
theorem dX0_drawStreets_73 : decode cX0_drawStreets 73 = .ok (.aload_n 2, 1) := by decide +kernel
theorem dX0_drawStreets_74 : decode cX0_drawStreets 74 = .ok (.getfield 65, 3) := by decide +kernel
theorem dX0_drawStreets_77 : decode cX0_drawStreets 77 = .ok (.if_icmp .ge 93, 3) := by decide +kernel
theorem dX0_drawStreets_80 : decode cX0_drawStreets 80 = .ok (.aload_n 0, 1) := by decide +kernel
theorem dX0_drawStreets_81 : decode cX0_drawStreets 81 = .ok (.iload_n 1, 1) := by decide +kernel
theorem dX0_drawStreets_82 : decode cX0_drawStreets 82 = .ok (.iload_n 3, 1) := by decide +kernel
theorem dX0_drawStreets_83 : decode cX0_drawStreets 83 = .ok (.invokevirtual 68, 3) := by decide +kernel
theorem dX0_drawStreets_86 : decode cX0_drawStreets 86 = .ok (.istore 4, 2) := by decide +kernel
theorem dX0_drawStreets_88 : decode cX0_drawStreets 88 = .ok (.iconst 0, 1) := by decide +kernel
theorem dX0_drawStreets_89 : decode cX0_drawStreets 89 = .ok (.istore 5, 2) := by decide +kernel
theorem dX0_drawStreets_91 : decode cX0_drawStreets 91 = .ok (.iload 5, 2) := by decide +kernel
theorem dX0_drawStreets_93 : decode cX0_drawStreets 93 = .ok (.iconst 2, 1) := by decide +kernel
theorem dX0_drawStreets_94 : decode cX0_drawStreets 94 = .ok (.if_icmp .ge 70, 3) := by decide +kernel
theorem dX0_drawStreets_97 : decode cX0_drawStreets 97 = .ok (.iload_n 1, 1) := by decide +kernel
theorem dX0_drawStreets_98 : decode cX0_drawStreets 98 = .ok (.aload_n 2, 1) := by decide +kernel
theorem dX0_drawStreets_99 : decode cX0_drawStreets 99 = .ok (.iload_n 3, 1) := by decide +kernel
theorem dX0_drawStreets_100 : decode cX0_drawStreets 100 = .ok (.iconst 1, 1) := by decide +kernel
theorem dX0_drawStreets_101 : decode cX0_drawStreets 101 = .ok (.iload 5, 2) := by decide +kernel
theorem dX0_drawStreets_103 : decode cX0_drawStreets 103 = .ok (.isub, 1) := by decide +kernel
theorem dX0_drawStreets_104 : decode cX0_drawStreets 104 = .ok (.invokevirtual 71, 3) := by decide +kernel
theorem dX0_drawStreets_107 : decode cX0_drawStreets 107 = .ok (.aload_n 2, 1) := by decide +kernel
theorem dX0_drawStreets_108 : decode cX0_drawStreets 108 = .ok (.iload_n 3, 1) := by decide +kernel
theorem dX0_drawStreets_109 : decode cX0_drawStreets 109 = .ok (.iload 5, 2) := by decide +kernel
theorem dX0_drawStreets_111 : decode cX0_drawStreets 111 = .ok (.invokevirtual 71, 3) := by decide +kernel
theorem dX0_drawStreets_114 : decode cX0_drawStreets 114 = .ok (.invokestatic 47, 3) := by decide +kernel
theorem dX0_drawStreets_117 : decode cX0_drawStreets 117 = .ok (.istore 6, 2) := by decide +kernel
theorem dX0_drawStreets_119 : decode cX0_drawStreets 119 = .ok (.iload 4, 2) := by decide +kernel
theorem dX0_drawStreets_121 : decode cX0_drawStreets 121 = .ok (.iload 5, 2) := by decide +kernel
theorem dX0_drawStreets_123 : decode cX0_drawStreets 123 = .ok (.ishr, 1) := by decide +kernel
theorem dX0_drawStreets_124 : decode cX0_drawStreets 124 = .ok (.iconst 1, 1) := by decide +kernel
theorem dX0_drawStreets_125 : decode cX0_drawStreets 125 = .ok (.iand, 1) := by decide +kernel
theorem dX0_drawStreets_126 : decode cX0_drawStreets 126 = .ok (.ifCond .eq 32, 3) := by decide +kernel
theorem dX0_drawStreets_129 : decode cX0_drawStreets 129 = .ok (.aload_n 2, 1) := by decide +kernel
theorem dX0_drawStreets_130 : decode cX0_drawStreets 130 = .ok (.getfield 74, 3) := by decide +kernel
theorem dX0_drawStreets_133 : decode cX0_drawStreets 133 = .ok (.iload_n 3, 1) := by decide +kernel
theorem dX0_drawStreets_134 : decode cX0_drawStreets 134 = .ok (.iaload, 1) := by decide +kernel
theorem dX0_drawStreets_135 : decode cX0_drawStreets 135 = .ok (.aload_n 0, 1) := by decide +kernel
theorem dX0_drawStreets_136 : decode cX0_drawStreets 136 = .ok (.getfield 11, 3) := by decide +kernel
theorem dX0_drawStreets_139 : decode cX0_drawStreets 139 = .ok (.iload 6, 2) := by decide +kernel
theorem dX0_drawStreets_141 : decode cX0_drawStreets 141 = .ok (.iaload, 1) := by decide +kernel
theorem dX0_drawStreets_142 : decode cX0_drawStreets 142 = .ok (.if_icmp .ge 16, 3) := by decide +kernel
theorem dX0_drawStreets_145 : decode cX0_drawStreets 145 = .ok (.aload_n 0, 1) := by decide +kernel
theorem dX0_drawStreets_146 : decode cX0_drawStreets 146 = .ok (.getfield 11, 3) := by decide +kernel
theorem dX0_drawStreets_149 : decode cX0_drawStreets 149 = .ok (.iload 6, 2) := by decide +kernel
theorem dX0_drawStreets_151 : decode cX0_drawStreets 151 = .ok (.aload_n 2, 1) := by decide +kernel
theorem dX0_drawStreets_152 : decode cX0_drawStreets 152 = .ok (.getfield 74, 3) := by decide +kernel
theorem dX0_drawStreets_155 : decode cX0_drawStreets 155 = .ok (.iload_n 3, 1) := by decide +kernel
theorem dX0_drawStreets_156 : decode cX0_drawStreets 156 = .ok (.iaload, 1) := by decide +kernel
theorem dX0_drawStreets_157 : decode cX0_drawStreets 157 = .ok (.iastore, 1) := by decide +kernel
theorem dX0_drawStreets_158 : decode cX0_drawStreets 158 = .ok (.iinc 5 1, 3) := by decide +kernel
theorem dX0_drawStreets_161 : decode cX0_drawStreets 161 = .ok (.goto (-70), 3) := by decide +kernel
theorem dX0_drawStreets_164 : decode cX0_drawStreets 164 = .ok (.iinc 3 1, 3) := by decide +kernel
theorem dX0_drawStreets_167 : decode cX0_drawStreets 167 = .ok (.goto (-95), 3) := by decide +kernel
theorem dX0_drawStreets_170 : decode cX0_drawStreets 170 = .ok (.return_, 1) := by decide +kernel
set_option maxRecDepth 20000 in
theorem ggX0_drawHours_X0_spot : GoodIn wsX0_drawHours wsX0_spot := goodIn_r _ [9] (by decide +kernel) (by decide +kernel)
set_option maxRecDepth 20000 in
theorem gX0_drawHours_X0_spot : GoodIn wsX0_drawHours (va_wsS RX0 47 yX0_spot wsX0_spot) := goodIn_app (goodIn_of _ (by decide +kernel)) ggX0_drawHours_X0_spot
theorem dX0_drawHours_0 : decode cX0_drawHours 0 = .ok (.aload_n 0, 1) := by decide +kernel
theorem dX0_drawHours_1 : decode cX0_drawHours 1 = .ok (.getfield 22, 3) := by decide +kernel
theorem dX0_drawHours_4 : decode cX0_drawHours 4 = .ok (.getfield 55, 3) := by decide +kernel
theorem dX0_drawHours_7 : decode cX0_drawHours 7 = .ok (.getfield 75, 3) := by decide +kernel
theorem dX0_drawHours_10 : decode cX0_drawHours 10 = .ok (.istore_n 2, 1) := by decide +kernel
theorem dX0_drawHours_11 : decode cX0_drawHours 11 = .ok (.iconst 0, 1) := by decide +kernel
theorem dX0_drawHours_12 : decode cX0_drawHours 12 = .ok (.istore_n 3, 1) := by decide +kernel
theorem dX0_drawHours_13 : decode cX0_drawHours 13 = .ok (.iload_n 3, 1) := by decide +kernel
theorem dX0_drawHours_14 : decode cX0_drawHours 14 = .ok (.iload_n 2, 1) := by decide +kernel
theorem dX0_drawHours_15 : decode cX0_drawHours 15 = .ok (.if_icmp .ge 108, 3) := by decide +kernel
theorem dX0_drawHours_18 : decode cX0_drawHours 18 = .ok (.iconst 0, 1) := by decide +kernel
theorem dX0_drawHours_19 : decode cX0_drawHours 19 = .ok (.istore 4, 2) := by decide +kernel
theorem dX0_drawHours_21 : decode cX0_drawHours 21 = .ok (.iload 4, 2) := by decide +kernel
theorem dX0_drawHours_23 : decode cX0_drawHours 23 = .ok (.iload_n 2, 1) := by decide +kernel
theorem dX0_drawHours_24 : decode cX0_drawHours 24 = .ok (.if_icmp .ge 93, 3) := by decide +kernel
theorem dX0_drawHours_27 : decode cX0_drawHours 27 = .ok (.aload_n 0, 1) := by decide +kernel
theorem dX0_drawHours_28 : decode cX0_drawHours 28 = .ok (.getfield 11, 3) := by decide +kernel
theorem dX0_drawHours_31 : decode cX0_drawHours 31 = .ok (.iload_n 1, 1) := by decide +kernel
theorem dX0_drawHours_32 : decode cX0_drawHours 32 = .ok (.iload 4, 2) := by decide +kernel
theorem dX0_drawHours_34 : decode cX0_drawHours 34 = .ok (.iload_n 3, 1) := by decide +kernel
theorem dX0_drawHours_35 : decode cX0_drawHours 35 = .ok (.invokestatic 47, 3) := by decide +kernel
theorem dX0_drawHours_38 : decode cX0_drawHours 38 = .ok (.iaload, 1) := by decide +kernel
theorem dX0_drawHours_39 : decode cX0_drawHours 39 = .ok (.istore 5, 2) := by decide +kernel
theorem dX0_drawHours_41 : decode cX0_drawHours 41 = .ok (.iconst 0, 1) := by decide +kernel
theorem dX0_drawHours_42 : decode cX0_drawHours 42 = .ok (.istore 6, 2) := by decide +kernel
theorem dX0_drawHours_44 : decode cX0_drawHours 44 = .ok (.iload 5, 2) := by decide +kernel
theorem dX0_drawHours_46 : decode cX0_drawHours 46 = .ok (.ldc 51, 2) := by decide +kernel
theorem dX0_drawHours_48 : decode cX0_drawHours 48 = .ok (.if_icmp .ge 63, 3) := by decide +kernel
theorem dX0_drawHours_51 : decode cX0_drawHours 51 = .ok (.iload 6, 2) := by decide +kernel
theorem dX0_drawHours_53 : decode cX0_drawHours 53 = .ok (.iload_n 2, 1) := by decide +kernel
theorem dX0_drawHours_54 : decode cX0_drawHours 54 = .ok (.if_icmp .ge 57, 3) := by decide +kernel
theorem dX0_drawHours_57 : decode cX0_drawHours 57 = .ok (.iload 5, 2) := by decide +kernel
theorem dX0_drawHours_59 : decode cX0_drawHours 59 = .ok (.aload_n 0, 1) := by decide +kernel
theorem dX0_drawHours_60 : decode cX0_drawHours 60 = .ok (.getfield 11, 3) := by decide +kernel
theorem dX0_drawHours_63 : decode cX0_drawHours 63 = .ok (.iload_n 1, 1) := by decide +kernel
theorem dX0_drawHours_64 : decode cX0_drawHours 64 = .ok (.iload_n 3, 1) := by decide +kernel
theorem dX0_drawHours_65 : decode cX0_drawHours 65 = .ok (.iload 6, 2) := by decide +kernel
theorem dX0_drawHours_67 : decode cX0_drawHours 67 = .ok (.invokestatic 47, 3) := by decide +kernel
theorem dX0_drawHours_70 : decode cX0_drawHours 70 = .ok (.iaload, 1) := by decide +kernel
theorem dX0_drawHours_71 : decode cX0_drawHours 71 = .ok (.iadd, 1) := by decide +kernel
theorem dX0_drawHours_72 : decode cX0_drawHours 72 = .ok (.istore 7, 2) := by decide +kernel
theorem dX0_drawHours_74 : decode cX0_drawHours 74 = .ok (.iload_n 1, 1) := by decide +kernel
theorem dX0_drawHours_75 : decode cX0_drawHours 75 = .ok (.iload 4, 2) := by decide +kernel
theorem dX0_drawHours_77 : decode cX0_drawHours 77 = .ok (.iload 6, 2) := by decide +kernel
theorem dX0_drawHours_79 : decode cX0_drawHours 79 = .ok (.invokestatic 47, 3) := by decide +kernel
theorem dX0_drawHours_82 : decode cX0_drawHours 82 = .ok (.istore 8, 2) := by decide +kernel
theorem dX0_drawHours_84 : decode cX0_drawHours 84 = .ok (.iload 7, 2) := by decide +kernel
theorem dX0_drawHours_86 : decode cX0_drawHours 86 = .ok (.aload_n 0, 1) := by decide +kernel
theorem dX0_drawHours_87 : decode cX0_drawHours 87 = .ok (.getfield 11, 3) := by decide +kernel
theorem dX0_drawHours_90 : decode cX0_drawHours 90 = .ok (.iload 8, 2) := by decide +kernel
theorem dX0_drawHours_92 : decode cX0_drawHours 92 = .ok (.iaload, 1) := by decide +kernel
theorem dX0_drawHours_93 : decode cX0_drawHours 93 = .ok (.if_icmp .ge 12, 3) := by decide +kernel
theorem dX0_drawHours_96 : decode cX0_drawHours 96 = .ok (.aload_n 0, 1) := by decide +kernel
theorem dX0_drawHours_97 : decode cX0_drawHours 97 = .ok (.getfield 11, 3) := by decide +kernel
theorem dX0_drawHours_100 : decode cX0_drawHours 100 = .ok (.iload 8, 2) := by decide +kernel
theorem dX0_drawHours_102 : decode cX0_drawHours 102 = .ok (.iload 7, 2) := by decide +kernel
theorem dX0_drawHours_104 : decode cX0_drawHours 104 = .ok (.iastore, 1) := by decide +kernel
theorem dX0_drawHours_105 : decode cX0_drawHours 105 = .ok (.iinc 6 1, 3) := by decide +kernel
theorem dX0_drawHours_108 : decode cX0_drawHours 108 = .ok (.goto (-64), 3) := by decide +kernel
theorem dX0_drawHours_111 : decode cX0_drawHours 111 = .ok (.iinc 4 1, 3) := by decide +kernel
theorem dX0_drawHours_114 : decode cX0_drawHours 114 = .ok (.goto (-93), 3) := by decide +kernel
theorem dX0_drawHours_117 : decode cX0_drawHours 117 = .ok (.iinc 3 1, 3) := by decide +kernel
theorem dX0_drawHours_120 : decode cX0_drawHours 120 = .ok (.goto (-107), 3) := by decide +kernel
theorem dX0_drawHours_123 : decode cX0_drawHours 123 = .ok (.return_, 1) := by decide +kernel
set_option maxRecDepth 20000 in
theorem ggX0_drawFirst_X0_signOf : GoodIn wsX0_drawFirst wsX0_signOf := goodIn_r _ [8, 1, 9, 2, 10, 11, 12, 13, 14, 15, 33, 34, 35, 36, 37, 38, 39, 40, 41, 42, 43, 44, 45, 46, 47, 48, 49, 50, 51, 52, 53, 54, 55, 56, 57, 58, 59, 60, 61, 62] (by decide +kernel) (by decide +kernel)
set_option maxRecDepth 20000 in
theorem gX0_drawFirst_X0_signOf : GoodIn wsX0_drawFirst (wsV RX0 68 RX0 yX0_signOf wsX0_signOf) := goodIn_app (goodIn_of _ (by decide +kernel)) ggX0_drawFirst_X0_signOf
set_option maxRecDepth 20000 in
theorem ggX0_drawFirst_X0_drawFirstBy : GoodIn wsX0_drawFirst wsX0_drawFirstBy := goodIn_r _ [19, 1, 2, 20, 21, 22, 23, 24, 25, 26, 27, 13, 28, 29, 30, 31, 7, 32, 33, 34, 35, 36, 37, 38, 39, 40, 41, 42, 43, 44, 45, 46, 47, 48, 49, 50, 51, 52, 53, 54, 55, 56, 57, 58, 59, 60, 61, 62] (by decide +kernel) (by decide +kernel)
set_option maxRecDepth 20000 in
theorem gX0_drawFirst_X0_drawFirstBy : GoodIn wsX0_drawFirst (wsV RX0 78 RX0 yX0_drawFirstBy wsX0_drawFirstBy) := goodIn_app (goodIn_of _ (by decide +kernel)) ggX0_drawFirst_X0_drawFirstBy
theorem dX0_drawFirst_0 : decode cX0_drawFirst 0 = .ok (.aload_n 0, 1) := by decide +kernel
theorem dX0_drawFirst_1 : decode cX0_drawFirst 1 = .ok (.getfield 22, 3) := by decide +kernel
theorem dX0_drawFirst_4 : decode cX0_drawFirst 4 = .ok (.getfield 55, 3) := by decide +kernel
theorem dX0_drawFirst_7 : decode cX0_drawFirst 7 = .ok (.astore_n 2, 1) := by decide +kernel
theorem dX0_drawFirst_8 : decode cX0_drawFirst 8 = .ok (.aload_n 2, 1) := by decide +kernel
theorem dX0_drawFirst_9 : decode cX0_drawFirst 9 = .ok (.getfield 65, 3) := by decide +kernel
theorem dX0_drawFirst_12 : decode cX0_drawFirst 12 = .ok (.iconst 1, 1) := by decide +kernel
theorem dX0_drawFirst_13 : decode cX0_drawFirst 13 = .ok (.isub, 1) := by decide +kernel
theorem dX0_drawFirst_14 : decode cX0_drawFirst 14 = .ok (.istore_n 3, 1) := by decide +kernel
theorem dX0_drawFirst_15 : decode cX0_drawFirst 15 = .ok (.iload_n 3, 1) := by decide +kernel
theorem dX0_drawFirst_16 : decode cX0_drawFirst 16 = .ok (.ifCond .lt 50, 3) := by decide +kernel
theorem dX0_drawFirst_19 : decode cX0_drawFirst 19 = .ok (.aload_n 0, 1) := by decide +kernel
theorem dX0_drawFirst_20 : decode cX0_drawFirst 20 = .ok (.iload_n 1, 1) := by decide +kernel
theorem dX0_drawFirst_21 : decode cX0_drawFirst 21 = .ok (.iload_n 3, 1) := by decide +kernel
theorem dX0_drawFirst_22 : decode cX0_drawFirst 22 = .ok (.invokevirtual 68, 3) := by decide +kernel
theorem dX0_drawFirst_25 : decode cX0_drawFirst 25 = .ok (.istore 4, 2) := by decide +kernel
theorem dX0_drawFirst_27 : decode cX0_drawFirst 27 = .ok (.iconst 0, 1) := by decide +kernel
theorem dX0_drawFirst_28 : decode cX0_drawFirst 28 = .ok (.istore 5, 2) := by decide +kernel
theorem dX0_drawFirst_30 : decode cX0_drawFirst 30 = .ok (.iload 5, 2) := by decide +kernel
theorem dX0_drawFirst_32 : decode cX0_drawFirst 32 = .ok (.iconst 2, 1) := by decide +kernel
theorem dX0_drawFirst_33 : decode cX0_drawFirst 33 = .ok (.if_icmp .ge 27, 3) := by decide +kernel
theorem dX0_drawFirst_36 : decode cX0_drawFirst 36 = .ok (.iload 4, 2) := by decide +kernel
theorem dX0_drawFirst_38 : decode cX0_drawFirst 38 = .ok (.iload 5, 2) := by decide +kernel
theorem dX0_drawFirst_40 : decode cX0_drawFirst 40 = .ok (.ishr, 1) := by decide +kernel
theorem dX0_drawFirst_41 : decode cX0_drawFirst 41 = .ok (.iconst 1, 1) := by decide +kernel
theorem dX0_drawFirst_42 : decode cX0_drawFirst 42 = .ok (.iand, 1) := by decide +kernel
theorem dX0_drawFirst_43 : decode cX0_drawFirst 43 = .ok (.ifCond .eq 11, 3) := by decide +kernel
theorem dX0_drawFirst_46 : decode cX0_drawFirst 46 = .ok (.aload_n 0, 1) := by decide +kernel
theorem dX0_drawFirst_47 : decode cX0_drawFirst 47 = .ok (.iload_n 1, 1) := by decide +kernel
theorem dX0_drawFirst_48 : decode cX0_drawFirst 48 = .ok (.iload_n 3, 1) := by decide +kernel
theorem dX0_drawFirst_49 : decode cX0_drawFirst 49 = .ok (.iload 5, 2) := by decide +kernel
theorem dX0_drawFirst_51 : decode cX0_drawFirst 51 = .ok (.invokevirtual 78, 3) := by decide +kernel
theorem dX0_drawFirst_54 : decode cX0_drawFirst 54 = .ok (.iinc 5 1, 3) := by decide +kernel
theorem dX0_drawFirst_57 : decode cX0_drawFirst 57 = .ok (.goto (-27), 3) := by decide +kernel
theorem dX0_drawFirst_60 : decode cX0_drawFirst 60 = .ok (.iinc 3 (-1), 3) := by decide +kernel
theorem dX0_drawFirst_63 : decode cX0_drawFirst 63 = .ok (.goto (-48), 3) := by decide +kernel
theorem dX0_drawFirst_66 : decode cX0_drawFirst 66 = .ok (.return_, 1) := by decide +kernel
set_option maxRecDepth 20000 in
theorem ggX0_drawFirstBy_X7_cornerAcross : GoodIn wsX0_drawFirstBy wsX7_cornerAcross := goodIn_r _ [12, 13, 36, 37, 38, 39, 40, 41, 42, 43, 44, 45, 46, 47] (by decide +kernel) (by decide +kernel)
set_option maxRecDepth 20000 in
theorem gX0_drawFirstBy_X7_cornerAcross : GoodIn wsX0_drawFirstBy (wsV RX0 71 RX7 yX7_cornerAcross wsX7_cornerAcross) := goodIn_app (goodIn_of _ (by decide +kernel)) ggX0_drawFirstBy_X7_cornerAcross
set_option maxRecDepth 20000 in
theorem ggX0_drawFirstBy_X0_spot : GoodIn wsX0_drawFirstBy wsX0_spot := goodIn_r _ [17] (by decide +kernel) (by decide +kernel)
set_option maxRecDepth 20000 in
theorem gX0_drawFirstBy_X0_spot : GoodIn wsX0_drawFirstBy (va_wsS RX0 47 yX0_spot wsX0_spot) := goodIn_app (goodIn_of _ (by decide +kernel)) ggX0_drawFirstBy_X0_spot
theorem dX0_drawFirstBy_0 : decode cX0_drawFirstBy 0 = .ok (.aload_n 0, 1) := by decide +kernel
theorem dX0_drawFirstBy_1 : decode cX0_drawFirstBy 1 = .ok (.getfield 22, 3) := by decide +kernel
theorem dX0_drawFirstBy_4 : decode cX0_drawFirstBy 4 = .ok (.getfield 55, 3) := by decide +kernel
theorem dX0_drawFirstBy_7 : decode cX0_drawFirstBy 7 = .ok (.astore 4, 2) := by decide +kernel
theorem dX0_drawFirstBy_9 : decode cX0_drawFirstBy 9 = .ok (.aload 4, 2) := by decide +kernel
theorem dX0_drawFirstBy_11 : decode cX0_drawFirstBy 11 = .ok (.iload_n 2, 1) := by decide +kernel
theorem dX0_drawFirstBy_12 : decode cX0_drawFirstBy 12 = .ok (.iconst 1, 1) := by decide +kernel
theorem dX0_drawFirstBy_13 : decode cX0_drawFirstBy 13 = .ok (.iload_n 3, 1) := by decide +kernel
theorem dX0_drawFirstBy_14 : decode cX0_drawFirstBy 14 = .ok (.isub, 1) := by decide +kernel
theorem dX0_drawFirstBy_15 : decode cX0_drawFirstBy 15 = .ok (.invokevirtual 71, 3) := by decide +kernel
theorem dX0_drawFirstBy_18 : decode cX0_drawFirstBy 18 = .ok (.istore 5, 2) := by decide +kernel
theorem dX0_drawFirstBy_20 : decode cX0_drawFirstBy 20 = .ok (.aload 4, 2) := by decide +kernel
theorem dX0_drawFirstBy_22 : decode cX0_drawFirstBy 22 = .ok (.iload_n 2, 1) := by decide +kernel
theorem dX0_drawFirstBy_23 : decode cX0_drawFirstBy 23 = .ok (.iload_n 3, 1) := by decide +kernel
theorem dX0_drawFirstBy_24 : decode cX0_drawFirstBy 24 = .ok (.invokevirtual 71, 3) := by decide +kernel
theorem dX0_drawFirstBy_27 : decode cX0_drawFirstBy 27 = .ok (.istore 6, 2) := by decide +kernel
theorem dX0_drawFirstBy_29 : decode cX0_drawFirstBy 29 = .ok (.iconst 0, 1) := by decide +kernel
theorem dX0_drawFirstBy_30 : decode cX0_drawFirstBy 30 = .ok (.istore 7, 2) := by decide +kernel
theorem dX0_drawFirstBy_32 : decode cX0_drawFirstBy 32 = .ok (.iload 7, 2) := by decide +kernel
theorem dX0_drawFirstBy_34 : decode cX0_drawFirstBy 34 = .ok (.aload 4, 2) := by decide +kernel
theorem dX0_drawFirstBy_36 : decode cX0_drawFirstBy 36 = .ok (.getfield 75, 3) := by decide +kernel
theorem dX0_drawFirstBy_39 : decode cX0_drawFirstBy 39 = .ok (.if_icmp .ge 69, 3) := by decide +kernel
theorem dX0_drawFirstBy_42 : decode cX0_drawFirstBy 42 = .ok (.aload_n 0, 1) := by decide +kernel
theorem dX0_drawFirstBy_43 : decode cX0_drawFirstBy 43 = .ok (.getfield 11, 3) := by decide +kernel
theorem dX0_drawFirstBy_46 : decode cX0_drawFirstBy 46 = .ok (.iload_n 1, 1) := by decide +kernel
theorem dX0_drawFirstBy_47 : decode cX0_drawFirstBy 47 = .ok (.iload 6, 2) := by decide +kernel
theorem dX0_drawFirstBy_49 : decode cX0_drawFirstBy 49 = .ok (.iload 7, 2) := by decide +kernel
theorem dX0_drawFirstBy_51 : decode cX0_drawFirstBy 51 = .ok (.invokestatic 47, 3) := by decide +kernel
theorem dX0_drawFirstBy_54 : decode cX0_drawFirstBy 54 = .ok (.iaload, 1) := by decide +kernel
theorem dX0_drawFirstBy_55 : decode cX0_drawFirstBy 55 = .ok (.istore 8, 2) := by decide +kernel
theorem dX0_drawFirstBy_57 : decode cX0_drawFirstBy 57 = .ok (.iload_n 1, 1) := by decide +kernel
theorem dX0_drawFirstBy_58 : decode cX0_drawFirstBy 58 = .ok (.iload 5, 2) := by decide +kernel
theorem dX0_drawFirstBy_60 : decode cX0_drawFirstBy 60 = .ok (.iload 7, 2) := by decide +kernel
theorem dX0_drawFirstBy_62 : decode cX0_drawFirstBy 62 = .ok (.invokestatic 47, 3) := by decide +kernel
theorem dX0_drawFirstBy_65 : decode cX0_drawFirstBy 65 = .ok (.istore 9, 2) := by decide +kernel
theorem dX0_drawFirstBy_67 : decode cX0_drawFirstBy 67 = .ok (.iload 8, 2) := by decide +kernel
theorem dX0_drawFirstBy_69 : decode cX0_drawFirstBy 69 = .ok (.ldc 51, 2) := by decide +kernel
theorem dX0_drawFirstBy_71 : decode cX0_drawFirstBy 71 = .ok (.if_icmp .ge 31, 3) := by decide +kernel
theorem dX0_drawFirstBy_74 : decode cX0_drawFirstBy 74 = .ok (.aload 4, 2) := by decide +kernel
theorem dX0_drawFirstBy_76 : decode cX0_drawFirstBy 76 = .ok (.getfield 74, 3) := by decide +kernel
theorem dX0_drawFirstBy_79 : decode cX0_drawFirstBy 79 = .ok (.iload_n 2, 1) := by decide +kernel
theorem dX0_drawFirstBy_80 : decode cX0_drawFirstBy 80 = .ok (.iaload, 1) := by decide +kernel
theorem dX0_drawFirstBy_81 : decode cX0_drawFirstBy 81 = .ok (.iload 8, 2) := by decide +kernel
theorem dX0_drawFirstBy_83 : decode cX0_drawFirstBy 83 = .ok (.iadd, 1) := by decide +kernel
theorem dX0_drawFirstBy_84 : decode cX0_drawFirstBy 84 = .ok (.aload_n 0, 1) := by decide +kernel
theorem dX0_drawFirstBy_85 : decode cX0_drawFirstBy 85 = .ok (.getfield 11, 3) := by decide +kernel
theorem dX0_drawFirstBy_88 : decode cX0_drawFirstBy 88 = .ok (.iload 9, 2) := by decide +kernel
theorem dX0_drawFirstBy_90 : decode cX0_drawFirstBy 90 = .ok (.iaload, 1) := by decide +kernel
theorem dX0_drawFirstBy_91 : decode cX0_drawFirstBy 91 = .ok (.if_icmp .ne 11, 3) := by decide +kernel
theorem dX0_drawFirstBy_94 : decode cX0_drawFirstBy 94 = .ok (.aload_n 0, 1) := by decide +kernel
theorem dX0_drawFirstBy_95 : decode cX0_drawFirstBy 95 = .ok (.getfield 15, 3) := by decide +kernel
theorem dX0_drawFirstBy_98 : decode cX0_drawFirstBy 98 = .ok (.iload 9, 2) := by decide +kernel
theorem dX0_drawFirstBy_100 : decode cX0_drawFirstBy 100 = .ok (.iload_n 2, 1) := by decide +kernel
theorem dX0_drawFirstBy_101 : decode cX0_drawFirstBy 101 = .ok (.iastore, 1) := by decide +kernel
theorem dX0_drawFirstBy_102 : decode cX0_drawFirstBy 102 = .ok (.iinc 7 1, 3) := by decide +kernel
theorem dX0_drawFirstBy_105 : decode cX0_drawFirstBy 105 = .ok (.goto (-73), 3) := by decide +kernel
theorem dX0_drawFirstBy_108 : decode cX0_drawFirstBy 108 = .ok (.return_, 1) := by decide +kernel
theorem dX1_init_0 : decode cX1_init 0 = .ok (.aload_n 0, 1) := by decide +kernel
theorem dX1_init_1 : decode cX1_init 1 = .ok (.invokespecial 3, 3) := by decide +kernel
theorem dX1_init_4 : decode cX1_init 4 = .ok (.aload_n 0, 1) := by decide +kernel
theorem dX1_init_5 : decode cX1_init 5 = .ok (.bipush 64, 2) := by decide +kernel
theorem dX1_init_7 : decode cX1_init 7 = .ok (.newarray .long, 2) := by decide +kernel
theorem dX1_init_9 : decode cX1_init 9 = .ok (.putfield 11, 3) := by decide +kernel
theorem dX1_init_12 : decode cX1_init 12 = .ok (.aload_n 0, 1) := by decide +kernel
theorem dX1_init_13 : decode cX1_init 13 = .ok (.aload_n 1, 1) := by decide +kernel
theorem dX1_init_14 : decode cX1_init 14 = .ok (.putfield 15, 3) := by decide +kernel
theorem dX1_init_17 : decode cX1_init 17 = .ok (.aload_n 0, 1) := by decide +kernel
theorem dX1_init_18 : decode cX1_init 18 = .ok (.aload_n 2, 1) := by decide +kernel
theorem dX1_init_19 : decode cX1_init 19 = .ok (.putfield 19, 3) := by decide +kernel
theorem dX1_init_22 : decode cX1_init 22 = .ok (.aload_n 0, 1) := by decide +kernel
theorem dX1_init_23 : decode cX1_init 23 = .ok (.aload_n 3, 1) := by decide +kernel
theorem dX1_init_24 : decode cX1_init 24 = .ok (.putfield 23, 3) := by decide +kernel
theorem dX1_init_27 : decode cX1_init 27 = .ok (.return_, 1) := by decide +kernel
set_option maxRecDepth 20000 in
theorem ggX1_takeSteps_X1_takeStep : GoodIn wsX1_takeSteps wsX1_takeStep := goodIn_r _ [5, 6, 7, 8, 9, 10, 11, 12, 13, 14, 15, 16, 17, 18, 19, 20, 21, 22, 23, 24, 25, 4, 26, 27, 28, 29, 30, 31, 32, 33, 34, 35, 36, 37, 38, 39, 40, 41, 42, 43, 44, 45, 46, 47, 48, 49, 50, 51, 52, 53, 54, 55, 56, 57, 58, 59, 60, 61, 62, 63, 64, 65, 66, 67, 68, 69, 70, 71, 72, 73, 74, 75, 76, 77, 78, 79, 80, 81, 82, 83, 84, 85, 86, 87, 88, 89, 90, 91, 92, 93, 94, 95, 96, 97, 98, 99, 100, 101, 102, 103, 104, 105, 106, 107, 108, 109, 110, 111, 112, 113, 114, 115, 116, 117, 118, 119, 120, 121, 122, 123, 124, 125, 126, 127, 128, 129, 130, 131, 132, 133, 134, 135, 136, 137, 138, 139, 140, 141, 142, 143, 144, 145, 146, 147, 148, 149, 150, 151, 152, 153, 154, 155, 156, 157, 158, 159, 160, 161, 162, 163, 164, 165, 166, 167, 168, 169, 170, 171, 172, 173, 174, 175, 176, 177, 178, 179, 180, 181, 182, 183, 184, 185, 186, 187, 188, 189, 190, 191, 192, 193, 194, 195, 196, 197, 198, 199, 200, 201, 202, 203, 204, 205, 206, 207, 208, 209, 210, 211, 212, 213, 214, 215] (by decide +kernel) (by decide +kernel)
set_option maxRecDepth 20000 in
theorem gX1_takeSteps_X1_takeStep : GoodIn wsX1_takeSteps (wsV RX1 27 RX1 yX1_takeStep wsX1_takeStep) := goodIn_app (goodIn_of _ (by decide +kernel)) ggX1_takeSteps_X1_takeStep
theorem dX1_takeSteps_0 : decode cX1_takeSteps 0 = .ok (.iconst 0, 1) := by decide +kernel
theorem dX1_takeSteps_1 : decode cX1_takeSteps 1 = .ok (.istore_n 3, 1) := by decide +kernel
theorem dX1_takeSteps_2 : decode cX1_takeSteps 2 = .ok (.iload_n 3, 1) := by decide +kernel
theorem dX1_takeSteps_3 : decode cX1_takeSteps 3 = .ok (.iload_n 2, 1) := by decide +kernel
theorem dX1_takeSteps_4 : decode cX1_takeSteps 4 = .ok (.if_icmp .ge 20, 3) := by decide +kernel
theorem dX1_takeSteps_7 : decode cX1_takeSteps 7 = .ok (.aload_n 0, 1) := by decide +kernel
theorem dX1_takeSteps_8 : decode cX1_takeSteps 8 = .ok (.aload_n 1, 1) := by decide +kernel
theorem dX1_takeSteps_9 : decode cX1_takeSteps 9 = .ok (.invokevirtual 27, 3) := by decide +kernel
theorem dX1_takeSteps_12 : decode cX1_takeSteps 12 = .ok (.iconst 4, 1) := by decide +kernel
theorem dX1_takeSteps_13 : decode cX1_takeSteps 13 = .ok (.if_icmp .ne 5, 3) := by decide +kernel
theorem dX1_takeSteps_16 : decode cX1_takeSteps 16 = .ok (.iload_n 3, 1) := by decide +kernel
theorem dX1_takeSteps_17 : decode cX1_takeSteps 17 = .ok (.ireturn, 1) := by decide +kernel
theorem dX1_takeSteps_18 : decode cX1_takeSteps 18 = .ok (.iinc 3 1, 3) := by decide +kernel
theorem dX1_takeSteps_21 : decode cX1_takeSteps 21 = .ok (.goto (-19), 3) := by decide +kernel
theorem dX1_takeSteps_24 : decode cX1_takeSteps 24 = .ok (.iload_n 2, 1) := by decide +kernel
theorem dX1_takeSteps_25 : decode cX1_takeSteps 25 = .ok (.ireturn, 1) := by decide +kernel
set_option maxRecDepth 20000 in
theorem ggX1_takeStep_X9_isAtGoal : GoodIn wsX1_takeStep wsX9_isAtGoal := goodIn_r _ [15, 16, 17, 157, 158, 159, 160, 161, 162, 163, 164, 165] (by decide +kernel) (by decide +kernel)
set_option maxRecDepth 20000 in
theorem gX1_takeStep_X9_isAtGoal : GoodIn wsX1_takeStep (wsV RX1 31 RX9 yX9_isAtGoal wsX9_isAtGoal) := goodIn_app (goodIn_of _ (by decide +kernel)) ggX1_takeStep_X9_isAtGoal
set_option maxRecDepth 20000 in
theorem ggX1_takeStep_X1_lookAround : GoodIn wsX1_takeStep wsX1_lookAround := goodIn_r _ [22, 23, 24, 25, 26, 27, 5, 4, 28, 29, 30, 31, 32, 6, 33, 34, 35, 36, 37, 38, 14, 39, 40, 41, 42, 43, 44, 45, 46, 47, 48, 49, 50, 51, 52, 53, 54, 55, 56, 57, 58, 59, 60, 61, 62, 63, 21, 64, 9, 65, 66, 67, 68, 69, 70, 71, 72, 73, 74, 75, 76, 77, 78, 79, 80, 81, 82, 83, 84, 85, 86, 87, 88, 89, 90, 91, 92, 166, 167, 168, 169, 170, 171, 172, 173, 174, 175, 157, 158, 159, 160, 161, 162, 163, 164, 165, 182, 183, 184, 185, 186, 187, 188, 189, 190, 191, 192, 193, 194, 195, 196, 197, 198, 199, 200, 201, 202, 203, 204, 205, 206, 207, 208, 209, 210, 211] (by decide +kernel) (by decide +kernel)
set_option maxRecDepth 20000 in
theorem gX1_takeStep_X1_lookAround : GoodIn wsX1_takeStep (wsV RX1 47 RX1 yX1_lookAround wsX1_lookAround) := goodIn_app (goodIn_of _ (by decide +kernel)) ggX1_takeStep_X1_lookAround
set_option maxRecDepth 20000 in
theorem ggX1_takeStep_X1_chooseDeed : GoodIn wsX1_takeStep wsX1_chooseDeed := goodIn_r _ [96, 97, 98, 99, 100, 101, 102, 103, 104, 105, 106, 21, 107, 4, 6, 23, 36, 37, 38, 14, 39, 40, 41, 42, 43, 44, 45, 46, 108, 109, 110, 111, 112, 113, 114, 115, 116, 117, 118, 119, 120, 121, 122, 123, 124, 125, 126, 127, 128, 129, 130, 131, 9, 132, 133, 134, 26, 27, 32, 10, 8, 135, 136, 47, 137, 138, 139, 140, 141, 142, 143, 144, 145, 146, 147, 176, 177, 178, 179, 180, 181, 166, 167, 168, 169, 170, 171, 172, 173, 174, 175, 157, 158, 159, 160, 161, 162, 163, 164, 165] (by decide +kernel) (by decide +kernel)
set_option maxRecDepth 20000 in
theorem gX1_takeStep_X1_chooseDeed : GoodIn wsX1_takeStep (wsV RX1 51 RX1 yX1_chooseDeed wsX1_chooseDeed) := goodIn_app (goodIn_of _ (by decide +kernel)) ggX1_takeStep_X1_chooseDeed
set_option maxRecDepth 20000 in
theorem ggX1_takeStep_X1_follow : GoodIn wsX1_takeStep wsX1_follow := goodIn_r _ [151, 33, 34, 26, 135, 9, 152, 65, 66, 67, 68, 69, 70, 153, 154, 155, 156, 166, 167, 168, 169, 170, 171, 172, 173, 174, 175, 182, 183, 184, 185, 186, 187, 188, 189, 190, 191, 192, 193, 194, 195, 157, 158, 159, 160, 161, 162, 163, 164, 165, 196, 197, 198, 199, 200, 201, 202, 203, 204, 205, 206, 207] (by decide +kernel) (by decide +kernel)
set_option maxRecDepth 20000 in
theorem gX1_takeStep_X1_follow : GoodIn wsX1_takeStep (wsV RX1 61 RX1 yX1_follow wsX1_follow) := goodIn_app (goodIn_of _ (by decide +kernel)) ggX1_takeStep_X1_follow
set_option maxRecDepth 20000 in
theorem ggX1_takeStep_X9_dayNow : GoodIn wsX1_takeStep wsX9_dayNow := goodIn_r _ [44, 45, 46, 157, 158, 159, 160, 161, 162, 163, 164, 165] (by decide +kernel) (by decide +kernel)
set_option maxRecDepth 20000 in
theorem gX1_takeStep_X9_dayNow : GoodIn wsX1_takeStep (wsV RX1 68 RX9 yX9_dayNow wsX9_dayNow) := goodIn_app (goodIn_of _ (by decide +kernel)) ggX1_takeStep_X9_dayNow
theorem dX1_takeStep_0 : decode cX1_takeStep 0 = .ok (.aload_n 1, 1) := by decide +kernel
theorem dX1_takeStep_1 : decode cX1_takeStep 1 = .ok (.invokevirtual 31, 3) := by decide +kernel
theorem dX1_takeStep_4 : decode cX1_takeStep 4 = .ok (.ifCond .eq 5, 3) := by decide +kernel
theorem dX1_takeStep_7 : decode cX1_takeStep 7 = .ok (.iconst 4, 1) := by decide +kernel
theorem dX1_takeStep_8 : decode cX1_takeStep 8 = .ok (.ireturn, 1) := by decide +kernel
theorem dX1_takeStep_9 : decode cX1_takeStep 9 = .ok (.aload_n 1, 1) := by decide +kernel
theorem dX1_takeStep_10 : decode cX1_takeStep 10 = .ok (.getfield 37, 3) := by decide +kernel
theorem dX1_takeStep_13 : decode cX1_takeStep 13 = .ok (.ifCond .lt 27, 3) := by decide +kernel
theorem dX1_takeStep_16 : decode cX1_takeStep 16 = .ok (.aload_n 1, 1) := by decide +kernel
theorem dX1_takeStep_17 : decode cX1_takeStep 17 = .ok (.getfield 37, 3) := by decide +kernel
theorem dX1_takeStep_20 : decode cX1_takeStep 20 = .ok (.aload_n 0, 1) := by decide +kernel
theorem dX1_takeStep_21 : decode cX1_takeStep 21 = .ok (.getfield 23, 3) := by decide +kernel
theorem dX1_takeStep_24 : decode cX1_takeStep 24 = .ok (.arraylength, 1) := by decide +kernel
theorem dX1_takeStep_25 : decode cX1_takeStep 25 = .ok (.if_icmp .ge 15, 3) := by decide +kernel
theorem dX1_takeStep_28 : decode cX1_takeStep 28 = .ok (.aload_n 0, 1) := by decide +kernel
theorem dX1_takeStep_29 : decode cX1_takeStep 29 = .ok (.getfield 23, 3) := by decide +kernel
theorem dX1_takeStep_32 : decode cX1_takeStep 32 = .ok (.aload_n 1, 1) := by decide +kernel
theorem dX1_takeStep_33 : decode cX1_takeStep 33 = .ok (.getfield 37, 3) := by decide +kernel
theorem dX1_takeStep_36 : decode cX1_takeStep 36 = .ok (.aaload, 1) := by decide +kernel
theorem dX1_takeStep_37 : decode cX1_takeStep 37 = .ok (.goto 4, 3) := by decide +kernel
theorem dX1_takeStep_40 : decode cX1_takeStep 40 = .ok (.aconst_null, 1) := by decide +kernel
theorem dX1_takeStep_41 : decode cX1_takeStep 41 = .ok (.astore_n 2, 1) := by decide +kernel
theorem dX1_takeStep_42 : decode cX1_takeStep 42 = .ok (.aload_n 0, 1) := by decide +kernel
theorem dX1_takeStep_43 : decode cX1_takeStep 43 = .ok (.aload_n 1, 1) := by decide +kernel
theorem dX1_takeStep_44 : decode cX1_takeStep 44 = .ok (.aload_n 2, 1) := by decide +kernel
theorem dX1_takeStep_45 : decode cX1_takeStep 45 = .ok (.ifnull 14, 3) := by decide +kernel
theorem dX1_takeStep_48 : decode cX1_takeStep 48 = .ok (.aload_n 2, 1) := by decide +kernel
theorem dX1_takeStep_49 : decode cX1_takeStep 49 = .ok (.getfield 41, 3) := by decide +kernel
theorem dX1_takeStep_52 : decode cX1_takeStep 52 = .ok (.ifCond .eq 7, 3) := by decide +kernel
theorem dX1_takeStep_55 : decode cX1_takeStep 55 = .ok (.iconst 1, 1) := by decide +kernel
theorem dX1_takeStep_56 : decode cX1_takeStep 56 = .ok (.goto 4, 3) := by decide +kernel
theorem dX1_takeStep_59 : decode cX1_takeStep 59 = .ok (.iconst 0, 1) := by decide +kernel
theorem dX1_takeStep_60 : decode cX1_takeStep 60 = .ok (.invokevirtual 47, 3) := by decide +kernel
theorem dX1_takeStep_63 : decode cX1_takeStep 63 = .ok (.aload_n 2, 1) := by decide +kernel
theorem dX1_takeStep_64 : decode cX1_takeStep 64 = .ok (.ifnull 12, 3) := by decide +kernel
theorem dX1_takeStep_67 : decode cX1_takeStep 67 = .ok (.aload_n 0, 1) := by decide +kernel
theorem dX1_takeStep_68 : decode cX1_takeStep 68 = .ok (.aload_n 1, 1) := by decide +kernel
theorem dX1_takeStep_69 : decode cX1_takeStep 69 = .ok (.aload_n 2, 1) := by decide +kernel
theorem dX1_takeStep_70 : decode cX1_takeStep 70 = .ok (.invokevirtual 51, 3) := by decide +kernel
theorem dX1_takeStep_73 : decode cX1_takeStep 73 = .ok (.goto 15, 3) := by decide +kernel
theorem dX1_takeStep_76 : decode cX1_takeStep 76 = .ok (.aload_n 0, 1) := by decide +kernel
theorem dX1_takeStep_77 : decode cX1_takeStep 77 = .ok (.getfield 55, 3) := by decide +kernel
theorem dX1_takeStep_80 : decode cX1_takeStep 80 = .ok (.ifCond .eq 7, 3) := by decide +kernel
theorem dX1_takeStep_83 : decode cX1_takeStep 83 = .ok (.iconst 0, 1) := by decide +kernel
theorem dX1_takeStep_84 : decode cX1_takeStep 84 = .ok (.goto 4, 3) := by decide +kernel
theorem dX1_takeStep_87 : decode cX1_takeStep 87 = .ok (.iconst 3, 1) := by decide +kernel
theorem dX1_takeStep_88 : decode cX1_takeStep 88 = .ok (.istore_n 3, 1) := by decide +kernel
theorem dX1_takeStep_89 : decode cX1_takeStep 89 = .ok (.iload_n 3, 1) := by decide +kernel
theorem dX1_takeStep_90 : decode cX1_takeStep 90 = .ok (.ifCond .ne 15, 3) := by decide +kernel
theorem dX1_takeStep_93 : decode cX1_takeStep 93 = .ok (.aload_n 0, 1) := by decide +kernel
theorem dX1_takeStep_94 : decode cX1_takeStep 94 = .ok (.aload_n 1, 1) := by decide +kernel
theorem dX1_takeStep_95 : decode cX1_takeStep 95 = .ok (.aload_n 0, 1) := by decide +kernel
theorem dX1_takeStep_96 : decode cX1_takeStep 96 = .ok (.getfield 58, 3) := by decide +kernel
theorem dX1_takeStep_99 : decode cX1_takeStep 99 = .ok (.invokevirtual 61, 3) := by decide +kernel
theorem dX1_takeStep_102 : decode cX1_takeStep 102 = .ok (.goto 53, 3) := by decide +kernel
theorem dX1_takeStep_105 : decode cX1_takeStep 105 = .ok (.iload_n 3, 1) := by decide +kernel
theorem dX1_takeStep_106 : decode cX1_takeStep 106 = .ok (.iconst 1, 1) := by decide +kernel
theorem dX1_takeStep_107 : decode cX1_takeStep 107 = .ok (.if_icmp .ne 15, 3) := by decide +kernel
theorem dX1_takeStep_110 : decode cX1_takeStep 110 = .ok (.aload_n 0, 1) := by decide +kernel
theorem dX1_takeStep_111 : decode cX1_takeStep 111 = .ok (.aload_n 1, 1) := by decide +kernel
theorem dX1_takeStep_112 : decode cX1_takeStep 112 = .ok (.aload_n 0, 1) := by decide +kernel
theorem dX1_takeStep_113 : decode cX1_takeStep 113 = .ok (.getfield 65, 3) := by decide +kernel
theorem dX1_takeStep_116 : decode cX1_takeStep 116 = .ok (.invokevirtual 61, 3) := by decide +kernel
theorem dX1_takeStep_119 : decode cX1_takeStep 119 = .ok (.goto 36, 3) := by decide +kernel
theorem dX1_takeStep_122 : decode cX1_takeStep 122 = .ok (.iload_n 3, 1) := by decide +kernel
theorem dX1_takeStep_123 : decode cX1_takeStep 123 = .ok (.iconst 2, 1) := by decide +kernel
theorem dX1_takeStep_124 : decode cX1_takeStep 124 = .ok (.if_icmp .ne 21, 3) := by decide +kernel
theorem dX1_takeStep_127 : decode cX1_takeStep 127 = .ok (.aload_n 1, 1) := by decide +kernel
theorem dX1_takeStep_128 : decode cX1_takeStep 128 = .ok (.aload_n 1, 1) := by decide +kernel
theorem dX1_takeStep_129 : decode cX1_takeStep 129 = .ok (.invokevirtual 68, 3) := by decide +kernel
theorem dX1_takeStep_132 : decode cX1_takeStep 132 = .ok (.putfield 72, 3) := by decide +kernel
theorem dX1_takeStep_135 : decode cX1_takeStep 135 = .ok (.aload_n 1, 1) := by decide +kernel
theorem dX1_takeStep_136 : decode cX1_takeStep 136 = .ok (.dup, 1) := by decide +kernel
theorem dX1_takeStep_137 : decode cX1_takeStep 137 = .ok (.getfield 76, 3) := by decide +kernel
theorem dX1_takeStep_140 : decode cX1_takeStep 140 = .ok (.iconst 1, 1) := by decide +kernel
theorem dX1_takeStep_141 : decode cX1_takeStep 141 = .ok (.iadd, 1) := by decide +kernel
theorem dX1_takeStep_142 : decode cX1_takeStep 142 = .ok (.putfield 76, 3) := by decide +kernel
theorem dX1_takeStep_145 : decode cX1_takeStep 145 = .ok (.aload_n 1, 1) := by decide +kernel
theorem dX1_takeStep_146 : decode cX1_takeStep 146 = .ok (.dup, 1) := by decide +kernel
theorem dX1_takeStep_147 : decode cX1_takeStep 147 = .ok (.getfield 79, 3) := by decide +kernel
theorem dX1_takeStep_150 : decode cX1_takeStep 150 = .ok (.lconst 1, 1) := by decide +kernel
theorem dX1_takeStep_151 : decode cX1_takeStep 151 = .ok (.ladd, 1) := by decide +kernel
theorem dX1_takeStep_152 : decode cX1_takeStep 152 = .ok (.putfield 79, 3) := by decide +kernel
theorem dX1_takeStep_155 : decode cX1_takeStep 155 = .ok (.aload_n 1, 1) := by decide +kernel
theorem dX1_takeStep_156 : decode cX1_takeStep 156 = .ok (.dup, 1) := by decide +kernel
theorem dX1_takeStep_157 : decode cX1_takeStep 157 = .ok (.getfield 82, 3) := by decide +kernel
theorem dX1_takeStep_160 : decode cX1_takeStep 160 = .ok (.iconst 1, 1) := by decide +kernel
theorem dX1_takeStep_161 : decode cX1_takeStep 161 = .ok (.iadd, 1) := by decide +kernel
theorem dX1_takeStep_162 : decode cX1_takeStep 162 = .ok (.putfield 82, 3) := by decide +kernel
theorem dX1_takeStep_165 : decode cX1_takeStep 165 = .ok (.iload_n 3, 1) := by decide +kernel
theorem dX1_takeStep_166 : decode cX1_takeStep 166 = .ok (.ireturn, 1) := by decide +kernel
set_option maxRecDepth 20000 in
theorem ggX1_lookAround_X9_askedToday : GoodIn wsX1_lookAround wsX9_askedToday := goodIn_r _ [21, 22, 23, 24, 25, 20, 26, 27, 28, 87, 88, 89, 90, 91, 92, 93, 94, 95] (by decide +kernel) (by decide +kernel)
set_option maxRecDepth 20000 in
theorem gX1_lookAround_X9_askedToday : GoodIn wsX1_lookAround (wsV RX1 85 RX9 yX9_askedToday wsX9_askedToday) := goodIn_app (goodIn_of _ (by decide +kernel)) ggX1_lookAround_X9_askedToday
set_option maxRecDepth 20000 in
theorem ggX1_lookAround_X9_dayNow : GoodIn wsX1_lookAround wsX9_dayNow := goodIn_r _ [26, 27, 28, 87, 88, 89, 90, 91, 92, 93, 94, 95] (by decide +kernel) (by decide +kernel)
set_option maxRecDepth 20000 in
theorem gX1_lookAround_X9_dayNow : GoodIn wsX1_lookAround (wsV RX1 68 RX9 yX9_dayNow wsX9_dayNow) := goodIn_app (goodIn_of _ (by decide +kernel)) ggX1_lookAround_X9_dayNow
set_option maxRecDepth 20000 in
theorem ggX1_lookAround_X0_ofWeekday : GoodIn wsX1_lookAround wsX0_ofWeekday := goodIn_r _ [33, 34] (by decide +kernel) (by decide +kernel)
set_option maxRecDepth 20000 in
theorem gX1_lookAround_X0_ofWeekday : GoodIn wsX1_lookAround (va_wsS RX1 91 yX0_ofWeekday wsX0_ofWeekday) := goodIn_app (goodIn_of _ (by decide +kernel)) ggX1_lookAround_X0_ofWeekday
set_option maxRecDepth 20000 in
theorem ggX1_lookAround_X0_streetBy : GoodIn wsX1_lookAround wsX0_streetBy := goodIn_r _ [38, 39, 40, 41, 32, 42, 122, 123, 124, 125] (by decide +kernel) (by decide +kernel)
set_option maxRecDepth 20000 in
theorem gX1_lookAround_X0_streetBy : GoodIn wsX1_lookAround (wsV RX1 106 RX0 yX0_streetBy wsX0_streetBy) := goodIn_app (goodIn_of _ (by decide +kernel)) ggX1_lookAround_X0_streetBy
set_option maxRecDepth 20000 in
theorem ggX1_lookAround_X1_isOpenFor : GoodIn wsX1_lookAround wsX1_isOpenFor := goodIn_r _ [47, 14, 15, 4, 48, 1, 49, 50, 51, 52, 53, 54, 55, 56, 57, 58, 59, 60, 61, 62, 63, 64, 65, 66, 67, 68, 69, 70, 77, 78, 79, 80, 81, 82, 83, 84, 85, 86, 96, 97, 98, 99, 100, 101, 102, 103, 104, 105, 106, 107, 108, 109, 87, 88, 89, 90, 91, 92, 93, 94, 95, 110, 111, 112, 113, 114, 115, 116, 117, 118, 119, 120, 121] (by decide +kernel) (by decide +kernel)
set_option maxRecDepth 20000 in
theorem gX1_lookAround_X1_isOpenFor : GoodIn wsX1_lookAround (wsV RX1 110 RX1 yX1_isOpenFor wsX1_isOpenFor) := goodIn_app (goodIn_of _ (by decide +kernel)) ggX1_lookAround_X1_isOpenFor
set_option maxRecDepth 20000 in
theorem ggX1_lookAround_X0_hoursBy : GoodIn wsX1_lookAround wsX0_hoursBy := goodIn_r _ [74, 75, 76, 40, 41, 32, 42, 122, 123, 124, 125] (by decide +kernel) (by decide +kernel)
set_option maxRecDepth 20000 in
theorem gX1_lookAround_X0_hoursBy : GoodIn wsX1_lookAround (wsV RX1 114 RX0 yX0_hoursBy wsX0_hoursBy) := goodIn_app (goodIn_of _ (by decide +kernel)) ggX1_lookAround_X0_hoursBy
theorem dX1_lookAround_0 : decode cX1_lookAround 0 = .ok (.aload_n 1, 1) := by decide +kernel
theorem dX1_lookAround_1 : decode cX1_lookAround 1 = .ok (.invokevirtual 85, 3) := by decide +kernel
theorem dX1_lookAround_4 : decode cX1_lookAround 4 = .ok (.ifCond .eq 20, 3) := by decide +kernel
theorem dX1_lookAround_7 : decode cX1_lookAround 7 = .ok (.aload_n 0, 1) := by decide +kernel
theorem dX1_lookAround_8 : decode cX1_lookAround 8 = .ok (.getfield 88, 3) := by decide +kernel
theorem dX1_lookAround_11 : decode cX1_lookAround 11 = .ok (.ifCond .ne 13, 3) := by decide +kernel
theorem dX1_lookAround_14 : decode cX1_lookAround 14 = .ok (.aload_n 1, 1) := by decide +kernel
theorem dX1_lookAround_15 : decode cX1_lookAround 15 = .ok (.invokevirtual 68, 3) := by decide +kernel
theorem dX1_lookAround_18 : decode cX1_lookAround 18 = .ok (.invokestatic 91, 3) := by decide +kernel
theorem dX1_lookAround_21 : decode cX1_lookAround 21 = .ok (.goto 7, 3) := by decide +kernel
theorem dX1_lookAround_24 : decode cX1_lookAround 24 = .ok (.aload_n 1, 1) := by decide +kernel
theorem dX1_lookAround_25 : decode cX1_lookAround 25 = .ok (.getfield 97, 3) := by decide +kernel
theorem dX1_lookAround_28 : decode cX1_lookAround 28 = .ok (.istore_n 3, 1) := by decide +kernel
theorem dX1_lookAround_29 : decode cX1_lookAround 29 = .ok (.aload_n 0, 1) := by decide +kernel
theorem dX1_lookAround_30 : decode cX1_lookAround 30 = .ok (.aload_n 0, 1) := by decide +kernel
theorem dX1_lookAround_31 : decode cX1_lookAround 31 = .ok (.getfield 19, 3) := by decide +kernel
theorem dX1_lookAround_34 : decode cX1_lookAround 34 = .ok (.iload_n 3, 1) := by decide +kernel
theorem dX1_lookAround_35 : decode cX1_lookAround 35 = .ok (.aload_n 1, 1) := by decide +kernel
theorem dX1_lookAround_36 : decode cX1_lookAround 36 = .ok (.getfield 100, 3) := by decide +kernel
theorem dX1_lookAround_39 : decode cX1_lookAround 39 = .ok (.aload_n 1, 1) := by decide +kernel
theorem dX1_lookAround_40 : decode cX1_lookAround 40 = .ok (.getfield 103, 3) := by decide +kernel
theorem dX1_lookAround_43 : decode cX1_lookAround 43 = .ok (.invokevirtual 106, 3) := by decide +kernel
theorem dX1_lookAround_46 : decode cX1_lookAround 46 = .ok (.putfield 58, 3) := by decide +kernel
theorem dX1_lookAround_49 : decode cX1_lookAround 49 = .ok (.aload_n 0, 1) := by decide +kernel
theorem dX1_lookAround_50 : decode cX1_lookAround 50 = .ok (.aload_n 0, 1) := by decide +kernel
theorem dX1_lookAround_51 : decode cX1_lookAround 51 = .ok (.getfield 58, 3) := by decide +kernel
theorem dX1_lookAround_54 : decode cX1_lookAround 54 = .ok (.iconst (-1), 1) := by decide +kernel
theorem dX1_lookAround_55 : decode cX1_lookAround 55 = .ok (.if_icmp .eq 19, 3) := by decide +kernel
theorem dX1_lookAround_58 : decode cX1_lookAround 58 = .ok (.aload_n 0, 1) := by decide +kernel
theorem dX1_lookAround_59 : decode cX1_lookAround 59 = .ok (.aload_n 1, 1) := by decide +kernel
theorem dX1_lookAround_60 : decode cX1_lookAround 60 = .ok (.aload_n 0, 1) := by decide +kernel
theorem dX1_lookAround_61 : decode cX1_lookAround 61 = .ok (.getfield 58, 3) := by decide +kernel
theorem dX1_lookAround_64 : decode cX1_lookAround 64 = .ok (.invokevirtual 110, 3) := by decide +kernel
theorem dX1_lookAround_67 : decode cX1_lookAround 67 = .ok (.ifCond .eq 7, 3) := by decide +kernel
theorem dX1_lookAround_70 : decode cX1_lookAround 70 = .ok (.iconst 1, 1) := by decide +kernel
theorem dX1_lookAround_71 : decode cX1_lookAround 71 = .ok (.goto 4, 3) := by decide +kernel
theorem dX1_lookAround_74 : decode cX1_lookAround 74 = .ok (.iconst 0, 1) := by decide +kernel
theorem dX1_lookAround_75 : decode cX1_lookAround 75 = .ok (.putfield 55, 3) := by decide +kernel
theorem dX1_lookAround_78 : decode cX1_lookAround 78 = .ok (.aload_n 0, 1) := by decide +kernel
theorem dX1_lookAround_79 : decode cX1_lookAround 79 = .ok (.iconst 0, 1) := by decide +kernel
theorem dX1_lookAround_80 : decode cX1_lookAround 80 = .ok (.aload_n 0, 1) := by decide +kernel
theorem dX1_lookAround_81 : decode cX1_lookAround 81 = .ok (.getfield 19, 3) := by decide +kernel
theorem dX1_lookAround_84 : decode cX1_lookAround 84 = .ok (.iload_n 3, 1) := by decide +kernel
theorem dX1_lookAround_85 : decode cX1_lookAround 85 = .ok (.aload_n 1, 1) := by decide +kernel
theorem dX1_lookAround_86 : decode cX1_lookAround 86 = .ok (.getfield 100, 3) := by decide +kernel
theorem dX1_lookAround_89 : decode cX1_lookAround 89 = .ok (.aload_n 1, 1) := by decide +kernel
theorem dX1_lookAround_90 : decode cX1_lookAround 90 = .ok (.getfield 103, 3) := by decide +kernel
theorem dX1_lookAround_93 : decode cX1_lookAround 93 = .ok (.invokevirtual 114, 3) := by decide +kernel
theorem dX1_lookAround_96 : decode cX1_lookAround 96 = .ok (.invokestatic 117, 3) := by decide +kernel
theorem dX1_lookAround_99 : decode cX1_lookAround 99 = .ok (.putfield 123, 3) := by decide +kernel
theorem dX1_lookAround_102 : decode cX1_lookAround 102 = .ok (.aload_n 0, 1) := by decide +kernel
theorem dX1_lookAround_103 : decode cX1_lookAround 103 = .ok (.iconst (-1), 1) := by decide +kernel
theorem dX1_lookAround_104 : decode cX1_lookAround 104 = .ok (.putfield 65, 3) := by decide +kernel
theorem dX1_lookAround_107 : decode cX1_lookAround 107 = .ok (.iconst 0, 1) := by decide +kernel
theorem dX1_lookAround_108 : decode cX1_lookAround 108 = .ok (.istore 4, 2) := by decide +kernel
theorem dX1_lookAround_110 : decode cX1_lookAround 110 = .ok (.iload_n 2, 1) := by decide +kernel
theorem dX1_lookAround_111 : decode cX1_lookAround 111 = .ok (.ifCond .eq 48, 3) := by decide +kernel
theorem dX1_lookAround_114 : decode cX1_lookAround 114 = .ok (.aload_n 0, 1) := by decide +kernel
theorem dX1_lookAround_115 : decode cX1_lookAround 115 = .ok (.getfield 65, 3) := by decide +kernel
theorem dX1_lookAround_118 : decode cX1_lookAround 118 = .ok (.iconst (-1), 1) := by decide +kernel
theorem dX1_lookAround_119 : decode cX1_lookAround 119 = .ok (.if_icmp .ne 40, 3) := by decide +kernel
theorem dX1_lookAround_122 : decode cX1_lookAround 122 = .ok (.iload 4, 2) := by decide +kernel
theorem dX1_lookAround_124 : decode cX1_lookAround 124 = .ok (.aload_n 0, 1) := by decide +kernel
theorem dX1_lookAround_125 : decode cX1_lookAround 125 = .ok (.getfield 15, 3) := by decide +kernel
theorem dX1_lookAround_128 : decode cX1_lookAround 128 = .ok (.getfield 126, 3) := by decide +kernel
theorem dX1_lookAround_131 : decode cX1_lookAround 131 = .ok (.getfield 132, 3) := by decide +kernel
theorem dX1_lookAround_134 : decode cX1_lookAround 134 = .ok (.if_icmp .ge 25, 3) := by decide +kernel
theorem dX1_lookAround_137 : decode cX1_lookAround 137 = .ok (.aload_n 0, 1) := by decide +kernel
theorem dX1_lookAround_138 : decode cX1_lookAround 138 = .ok (.aload_n 1, 1) := by decide +kernel
theorem dX1_lookAround_139 : decode cX1_lookAround 139 = .ok (.iload 4, 2) := by decide +kernel
theorem dX1_lookAround_141 : decode cX1_lookAround 141 = .ok (.invokevirtual 110, 3) := by decide +kernel
theorem dX1_lookAround_144 : decode cX1_lookAround 144 = .ok (.ifCond .eq 9, 3) := by decide +kernel
theorem dX1_lookAround_147 : decode cX1_lookAround 147 = .ok (.aload_n 0, 1) := by decide +kernel
theorem dX1_lookAround_148 : decode cX1_lookAround 148 = .ok (.iload 4, 2) := by decide +kernel
theorem dX1_lookAround_150 : decode cX1_lookAround 150 = .ok (.putfield 65, 3) := by decide +kernel
theorem dX1_lookAround_153 : decode cX1_lookAround 153 = .ok (.iinc 4 1, 3) := by decide +kernel
theorem dX1_lookAround_156 : decode cX1_lookAround 156 = .ok (.goto (-46), 3) := by decide +kernel
theorem dX1_lookAround_159 : decode cX1_lookAround 159 = .ok (.return_, 1) := by decide +kernel
set_option maxRecDepth 20000 in
theorem ggX1_isOpenFor_X7_sideOf : GoodIn wsX1_isOpenFor wsX7_sideOf := goodIn_r _ [10, 11, 61, 62, 63, 64, 65, 66, 67, 68, 69, 70, 71, 72] (by decide +kernel) (by decide +kernel)
set_option maxRecDepth 20000 in
theorem gX1_isOpenFor_X7_sideOf : GoodIn wsX1_isOpenFor (wsV RX1 137 RX7 yX7_sideOf wsX7_sideOf) := goodIn_app (goodIn_of _ (by decide +kernel)) ggX1_isOpenFor_X7_sideOf
set_option maxRecDepth 20000 in
theorem ggX1_isOpenFor_X7_isOpen : GoodIn wsX1_isOpenFor wsX7_isOpen := goodIn_r _ [15, 16, 17, 18, 19, 9, 20, 21, 22, 23, 24, 25, 26, 27, 61, 62, 63, 64, 65, 66, 67, 68, 69, 70, 71, 72] (by decide +kernel) (by decide +kernel)
set_option maxRecDepth 20000 in
theorem gX1_isOpenFor_X7_isOpen : GoodIn wsX1_isOpenFor (wsV RX1 140 RX7 yX7_isOpen wsX7_isOpen) := goodIn_app (goodIn_of _ (by decide +kernel)) ggX1_isOpenFor_X7_isOpen
theorem dX1_isOpenFor_0 : decode cX1_isOpenFor 0 = .ok (.aload_n 0, 1) := by decide +kernel
theorem dX1_isOpenFor_1 : decode cX1_isOpenFor 1 = .ok (.getfield 15, 3) := by decide +kernel
theorem dX1_isOpenFor_4 : decode cX1_isOpenFor 4 = .ok (.getfield 126, 3) := by decide +kernel
theorem dX1_isOpenFor_7 : decode cX1_isOpenFor 7 = .ok (.iload_n 2, 1) := by decide +kernel
theorem dX1_isOpenFor_8 : decode cX1_isOpenFor 8 = .ok (.aload_n 1, 1) := by decide +kernel
theorem dX1_isOpenFor_9 : decode cX1_isOpenFor 9 = .ok (.getfield 100, 3) := by decide +kernel
theorem dX1_isOpenFor_12 : decode cX1_isOpenFor 12 = .ok (.invokevirtual 137, 3) := by decide +kernel
theorem dX1_isOpenFor_15 : decode cX1_isOpenFor 15 = .ok (.istore_n 3, 1) := by decide +kernel
theorem dX1_isOpenFor_16 : decode cX1_isOpenFor 16 = .ok (.iload_n 3, 1) := by decide +kernel
theorem dX1_isOpenFor_17 : decode cX1_isOpenFor 17 = .ok (.iconst (-1), 1) := by decide +kernel
theorem dX1_isOpenFor_18 : decode cX1_isOpenFor 18 = .ok (.if_icmp .eq 38, 3) := by decide +kernel
theorem dX1_isOpenFor_21 : decode cX1_isOpenFor 21 = .ok (.aload_n 0, 1) := by decide +kernel
theorem dX1_isOpenFor_22 : decode cX1_isOpenFor 22 = .ok (.getfield 15, 3) := by decide +kernel
theorem dX1_isOpenFor_25 : decode cX1_isOpenFor 25 = .ok (.getfield 126, 3) := by decide +kernel
theorem dX1_isOpenFor_28 : decode cX1_isOpenFor 28 = .ok (.iload_n 2, 1) := by decide +kernel
theorem dX1_isOpenFor_29 : decode cX1_isOpenFor 29 = .ok (.iload_n 3, 1) := by decide +kernel
theorem dX1_isOpenFor_30 : decode cX1_isOpenFor 30 = .ok (.aload_n 1, 1) := by decide +kernel
theorem dX1_isOpenFor_31 : decode cX1_isOpenFor 31 = .ok (.getfield 79, 3) := by decide +kernel
theorem dX1_isOpenFor_34 : decode cX1_isOpenFor 34 = .ok (.aload_n 0, 1) := by decide +kernel
theorem dX1_isOpenFor_35 : decode cX1_isOpenFor 35 = .ok (.getfield 88, 3) := by decide +kernel
theorem dX1_isOpenFor_38 : decode cX1_isOpenFor 38 = .ok (.ifCond .ne 7, 3) := by decide +kernel
theorem dX1_isOpenFor_41 : decode cX1_isOpenFor 41 = .ok (.iconst 1, 1) := by decide +kernel
theorem dX1_isOpenFor_42 : decode cX1_isOpenFor 42 = .ok (.goto 4, 3) := by decide +kernel
theorem dX1_isOpenFor_45 : decode cX1_isOpenFor 45 = .ok (.iconst 0, 1) := by decide +kernel
theorem dX1_isOpenFor_46 : decode cX1_isOpenFor 46 = .ok (.invokevirtual 140, 3) := by decide +kernel
theorem dX1_isOpenFor_49 : decode cX1_isOpenFor 49 = .ok (.ifCond .eq 7, 3) := by decide +kernel
theorem dX1_isOpenFor_52 : decode cX1_isOpenFor 52 = .ok (.iconst 1, 1) := by decide +kernel
theorem dX1_isOpenFor_53 : decode cX1_isOpenFor 53 = .ok (.goto 4, 3) := by decide +kernel
theorem dX1_isOpenFor_56 : decode cX1_isOpenFor 56 = .ok (.iconst 0, 1) := by decide +kernel
theorem dX1_isOpenFor_57 : decode cX1_isOpenFor 57 = .ok (.ireturn, 1) := by decide +kernel
set_option maxRecDepth 20000 in
theorem ggX1_follow_X7_sideOf : GoodIn wsX1_follow wsX7_sideOf := goodIn_r _ [11, 12, 50, 51, 52, 53, 54, 55, 56, 57, 58, 59, 60, 61] (by decide +kernel) (by decide +kernel)
set_option maxRecDepth 20000 in
theorem gX1_follow_X7_sideOf : GoodIn wsX1_follow (wsV RX1 137 RX7 yX7_sideOf wsX7_sideOf) := goodIn_app (goodIn_of _ (by decide +kernel)) ggX1_follow_X7_sideOf
set_option maxRecDepth 20000 in
theorem ggX1_follow_X7_cornerAcross : GoodIn wsX1_follow wsX7_cornerAcross := goodIn_r _ [16, 12, 50, 51, 52, 53, 54, 55, 56, 57, 58, 59, 60, 61] (by decide +kernel) (by decide +kernel)
set_option maxRecDepth 20000 in
theorem gX1_follow_X7_cornerAcross : GoodIn wsX1_follow (wsV RX1 147 RX7 yX7_cornerAcross wsX7_cornerAcross) := goodIn_app (goodIn_of _ (by decide +kernel)) ggX1_follow_X7_cornerAcross
theorem dX1_follow_0 : decode cX1_follow 0 = .ok (.iload_n 2, 1) := by decide +kernel
theorem dX1_follow_1 : decode cX1_follow 1 = .ok (.iconst (-1), 1) := by decide +kernel
theorem dX1_follow_2 : decode cX1_follow 2 = .ok (.if_icmp .ne 4, 3) := by decide +kernel
theorem dX1_follow_5 : decode cX1_follow 5 = .ok (.return_, 1) := by decide +kernel
theorem dX1_follow_6 : decode cX1_follow 6 = .ok (.aload_n 0, 1) := by decide +kernel
theorem dX1_follow_7 : decode cX1_follow 7 = .ok (.getfield 15, 3) := by decide +kernel
theorem dX1_follow_10 : decode cX1_follow 10 = .ok (.getfield 126, 3) := by decide +kernel
theorem dX1_follow_13 : decode cX1_follow 13 = .ok (.iload_n 2, 1) := by decide +kernel
theorem dX1_follow_14 : decode cX1_follow 14 = .ok (.aload_n 1, 1) := by decide +kernel
theorem dX1_follow_15 : decode cX1_follow 15 = .ok (.getfield 100, 3) := by decide +kernel
theorem dX1_follow_18 : decode cX1_follow 18 = .ok (.invokevirtual 137, 3) := by decide +kernel
theorem dX1_follow_21 : decode cX1_follow 21 = .ok (.istore_n 3, 1) := by decide +kernel
theorem dX1_follow_22 : decode cX1_follow 22 = .ok (.iload_n 3, 1) := by decide +kernel
theorem dX1_follow_23 : decode cX1_follow 23 = .ok (.iconst (-1), 1) := by decide +kernel
theorem dX1_follow_24 : decode cX1_follow 24 = .ok (.if_icmp .ne 4, 3) := by decide +kernel
theorem dX1_follow_27 : decode cX1_follow 27 = .ok (.return_, 1) := by decide +kernel
theorem dX1_follow_28 : decode cX1_follow 28 = .ok (.aload_n 1, 1) := by decide +kernel
theorem dX1_follow_29 : decode cX1_follow 29 = .ok (.aload_n 1, 1) := by decide +kernel
theorem dX1_follow_30 : decode cX1_follow 30 = .ok (.getfield 100, 3) := by decide +kernel
theorem dX1_follow_33 : decode cX1_follow 33 = .ok (.putfield 144, 3) := by decide +kernel
theorem dX1_follow_36 : decode cX1_follow 36 = .ok (.aload_n 1, 1) := by decide +kernel
theorem dX1_follow_37 : decode cX1_follow 37 = .ok (.aload_n 0, 1) := by decide +kernel
theorem dX1_follow_38 : decode cX1_follow 38 = .ok (.getfield 15, 3) := by decide +kernel
theorem dX1_follow_41 : decode cX1_follow 41 = .ok (.getfield 126, 3) := by decide +kernel
theorem dX1_follow_44 : decode cX1_follow 44 = .ok (.iload_n 2, 1) := by decide +kernel
theorem dX1_follow_45 : decode cX1_follow 45 = .ok (.iload_n 3, 1) := by decide +kernel
theorem dX1_follow_46 : decode cX1_follow 46 = .ok (.invokevirtual 147, 3) := by decide +kernel
theorem dX1_follow_49 : decode cX1_follow 49 = .ok (.putfield 100, 3) := by decide +kernel
theorem dX1_follow_52 : decode cX1_follow 52 = .ok (.aload_n 1, 1) := by decide +kernel
theorem dX1_follow_53 : decode cX1_follow 53 = .ok (.dup, 1) := by decide +kernel
theorem dX1_follow_54 : decode cX1_follow 54 = .ok (.getfield 79, 3) := by decide +kernel
theorem dX1_follow_57 : decode cX1_follow 57 = .ok (.aload_n 0, 1) := by decide +kernel
theorem dX1_follow_58 : decode cX1_follow 58 = .ok (.getfield 15, 3) := by decide +kernel
theorem dX1_follow_61 : decode cX1_follow 61 = .ok (.getfield 126, 3) := by decide +kernel
theorem dX1_follow_64 : decode cX1_follow 64 = .ok (.getfield 150, 3) := by decide +kernel
theorem dX1_follow_67 : decode cX1_follow 67 = .ok (.iload_n 2, 1) := by decide +kernel
theorem dX1_follow_68 : decode cX1_follow 68 = .ok (.iaload, 1) := by decide +kernel
theorem dX1_follow_69 : decode cX1_follow 69 = .ok (.i2l, 1) := by decide +kernel
theorem dX1_follow_70 : decode cX1_follow 70 = .ok (.ladd, 1) := by decide +kernel
theorem dX1_follow_71 : decode cX1_follow 71 = .ok (.putfield 79, 3) := by decide +kernel
theorem dX1_follow_74 : decode cX1_follow 74 = .ok (.return_, 1) := by decide +kernel
set_option maxRecDepth 20000 in
theorem ggX1_chooseDeed_X2_deedOf : GoodIn wsX1_chooseDeed wsX2_deedOf := goodIn_r _ [6, 7, 75, 76, 77, 78, 79, 80] (by decide +kernel) (by decide +kernel)
set_option maxRecDepth 20000 in
theorem gX1_chooseDeed_X2_deedOf : GoodIn wsX1_chooseDeed (wsV RX1 157 RX2 yX2_deedOf wsX2_deedOf) := goodIn_app (goodIn_of _ (by decide +kernel)) ggX1_chooseDeed_X2_deedOf
set_option maxRecDepth 20000 in
theorem ggX1_chooseDeed_X1_mayDo : GoodIn wsX1_chooseDeed wsX1_mayDo := goodIn_r _ [12, 13, 14, 15, 16, 17, 18, 19, 20, 21, 22, 23, 24, 25, 26, 27, 81, 82, 83, 84, 85, 86, 87, 88, 89, 90, 91, 92, 93, 94, 95, 96, 97, 98, 99] (by decide +kernel) (by decide +kernel)
set_option maxRecDepth 20000 in
theorem gX1_chooseDeed_X1_mayDo : GoodIn wsX1_chooseDeed (wsV RX1 161 RX1 yX1_mayDo wsX1_mayDo) := goodIn_app (goodIn_of _ (by decide +kernel)) ggX1_chooseDeed_X1_mayDo
set_option maxRecDepth 20000 in
theorem ggX1_chooseDeed_X1_holds : GoodIn wsX1_chooseDeed wsX1_holds := goodIn_r _ [31, 32, 33, 34, 35, 36, 5, 37, 38, 39, 40, 41, 42, 43, 44, 45, 46, 11, 47, 48, 49, 50, 51, 52, 53, 54, 15, 55, 56, 57, 13, 58, 59, 60, 61, 62, 63, 23, 24, 19, 25, 26, 27, 64, 65, 66, 67, 68, 69, 70, 71, 72, 73, 74, 81, 82, 83, 84, 85, 86, 87, 88, 89, 90, 75, 76, 77, 78, 79, 80, 91, 92, 93, 94, 95, 96, 97, 98, 99] (by decide +kernel) (by decide +kernel)
set_option maxRecDepth 20000 in
theorem gX1_chooseDeed_X1_holds : GoodIn wsX1_chooseDeed (wsV RX1 164 RX1 yX1_holds wsX1_holds) := goodIn_app (goodIn_of _ (by decide +kernel)) ggX1_chooseDeed_X1_holds
theorem dX1_chooseDeed_0 : decode cX1_chooseDeed 0 = .ok (.iconst 0, 1) := by decide +kernel
theorem dX1_chooseDeed_1 : decode cX1_chooseDeed 1 = .ok (.istore_n 3, 1) := by decide +kernel
theorem dX1_chooseDeed_2 : decode cX1_chooseDeed 2 = .ok (.iload_n 3, 1) := by decide +kernel
theorem dX1_chooseDeed_3 : decode cX1_chooseDeed 3 = .ok (.aload_n 2, 1) := by decide +kernel
theorem dX1_chooseDeed_4 : decode cX1_chooseDeed 4 = .ok (.getfield 154, 3) := by decide +kernel
theorem dX1_chooseDeed_7 : decode cX1_chooseDeed 7 = .ok (.if_icmp .ge 39, 3) := by decide +kernel
theorem dX1_chooseDeed_10 : decode cX1_chooseDeed 10 = .ok (.aload_n 2, 1) := by decide +kernel
theorem dX1_chooseDeed_11 : decode cX1_chooseDeed 11 = .ok (.iload_n 3, 1) := by decide +kernel
theorem dX1_chooseDeed_12 : decode cX1_chooseDeed 12 = .ok (.invokevirtual 157, 3) := by decide +kernel
theorem dX1_chooseDeed_15 : decode cX1_chooseDeed 15 = .ok (.istore 4, 2) := by decide +kernel
theorem dX1_chooseDeed_17 : decode cX1_chooseDeed 17 = .ok (.aload_n 0, 1) := by decide +kernel
theorem dX1_chooseDeed_18 : decode cX1_chooseDeed 18 = .ok (.aload_n 1, 1) := by decide +kernel
theorem dX1_chooseDeed_19 : decode cX1_chooseDeed 19 = .ok (.iload 4, 2) := by decide +kernel
theorem dX1_chooseDeed_21 : decode cX1_chooseDeed 21 = .ok (.invokevirtual 161, 3) := by decide +kernel
theorem dX1_chooseDeed_24 : decode cX1_chooseDeed 24 = .ok (.ifCond .eq 16, 3) := by decide +kernel
theorem dX1_chooseDeed_27 : decode cX1_chooseDeed 27 = .ok (.aload_n 0, 1) := by decide +kernel
theorem dX1_chooseDeed_28 : decode cX1_chooseDeed 28 = .ok (.aload_n 1, 1) := by decide +kernel
theorem dX1_chooseDeed_29 : decode cX1_chooseDeed 29 = .ok (.aload_n 2, 1) := by decide +kernel
theorem dX1_chooseDeed_30 : decode cX1_chooseDeed 30 = .ok (.iload_n 3, 1) := by decide +kernel
theorem dX1_chooseDeed_31 : decode cX1_chooseDeed 31 = .ok (.invokevirtual 164, 3) := by decide +kernel
theorem dX1_chooseDeed_34 : decode cX1_chooseDeed 34 = .ok (.ifCond .eq 6, 3) := by decide +kernel
theorem dX1_chooseDeed_37 : decode cX1_chooseDeed 37 = .ok (.iload 4, 2) := by decide +kernel
theorem dX1_chooseDeed_39 : decode cX1_chooseDeed 39 = .ok (.ireturn, 1) := by decide +kernel
theorem dX1_chooseDeed_40 : decode cX1_chooseDeed 40 = .ok (.iinc 3 1, 3) := by decide +kernel
theorem dX1_chooseDeed_43 : decode cX1_chooseDeed 43 = .ok (.goto (-41), 3) := by decide +kernel
theorem dX1_chooseDeed_46 : decode cX1_chooseDeed 46 = .ok (.iconst 3, 1) := by decide +kernel
theorem dX1_chooseDeed_47 : decode cX1_chooseDeed 47 = .ok (.ireturn, 1) := by decide +kernel
set_option maxRecDepth 20000 in
theorem ggX1_mayDo_X9_askedToday : GoodIn wsX1_mayDo wsX9_askedToday := goodIn_r _ [8, 9, 10, 11, 12, 7, 13, 14, 15, 26, 27, 28, 29, 30, 31, 32, 33, 34] (by decide +kernel) (by decide +kernel)
set_option maxRecDepth 20000 in
theorem gX1_mayDo_X9_askedToday : GoodIn wsX1_mayDo (wsV RX1 85 RX9 yX9_askedToday wsX9_askedToday) := goodIn_app (goodIn_of _ (by decide +kernel)) ggX1_mayDo_X9_askedToday
theorem dX1_mayDo_0 : decode cX1_mayDo 0 = .ok (.iload_n 2, 1) := by decide +kernel
theorem dX1_mayDo_1 : decode cX1_mayDo 1 = .ok (.tableswitch 66 0 2 #[27, 32, 46], 27) := by decide +kernel
theorem dX1_mayDo_28 : decode cX1_mayDo 28 = .ok (.aload_n 0, 1) := by decide +kernel
theorem dX1_mayDo_29 : decode cX1_mayDo 29 = .ok (.getfield 55, 3) := by decide +kernel
theorem dX1_mayDo_32 : decode cX1_mayDo 32 = .ok (.ireturn, 1) := by decide +kernel
theorem dX1_mayDo_33 : decode cX1_mayDo 33 = .ok (.aload_n 0, 1) := by decide +kernel
theorem dX1_mayDo_34 : decode cX1_mayDo 34 = .ok (.getfield 65, 3) := by decide +kernel
theorem dX1_mayDo_37 : decode cX1_mayDo 37 = .ok (.iconst (-1), 1) := by decide +kernel
theorem dX1_mayDo_38 : decode cX1_mayDo 38 = .ok (.if_icmp .eq 7, 3) := by decide +kernel
theorem dX1_mayDo_41 : decode cX1_mayDo 41 = .ok (.iconst 1, 1) := by decide +kernel
theorem dX1_mayDo_42 : decode cX1_mayDo 42 = .ok (.goto 4, 3) := by decide +kernel
theorem dX1_mayDo_45 : decode cX1_mayDo 45 = .ok (.iconst 0, 1) := by decide +kernel
theorem dX1_mayDo_46 : decode cX1_mayDo 46 = .ok (.ireturn, 1) := by decide +kernel
theorem dX1_mayDo_47 : decode cX1_mayDo 47 = .ok (.aload_n 0, 1) := by decide +kernel
theorem dX1_mayDo_48 : decode cX1_mayDo 48 = .ok (.getfield 88, 3) := by decide +kernel
theorem dX1_mayDo_51 : decode cX1_mayDo 51 = .ok (.ifCond .ne 14, 3) := by decide +kernel
theorem dX1_mayDo_54 : decode cX1_mayDo 54 = .ok (.aload_n 1, 1) := by decide +kernel
theorem dX1_mayDo_55 : decode cX1_mayDo 55 = .ok (.invokevirtual 85, 3) := by decide +kernel
theorem dX1_mayDo_58 : decode cX1_mayDo 58 = .ok (.ifCond .ne 7, 3) := by decide +kernel
theorem dX1_mayDo_61 : decode cX1_mayDo 61 = .ok (.iconst 1, 1) := by decide +kernel
theorem dX1_mayDo_62 : decode cX1_mayDo 62 = .ok (.goto 4, 3) := by decide +kernel
theorem dX1_mayDo_65 : decode cX1_mayDo 65 = .ok (.iconst 0, 1) := by decide +kernel
theorem dX1_mayDo_66 : decode cX1_mayDo 66 = .ok (.ireturn, 1) := by decide +kernel
theorem dX1_mayDo_67 : decode cX1_mayDo 67 = .ok (.iconst 1, 1) := by decide +kernel
theorem dX1_mayDo_68 : decode cX1_mayDo 68 = .ok (.ireturn, 1) := by decide +kernel
set_option maxRecDepth 20000 in
theorem ggX1_holds_X2_firstToken : GoodIn wsX1_holds wsX2_firstToken := goodIn_r _ [7, 8, 64, 65, 66, 67, 68, 69] (by decide +kernel) (by decide +kernel)
set_option maxRecDepth 20000 in
theorem gX1_holds_X2_firstToken : GoodIn wsX1_holds (wsV RX1 171 RX2 yX2_firstToken wsX2_firstToken) := goodIn_app (goodIn_of _ (by decide +kernel)) ggX1_holds_X2_firstToken
set_option maxRecDepth 20000 in
theorem ggX1_holds_X2_tokenAt : GoodIn wsX1_holds wsX2_tokenAt := goodIn_r _ [12, 13, 64, 65, 66, 67, 68, 69] (by decide +kernel) (by decide +kernel)
set_option maxRecDepth 20000 in
theorem gX1_holds_X2_tokenAt : GoodIn wsX1_holds (wsV RX1 174 RX2 yX2_tokenAt wsX2_tokenAt) := goodIn_app (goodIn_of _ (by decide +kernel)) ggX1_holds_X2_tokenAt
set_option maxRecDepth 20000 in
theorem ggX1_holds_X1_push : GoodIn wsX1_holds wsX1_push := goodIn_r _ [18, 1, 2, 54, 55, 56, 57, 58, 59, 60, 61, 62, 63] (by decide +kernel) (by decide +kernel)
set_option maxRecDepth 20000 in
theorem gX1_holds_X1_push : GoodIn wsX1_holds (wsV RX1 177 RX1 yX1_push wsX1_push) := goodIn_app (goodIn_of _ (by decide +kernel)) ggX1_holds_X1_push
set_option maxRecDepth 20000 in
theorem ggX1_holds_X1_valueOf : GoodIn wsX1_holds wsX1_valueOf := goodIn_r _ [22, 23, 24, 25, 26, 27, 28, 29, 30, 31, 32, 33, 34, 35, 36, 37, 38, 39, 40, 41, 42, 70, 71, 72, 73, 74, 75, 76, 77, 78, 54, 55, 56, 57, 58, 59, 60, 61, 62, 63] (by decide +kernel) (by decide +kernel)
set_option maxRecDepth 20000 in
theorem gX1_holds_X1_valueOf : GoodIn wsX1_holds (wsV RX1 181 RX1 yX1_valueOf wsX1_valueOf) := goodIn_app (goodIn_of _ (by decide +kernel)) ggX1_holds_X1_valueOf
set_option maxRecDepth 20000 in
theorem ggX1_holds_X1_turn : GoodIn wsX1_holds wsX1_turn := goodIn_r _ [46, 1, 2, 54, 55, 56, 57, 58, 59, 60, 61, 62, 63] (by decide +kernel) (by decide +kernel)
set_option maxRecDepth 20000 in
theorem gX1_holds_X1_turn : GoodIn wsX1_holds (wsV RX1 185 RX1 yX1_turn wsX1_turn) := goodIn_app (goodIn_of _ (by decide +kernel)) ggX1_holds_X1_turn
set_option maxRecDepth 20000 in
theorem ggX1_holds_X1_join : GoodIn wsX1_holds wsX1_join := goodIn_r _ [50, 1, 2, 51, 52, 17, 53, 54, 55, 56, 57, 58, 59, 60, 61, 62, 63] (by decide +kernel) (by decide +kernel)
set_option maxRecDepth 20000 in
theorem gX1_holds_X1_join : GoodIn wsX1_holds (wsV RX1 188 RX1 yX1_join wsX1_join) := goodIn_app (goodIn_of _ (by decide +kernel)) ggX1_holds_X1_join
theorem dX1_holds_0 : decode cX1_holds 0 = .ok (.aload_n 0, 1) := by decide +kernel
theorem dX1_holds_1 : decode cX1_holds 1 = .ok (.iconst 0, 1) := by decide +kernel
theorem dX1_holds_2 : decode cX1_holds 2 = .ok (.putfield 168, 3) := by decide +kernel
theorem dX1_holds_5 : decode cX1_holds 5 = .ok (.aload_n 2, 1) := by decide +kernel
theorem dX1_holds_6 : decode cX1_holds 6 = .ok (.iload_n 3, 1) := by decide +kernel
theorem dX1_holds_7 : decode cX1_holds 7 = .ok (.invokevirtual 171, 3) := by decide +kernel
theorem dX1_holds_10 : decode cX1_holds 10 = .ok (.istore 4, 2) := by decide +kernel
theorem dX1_holds_12 : decode cX1_holds 12 = .ok (.iload 4, 2) := by decide +kernel
theorem dX1_holds_14 : decode cX1_holds 14 = .ok (.aload_n 2, 1) := by decide +kernel
theorem dX1_holds_15 : decode cX1_holds 15 = .ok (.iload_n 3, 1) := by decide +kernel
theorem dX1_holds_16 : decode cX1_holds 16 = .ok (.iconst 1, 1) := by decide +kernel
theorem dX1_holds_17 : decode cX1_holds 17 = .ok (.iadd, 1) := by decide +kernel
theorem dX1_holds_18 : decode cX1_holds 18 = .ok (.invokevirtual 171, 3) := by decide +kernel
theorem dX1_holds_21 : decode cX1_holds 21 = .ok (.if_icmp .ge 78, 3) := by decide +kernel
theorem dX1_holds_24 : decode cX1_holds 24 = .ok (.aload_n 2, 1) := by decide +kernel
theorem dX1_holds_25 : decode cX1_holds 25 = .ok (.iload 4, 2) := by decide +kernel
theorem dX1_holds_27 : decode cX1_holds 27 = .ok (.invokevirtual 174, 3) := by decide +kernel
theorem dX1_holds_30 : decode cX1_holds 30 = .ok (.istore 5, 2) := by decide +kernel
theorem dX1_holds_32 : decode cX1_holds 32 = .ok (.iload 5, 2) := by decide +kernel
theorem dX1_holds_34 : decode cX1_holds 34 = .ok (.bipush 32, 2) := by decide +kernel
theorem dX1_holds_36 : decode cX1_holds 36 = .ok (.if_icmp .lt 16, 3) := by decide +kernel
theorem dX1_holds_39 : decode cX1_holds 39 = .ok (.aload_n 0, 1) := by decide +kernel
theorem dX1_holds_40 : decode cX1_holds 40 = .ok (.iload 5, 2) := by decide +kernel
theorem dX1_holds_42 : decode cX1_holds 42 = .ok (.bipush 32, 2) := by decide +kernel
theorem dX1_holds_44 : decode cX1_holds 44 = .ok (.isub, 1) := by decide +kernel
theorem dX1_holds_45 : decode cX1_holds 45 = .ok (.i2l, 1) := by decide +kernel
theorem dX1_holds_46 : decode cX1_holds 46 = .ok (.invokevirtual 177, 3) := by decide +kernel
theorem dX1_holds_49 : decode cX1_holds 49 = .ok (.goto 44, 3) := by decide +kernel
theorem dX1_holds_52 : decode cX1_holds 52 = .ok (.iload 5, 2) := by decide +kernel
theorem dX1_holds_54 : decode cX1_holds 54 = .ok (.bipush 10, 2) := by decide +kernel
theorem dX1_holds_56 : decode cX1_holds 56 = .ok (.if_icmp .ge 17, 3) := by decide +kernel
theorem dX1_holds_59 : decode cX1_holds 59 = .ok (.aload_n 0, 1) := by decide +kernel
theorem dX1_holds_60 : decode cX1_holds 60 = .ok (.aload_n 0, 1) := by decide +kernel
theorem dX1_holds_61 : decode cX1_holds 61 = .ok (.aload_n 1, 1) := by decide +kernel
theorem dX1_holds_62 : decode cX1_holds 62 = .ok (.iload 5, 2) := by decide +kernel
theorem dX1_holds_64 : decode cX1_holds 64 = .ok (.invokevirtual 181, 3) := by decide +kernel
theorem dX1_holds_67 : decode cX1_holds 67 = .ok (.invokevirtual 177, 3) := by decide +kernel
theorem dX1_holds_70 : decode cX1_holds 70 = .ok (.goto 23, 3) := by decide +kernel
theorem dX1_holds_73 : decode cX1_holds 73 = .ok (.iload 5, 2) := by decide +kernel
theorem dX1_holds_75 : decode cX1_holds 75 = .ok (.bipush 19, 2) := by decide +kernel
theorem dX1_holds_77 : decode cX1_holds 77 = .ok (.if_icmp .ne 10, 3) := by decide +kernel
theorem dX1_holds_80 : decode cX1_holds 80 = .ok (.aload_n 0, 1) := by decide +kernel
theorem dX1_holds_81 : decode cX1_holds 81 = .ok (.invokevirtual 185, 3) := by decide +kernel
theorem dX1_holds_84 : decode cX1_holds 84 = .ok (.goto 9, 3) := by decide +kernel
theorem dX1_holds_87 : decode cX1_holds 87 = .ok (.aload_n 0, 1) := by decide +kernel
theorem dX1_holds_88 : decode cX1_holds 88 = .ok (.iload 5, 2) := by decide +kernel
theorem dX1_holds_90 : decode cX1_holds 90 = .ok (.invokevirtual 188, 3) := by decide +kernel
theorem dX1_holds_93 : decode cX1_holds 93 = .ok (.iinc 4 1, 3) := by decide +kernel
theorem dX1_holds_96 : decode cX1_holds 96 = .ok (.goto (-84), 3) := by decide +kernel
theorem dX1_holds_99 : decode cX1_holds 99 = .ok (.aload_n 0, 1) := by decide +kernel
theorem dX1_holds_100 : decode cX1_holds 100 = .ok (.getfield 168, 3) := by decide +kernel
theorem dX1_holds_103 : decode cX1_holds 103 = .ok (.iconst 1, 1) := by decide +kernel
theorem dX1_holds_104 : decode cX1_holds 104 = .ok (.if_icmp .lt 19, 3) := by decide +kernel
theorem dX1_holds_107 : decode cX1_holds 107 = .ok (.aload_n 0, 1) := by decide +kernel
theorem dX1_holds_108 : decode cX1_holds 108 = .ok (.getfield 11, 3) := by decide +kernel
theorem dX1_holds_111 : decode cX1_holds 111 = .ok (.aload_n 0, 1) := by decide +kernel
theorem dX1_holds_112 : decode cX1_holds 112 = .ok (.getfield 168, 3) := by decide +kernel
theorem dX1_holds_115 : decode cX1_holds 115 = .ok (.iconst 1, 1) := by decide +kernel
theorem dX1_holds_116 : decode cX1_holds 116 = .ok (.isub, 1) := by decide +kernel
theorem dX1_holds_117 : decode cX1_holds 117 = .ok (.laload, 1) := by decide +kernel
theorem dX1_holds_118 : decode cX1_holds 118 = .ok (.lconst 0, 1) := by decide +kernel
theorem dX1_holds_119 : decode cX1_holds 119 = .ok (.lcmp, 1) := by decide +kernel
theorem dX1_holds_120 : decode cX1_holds 120 = .ok (.ifCond .eq 7, 3) := by decide +kernel
theorem dX1_holds_123 : decode cX1_holds 123 = .ok (.iconst 1, 1) := by decide +kernel
theorem dX1_holds_124 : decode cX1_holds 124 = .ok (.goto 4, 3) := by decide +kernel
theorem dX1_holds_127 : decode cX1_holds 127 = .ok (.iconst 0, 1) := by decide +kernel
theorem dX1_holds_128 : decode cX1_holds 128 = .ok (.ireturn, 1) := by decide +kernel
theorem dX1_push_0 : decode cX1_push 0 = .ok (.aload_n 0, 1) := by decide +kernel
theorem dX1_push_1 : decode cX1_push 1 = .ok (.getfield 168, 3) := by decide +kernel
theorem dX1_push_4 : decode cX1_push 4 = .ok (.bipush 64, 2) := by decide +kernel
theorem dX1_push_6 : decode cX1_push 6 = .ok (.if_icmp .ge 23, 3) := by decide +kernel
theorem dX1_push_9 : decode cX1_push 9 = .ok (.aload_n 0, 1) := by decide +kernel
theorem dX1_push_10 : decode cX1_push 10 = .ok (.getfield 11, 3) := by decide +kernel
theorem dX1_push_13 : decode cX1_push 13 = .ok (.aload_n 0, 1) := by decide +kernel
theorem dX1_push_14 : decode cX1_push 14 = .ok (.getfield 168, 3) := by decide +kernel
theorem dX1_push_17 : decode cX1_push 17 = .ok (.lload_n 1, 1) := by decide +kernel
theorem dX1_push_18 : decode cX1_push 18 = .ok (.lastore, 1) := by decide +kernel
theorem dX1_push_19 : decode cX1_push 19 = .ok (.aload_n 0, 1) := by decide +kernel
theorem dX1_push_20 : decode cX1_push 20 = .ok (.dup, 1) := by decide +kernel
theorem dX1_push_21 : decode cX1_push 21 = .ok (.getfield 168, 3) := by decide +kernel
theorem dX1_push_24 : decode cX1_push 24 = .ok (.iconst 1, 1) := by decide +kernel
theorem dX1_push_25 : decode cX1_push 25 = .ok (.iadd, 1) := by decide +kernel
theorem dX1_push_26 : decode cX1_push 26 = .ok (.putfield 168, 3) := by decide +kernel
theorem dX1_push_29 : decode cX1_push 29 = .ok (.return_, 1) := by decide +kernel
theorem dX1_turn_0 : decode cX1_turn 0 = .ok (.aload_n 0, 1) := by decide +kernel
theorem dX1_turn_1 : decode cX1_turn 1 = .ok (.getfield 168, 3) := by decide +kernel
theorem dX1_turn_4 : decode cX1_turn 4 = .ok (.ifCond .le 27, 3) := by decide +kernel
theorem dX1_turn_7 : decode cX1_turn 7 = .ok (.aload_n 0, 1) := by decide +kernel
theorem dX1_turn_8 : decode cX1_turn 8 = .ok (.getfield 11, 3) := by decide +kernel
theorem dX1_turn_11 : decode cX1_turn 11 = .ok (.aload_n 0, 1) := by decide +kernel
theorem dX1_turn_12 : decode cX1_turn 12 = .ok (.getfield 168, 3) := by decide +kernel
theorem dX1_turn_15 : decode cX1_turn 15 = .ok (.iconst 1, 1) := by decide +kernel
theorem dX1_turn_16 : decode cX1_turn 16 = .ok (.isub, 1) := by decide +kernel
theorem dX1_turn_17 : decode cX1_turn 17 = .ok (.lconst 1, 1) := by decide +kernel
theorem dX1_turn_18 : decode cX1_turn 18 = .ok (.aload_n 0, 1) := by decide +kernel
theorem dX1_turn_19 : decode cX1_turn 19 = .ok (.getfield 11, 3) := by decide +kernel
theorem dX1_turn_22 : decode cX1_turn 22 = .ok (.aload_n 0, 1) := by decide +kernel
theorem dX1_turn_23 : decode cX1_turn 23 = .ok (.getfield 168, 3) := by decide +kernel
theorem dX1_turn_26 : decode cX1_turn 26 = .ok (.iconst 1, 1) := by decide +kernel
theorem dX1_turn_27 : decode cX1_turn 27 = .ok (.isub, 1) := by decide +kernel
theorem dX1_turn_28 : decode cX1_turn 28 = .ok (.laload, 1) := by decide +kernel
theorem dX1_turn_29 : decode cX1_turn 29 = .ok (.lsub, 1) := by decide +kernel
theorem dX1_turn_30 : decode cX1_turn 30 = .ok (.lastore, 1) := by decide +kernel
theorem dX1_turn_31 : decode cX1_turn 31 = .ok (.return_, 1) := by decide +kernel
set_option maxRecDepth 20000 in
theorem ggX1_join_X1_joined : GoodIn wsX1_join wsX1_joined := goodIn_r _ [6] (by decide +kernel) (by decide +kernel)
set_option maxRecDepth 20000 in
theorem gX1_join_X1_joined : GoodIn wsX1_join (va_wsS RX1 192 yX1_joined wsX1_joined) := goodIn_app (goodIn_of _ (by decide +kernel)) ggX1_join_X1_joined
theorem dX1_join_0 : decode cX1_join 0 = .ok (.aload_n 0, 1) := by decide +kernel
theorem dX1_join_1 : decode cX1_join 1 = .ok (.getfield 168, 3) := by decide +kernel
theorem dX1_join_4 : decode cX1_join 4 = .ok (.iconst 1, 1) := by decide +kernel
theorem dX1_join_5 : decode cX1_join 5 = .ok (.if_icmp .le 48, 3) := by decide +kernel
theorem dX1_join_8 : decode cX1_join 8 = .ok (.aload_n 0, 1) := by decide +kernel
theorem dX1_join_9 : decode cX1_join 9 = .ok (.dup, 1) := by decide +kernel
theorem dX1_join_10 : decode cX1_join 10 = .ok (.getfield 168, 3) := by decide +kernel
theorem dX1_join_13 : decode cX1_join 13 = .ok (.iconst 1, 1) := by decide +kernel
theorem dX1_join_14 : decode cX1_join 14 = .ok (.isub, 1) := by decide +kernel
theorem dX1_join_15 : decode cX1_join 15 = .ok (.putfield 168, 3) := by decide +kernel
theorem dX1_join_18 : decode cX1_join 18 = .ok (.aload_n 0, 1) := by decide +kernel
theorem dX1_join_19 : decode cX1_join 19 = .ok (.getfield 11, 3) := by decide +kernel
theorem dX1_join_22 : decode cX1_join 22 = .ok (.aload_n 0, 1) := by decide +kernel
theorem dX1_join_23 : decode cX1_join 23 = .ok (.getfield 168, 3) := by decide +kernel
theorem dX1_join_26 : decode cX1_join 26 = .ok (.iconst 1, 1) := by decide +kernel
theorem dX1_join_27 : decode cX1_join 27 = .ok (.isub, 1) := by decide +kernel
theorem dX1_join_28 : decode cX1_join 28 = .ok (.iload_n 1, 1) := by decide +kernel
theorem dX1_join_29 : decode cX1_join 29 = .ok (.aload_n 0, 1) := by decide +kernel
theorem dX1_join_30 : decode cX1_join 30 = .ok (.getfield 11, 3) := by decide +kernel
theorem dX1_join_33 : decode cX1_join 33 = .ok (.aload_n 0, 1) := by decide +kernel
theorem dX1_join_34 : decode cX1_join 34 = .ok (.getfield 168, 3) := by decide +kernel
theorem dX1_join_37 : decode cX1_join 37 = .ok (.iconst 1, 1) := by decide +kernel
theorem dX1_join_38 : decode cX1_join 38 = .ok (.isub, 1) := by decide +kernel
theorem dX1_join_39 : decode cX1_join 39 = .ok (.laload, 1) := by decide +kernel
theorem dX1_join_40 : decode cX1_join 40 = .ok (.aload_n 0, 1) := by decide +kernel
theorem dX1_join_41 : decode cX1_join 41 = .ok (.getfield 11, 3) := by decide +kernel
theorem dX1_join_44 : decode cX1_join 44 = .ok (.aload_n 0, 1) := by decide +kernel
theorem dX1_join_45 : decode cX1_join 45 = .ok (.getfield 168, 3) := by decide +kernel
theorem dX1_join_48 : decode cX1_join 48 = .ok (.laload, 1) := by decide +kernel
theorem dX1_join_49 : decode cX1_join 49 = .ok (.invokestatic 192, 3) := by decide +kernel
theorem dX1_join_52 : decode cX1_join 52 = .ok (.lastore, 1) := by decide +kernel
theorem dX1_join_53 : decode cX1_join 53 = .ok (.return_, 1) := by decide +kernel
theorem dX1_joined_0 : decode cX1_joined 0 = .ok (.iload_n 0, 1) := by decide +kernel
theorem dX1_joined_1 : decode cX1_joined 1 = .ok (.tableswitch 149 10 20 #[59, 63, 67, 71, 85, 97, 109, 121, 133, 149, 145], 59) := by decide +kernel
theorem dX1_joined_60 : decode cX1_joined 60 = .ok (.lload_n 1, 1) := by decide +kernel
theorem dX1_joined_61 : decode cX1_joined 61 = .ok (.lload_n 3, 1) := by decide +kernel
theorem dX1_joined_62 : decode cX1_joined 62 = .ok (.ladd, 1) := by decide +kernel
theorem dX1_joined_63 : decode cX1_joined 63 = .ok (.lreturn, 1) := by decide +kernel
theorem dX1_joined_64 : decode cX1_joined 64 = .ok (.lload_n 1, 1) := by decide +kernel
theorem dX1_joined_65 : decode cX1_joined 65 = .ok (.lload_n 3, 1) := by decide +kernel
theorem dX1_joined_66 : decode cX1_joined 66 = .ok (.lsub, 1) := by decide +kernel
theorem dX1_joined_67 : decode cX1_joined 67 = .ok (.lreturn, 1) := by decide +kernel
theorem dX1_joined_68 : decode cX1_joined 68 = .ok (.lload_n 1, 1) := by decide +kernel
theorem dX1_joined_69 : decode cX1_joined 69 = .ok (.lload_n 3, 1) := by decide +kernel
theorem dX1_joined_70 : decode cX1_joined 70 = .ok (.lmul, 1) := by decide +kernel
theorem dX1_joined_71 : decode cX1_joined 71 = .ok (.lreturn, 1) := by decide +kernel
theorem dX1_joined_72 : decode cX1_joined 72 = .ok (.lload_n 3, 1) := by decide +kernel
theorem dX1_joined_73 : decode cX1_joined 73 = .ok (.lconst 0, 1) := by decide +kernel
theorem dX1_joined_74 : decode cX1_joined 74 = .ok (.lcmp, 1) := by decide +kernel
theorem dX1_joined_75 : decode cX1_joined 75 = .ok (.ifCond .ne 7, 3) := by decide +kernel
theorem dX1_joined_78 : decode cX1_joined 78 = .ok (.lconst 0, 1) := by decide +kernel
theorem dX1_joined_79 : decode cX1_joined 79 = .ok (.goto 6, 3) := by decide +kernel
theorem dX1_joined_82 : decode cX1_joined 82 = .ok (.lload_n 1, 1) := by decide +kernel
theorem dX1_joined_83 : decode cX1_joined 83 = .ok (.lload_n 3, 1) := by decide +kernel
theorem dX1_joined_84 : decode cX1_joined 84 = .ok (.ldiv, 1) := by decide +kernel
theorem dX1_joined_85 : decode cX1_joined 85 = .ok (.lreturn, 1) := by decide +kernel
theorem dX1_joined_86 : decode cX1_joined 86 = .ok (.lload_n 1, 1) := by decide +kernel
theorem dX1_joined_87 : decode cX1_joined 87 = .ok (.lload_n 3, 1) := by decide +kernel
theorem dX1_joined_88 : decode cX1_joined 88 = .ok (.lcmp, 1) := by decide +kernel
theorem dX1_joined_89 : decode cX1_joined 89 = .ok (.ifCond .ge 7, 3) := by decide +kernel
theorem dX1_joined_92 : decode cX1_joined 92 = .ok (.lconst 1, 1) := by decide +kernel
theorem dX1_joined_93 : decode cX1_joined 93 = .ok (.goto 4, 3) := by decide +kernel
theorem dX1_joined_96 : decode cX1_joined 96 = .ok (.lconst 0, 1) := by decide +kernel
theorem dX1_joined_97 : decode cX1_joined 97 = .ok (.lreturn, 1) := by decide +kernel
theorem dX1_joined_98 : decode cX1_joined 98 = .ok (.lload_n 1, 1) := by decide +kernel
theorem dX1_joined_99 : decode cX1_joined 99 = .ok (.lload_n 3, 1) := by decide +kernel
theorem dX1_joined_100 : decode cX1_joined 100 = .ok (.lcmp, 1) := by decide +kernel
theorem dX1_joined_101 : decode cX1_joined 101 = .ok (.ifCond .gt 7, 3) := by decide +kernel
theorem dX1_joined_104 : decode cX1_joined 104 = .ok (.lconst 1, 1) := by decide +kernel
theorem dX1_joined_105 : decode cX1_joined 105 = .ok (.goto 4, 3) := by decide +kernel
theorem dX1_joined_108 : decode cX1_joined 108 = .ok (.lconst 0, 1) := by decide +kernel
theorem dX1_joined_109 : decode cX1_joined 109 = .ok (.lreturn, 1) := by decide +kernel
theorem dX1_joined_110 : decode cX1_joined 110 = .ok (.lload_n 1, 1) := by decide +kernel
theorem dX1_joined_111 : decode cX1_joined 111 = .ok (.lload_n 3, 1) := by decide +kernel
theorem dX1_joined_112 : decode cX1_joined 112 = .ok (.lcmp, 1) := by decide +kernel
theorem dX1_joined_113 : decode cX1_joined 113 = .ok (.ifCond .ne 7, 3) := by decide +kernel
theorem dX1_joined_116 : decode cX1_joined 116 = .ok (.lconst 1, 1) := by decide +kernel
theorem dX1_joined_117 : decode cX1_joined 117 = .ok (.goto 4, 3) := by decide +kernel
theorem dX1_joined_120 : decode cX1_joined 120 = .ok (.lconst 0, 1) := by decide +kernel
theorem dX1_joined_121 : decode cX1_joined 121 = .ok (.lreturn, 1) := by decide +kernel
theorem dX1_joined_122 : decode cX1_joined 122 = .ok (.lload_n 1, 1) := by decide +kernel
theorem dX1_joined_123 : decode cX1_joined 123 = .ok (.lload_n 3, 1) := by decide +kernel
theorem dX1_joined_124 : decode cX1_joined 124 = .ok (.lcmp, 1) := by decide +kernel
theorem dX1_joined_125 : decode cX1_joined 125 = .ok (.ifCond .lt 7, 3) := by decide +kernel
theorem dX1_joined_128 : decode cX1_joined 128 = .ok (.lconst 1, 1) := by decide +kernel
theorem dX1_joined_129 : decode cX1_joined 129 = .ok (.goto 4, 3) := by decide +kernel
theorem dX1_joined_132 : decode cX1_joined 132 = .ok (.lconst 0, 1) := by decide +kernel
theorem dX1_joined_133 : decode cX1_joined 133 = .ok (.lreturn, 1) := by decide +kernel
theorem dX1_joined_134 : decode cX1_joined 134 = .ok (.lload_n 1, 1) := by decide +kernel
theorem dX1_joined_135 : decode cX1_joined 135 = .ok (.lload_n 3, 1) := by decide +kernel
theorem dX1_joined_136 : decode cX1_joined 136 = .ok (.lcmp, 1) := by decide +kernel
theorem dX1_joined_137 : decode cX1_joined 137 = .ok (.ifCond .le 7, 3) := by decide +kernel
theorem dX1_joined_140 : decode cX1_joined 140 = .ok (.lconst 1, 1) := by decide +kernel
theorem dX1_joined_141 : decode cX1_joined 141 = .ok (.goto 4, 3) := by decide +kernel
theorem dX1_joined_144 : decode cX1_joined 144 = .ok (.lconst 0, 1) := by decide +kernel
theorem dX1_joined_145 : decode cX1_joined 145 = .ok (.lreturn, 1) := by decide +kernel
theorem dX1_joined_146 : decode cX1_joined 146 = .ok (.lload_n 1, 1) := by decide +kernel
theorem dX1_joined_147 : decode cX1_joined 147 = .ok (.lload_n 3, 1) := by decide +kernel
theorem dX1_joined_148 : decode cX1_joined 148 = .ok (.land, 1) := by decide +kernel
theorem dX1_joined_149 : decode cX1_joined 149 = .ok (.lreturn, 1) := by decide +kernel
theorem dX1_joined_150 : decode cX1_joined 150 = .ok (.lload_n 1, 1) := by decide +kernel
theorem dX1_joined_151 : decode cX1_joined 151 = .ok (.lload_n 3, 1) := by decide +kernel
theorem dX1_joined_152 : decode cX1_joined 152 = .ok (.lor, 1) := by decide +kernel
theorem dX1_joined_153 : decode cX1_joined 153 = .ok (.lreturn, 1) := by decide +kernel
set_option maxRecDepth 20000 in
theorem ggX1_valueOf_X9_dayNow : GoodIn wsX1_valueOf wsX9_dayNow := goodIn_r _ [18, 19, 20, 21, 22, 23, 24, 25, 26, 27, 28, 29] (by decide +kernel) (by decide +kernel)
set_option maxRecDepth 20000 in
theorem gX1_valueOf_X9_dayNow : GoodIn wsX1_valueOf (wsV RX1 68 RX9 yX9_dayNow wsX9_dayNow) := goodIn_app (goodIn_of _ (by decide +kernel)) ggX1_valueOf_X9_dayNow
theorem dX1_valueOf_0 : decode cX1_valueOf 0 = .ok (.iload_n 2, 1) := by decide +kernel
theorem dX1_valueOf_1 : decode cX1_valueOf 1 = .ok (.tableswitch 143 0 8 #[51, 60, 69, 89, 95, 101, 114, 120, 137], 51) := by decide +kernel
theorem dX1_valueOf_52 : decode cX1_valueOf 52 = .ok (.aload_n 1, 1) := by decide +kernel
theorem dX1_valueOf_53 : decode cX1_valueOf 53 = .ok (.getfield 79, 3) := by decide +kernel
theorem dX1_valueOf_56 : decode cX1_valueOf 56 = .ok (.ldc2_w 196, 3) := by decide +kernel
theorem dX1_valueOf_59 : decode cX1_valueOf 59 = .ok (.lrem, 1) := by decide +kernel
theorem dX1_valueOf_60 : decode cX1_valueOf 60 = .ok (.lreturn, 1) := by decide +kernel
theorem dX1_valueOf_61 : decode cX1_valueOf 61 = .ok (.aload_n 1, 1) := by decide +kernel
theorem dX1_valueOf_62 : decode cX1_valueOf 62 = .ok (.invokevirtual 68, 3) := by decide +kernel
theorem dX1_valueOf_65 : decode cX1_valueOf 65 = .ok (.ldc2_w 198, 3) := by decide +kernel
theorem dX1_valueOf_68 : decode cX1_valueOf 68 = .ok (.lrem, 1) := by decide +kernel
theorem dX1_valueOf_69 : decode cX1_valueOf 69 = .ok (.lreturn, 1) := by decide +kernel
theorem dX1_valueOf_70 : decode cX1_valueOf 70 = .ok (.aload_n 0, 1) := by decide +kernel
theorem dX1_valueOf_71 : decode cX1_valueOf 71 = .ok (.getfield 88, 3) := by decide +kernel
theorem dX1_valueOf_74 : decode cX1_valueOf 74 = .ok (.ifCond .eq 7, 3) := by decide +kernel
theorem dX1_valueOf_77 : decode cX1_valueOf 77 = .ok (.lconst 0, 1) := by decide +kernel
theorem dX1_valueOf_78 : decode cX1_valueOf 78 = .ok (.goto 11, 3) := by decide +kernel
theorem dX1_valueOf_81 : decode cX1_valueOf 81 = .ok (.aload_n 1, 1) := by decide +kernel
theorem dX1_valueOf_82 : decode cX1_valueOf 82 = .ok (.invokevirtual 68, 3) := by decide +kernel
theorem dX1_valueOf_85 : decode cX1_valueOf 85 = .ok (.ldc2_w 200, 3) := by decide +kernel
theorem dX1_valueOf_88 : decode cX1_valueOf 88 = .ok (.lrem, 1) := by decide +kernel
theorem dX1_valueOf_89 : decode cX1_valueOf 89 = .ok (.lreturn, 1) := by decide +kernel
theorem dX1_valueOf_90 : decode cX1_valueOf 90 = .ok (.aload_n 1, 1) := by decide +kernel
theorem dX1_valueOf_91 : decode cX1_valueOf 91 = .ok (.getfield 100, 3) := by decide +kernel
theorem dX1_valueOf_94 : decode cX1_valueOf 94 = .ok (.i2l, 1) := by decide +kernel
theorem dX1_valueOf_95 : decode cX1_valueOf 95 = .ok (.lreturn, 1) := by decide +kernel
theorem dX1_valueOf_96 : decode cX1_valueOf 96 = .ok (.aload_n 1, 1) := by decide +kernel
theorem dX1_valueOf_97 : decode cX1_valueOf 97 = .ok (.getfield 103, 3) := by decide +kernel
theorem dX1_valueOf_100 : decode cX1_valueOf 100 = .ok (.i2l, 1) := by decide +kernel
theorem dX1_valueOf_101 : decode cX1_valueOf 101 = .ok (.lreturn, 1) := by decide +kernel
theorem dX1_valueOf_102 : decode cX1_valueOf 102 = .ok (.aload_n 0, 1) := by decide +kernel
theorem dX1_valueOf_103 : decode cX1_valueOf 103 = .ok (.getfield 55, 3) := by decide +kernel
theorem dX1_valueOf_106 : decode cX1_valueOf 106 = .ok (.ifCond .eq 7, 3) := by decide +kernel
theorem dX1_valueOf_109 : decode cX1_valueOf 109 = .ok (.lconst 0, 1) := by decide +kernel
theorem dX1_valueOf_110 : decode cX1_valueOf 110 = .ok (.goto 4, 3) := by decide +kernel
theorem dX1_valueOf_113 : decode cX1_valueOf 113 = .ok (.lconst 1, 1) := by decide +kernel
theorem dX1_valueOf_114 : decode cX1_valueOf 114 = .ok (.lreturn, 1) := by decide +kernel
theorem dX1_valueOf_115 : decode cX1_valueOf 115 = .ok (.aload_n 0, 1) := by decide +kernel
theorem dX1_valueOf_116 : decode cX1_valueOf 116 = .ok (.getfield 123, 3) := by decide +kernel
theorem dX1_valueOf_119 : decode cX1_valueOf 119 = .ok (.i2l, 1) := by decide +kernel
theorem dX1_valueOf_120 : decode cX1_valueOf 120 = .ok (.lreturn, 1) := by decide +kernel
theorem dX1_valueOf_121 : decode cX1_valueOf 121 = .ok (.aload_n 0, 1) := by decide +kernel
theorem dX1_valueOf_122 : decode cX1_valueOf 122 = .ok (.getfield 88, 3) := by decide +kernel
theorem dX1_valueOf_125 : decode cX1_valueOf 125 = .ok (.ifCond .eq 7, 3) := by decide +kernel
theorem dX1_valueOf_128 : decode cX1_valueOf 128 = .ok (.lconst 0, 1) := by decide +kernel
theorem dX1_valueOf_129 : decode cX1_valueOf 129 = .ok (.goto 8, 3) := by decide +kernel
theorem dX1_valueOf_132 : decode cX1_valueOf 132 = .ok (.aload_n 1, 1) := by decide +kernel
theorem dX1_valueOf_133 : decode cX1_valueOf 133 = .ok (.getfield 82, 3) := by decide +kernel
theorem dX1_valueOf_136 : decode cX1_valueOf 136 = .ok (.i2l, 1) := by decide +kernel
theorem dX1_valueOf_137 : decode cX1_valueOf 137 = .ok (.lreturn, 1) := by decide +kernel
theorem dX1_valueOf_138 : decode cX1_valueOf 138 = .ok (.aload_n 1, 1) := by decide +kernel
theorem dX1_valueOf_139 : decode cX1_valueOf 139 = .ok (.getfield 76, 3) := by decide +kernel
theorem dX1_valueOf_142 : decode cX1_valueOf 142 = .ok (.i2l, 1) := by decide +kernel
theorem dX1_valueOf_143 : decode cX1_valueOf 143 = .ok (.lreturn, 1) := by decide +kernel
theorem dX1_valueOf_144 : decode cX1_valueOf 144 = .ok (.aload_n 1, 1) := by decide +kernel
theorem dX1_valueOf_145 : decode cX1_valueOf 145 = .ok (.getfield 144, 3) := by decide +kernel
theorem dX1_valueOf_148 : decode cX1_valueOf 148 = .ok (.iconst (-1), 1) := by decide +kernel
theorem dX1_valueOf_149 : decode cX1_valueOf 149 = .ok (.if_icmp .ne 9, 3) := by decide +kernel
theorem dX1_valueOf_152 : decode cX1_valueOf 152 = .ok (.ldc2_w 202, 3) := by decide +kernel
theorem dX1_valueOf_155 : decode cX1_valueOf 155 = .ok (.goto 8, 3) := by decide +kernel
theorem dX1_valueOf_158 : decode cX1_valueOf 158 = .ok (.aload_n 1, 1) := by decide +kernel
theorem dX1_valueOf_159 : decode cX1_valueOf 159 = .ok (.getfield 144, 3) := by decide +kernel
theorem dX1_valueOf_162 : decode cX1_valueOf 162 = .ok (.i2l, 1) := by decide +kernel
theorem dX1_valueOf_163 : decode cX1_valueOf 163 = .ok (.lreturn, 1) := by decide +kernel
theorem dX2_init_0 : decode cX2_init 0 = .ok (.aload_n 0, 1) := by decide +kernel
theorem dX2_init_1 : decode cX2_init 1 = .ok (.invokespecial 3, 3) := by decide +kernel
theorem dX2_init_4 : decode cX2_init 4 = .ok (.aload_n 0, 1) := by decide +kernel
theorem dX2_init_5 : decode cX2_init 5 = .ok (.bipush 12, 2) := by decide +kernel
theorem dX2_init_7 : decode cX2_init 7 = .ok (.newarray .int, 2) := by decide +kernel
theorem dX2_init_9 : decode cX2_init 9 = .ok (.putfield 11, 3) := by decide +kernel
theorem dX2_init_12 : decode cX2_init 12 = .ok (.aload_n 0, 1) := by decide +kernel
theorem dX2_init_13 : decode cX2_init 13 = .ok (.bipush 13, 2) := by decide +kernel
theorem dX2_init_15 : decode cX2_init 15 = .ok (.newarray .int, 2) := by decide +kernel
theorem dX2_init_17 : decode cX2_init 17 = .ok (.putfield 15, 3) := by decide +kernel
theorem dX2_init_20 : decode cX2_init 20 = .ok (.aload_n 0, 1) := by decide +kernel
theorem dX2_init_21 : decode cX2_init 21 = .ok (.sipush 400, 3) := by decide +kernel
theorem dX2_init_24 : decode cX2_init 24 = .ok (.newarray .int, 2) := by decide +kernel
theorem dX2_init_26 : decode cX2_init 26 = .ok (.putfield 18, 3) := by decide +kernel
theorem dX2_init_29 : decode cX2_init 29 = .ok (.return_, 1) := by decide +kernel
theorem dX2_clear_0 : decode cX2_clear 0 = .ok (.aload_n 0, 1) := by decide +kernel
theorem dX2_clear_1 : decode cX2_clear 1 = .ok (.iconst 0, 1) := by decide +kernel
theorem dX2_clear_2 : decode cX2_clear 2 = .ok (.putfield 21, 3) := by decide +kernel
theorem dX2_clear_5 : decode cX2_clear 5 = .ok (.aload_n 0, 1) := by decide +kernel
theorem dX2_clear_6 : decode cX2_clear 6 = .ok (.iconst 0, 1) := by decide +kernel
theorem dX2_clear_7 : decode cX2_clear 7 = .ok (.putfield 25, 3) := by decide +kernel
theorem dX2_clear_10 : decode cX2_clear 10 = .ok (.aload_n 0, 1) := by decide +kernel
theorem dX2_clear_11 : decode cX2_clear 11 = .ok (.iconst 0, 1) := by decide +kernel
theorem dX2_clear_12 : decode cX2_clear 12 = .ok (.putfield 28, 3) := by decide +kernel
theorem dX2_clear_15 : decode cX2_clear 15 = .ok (.return_, 1) := by decide +kernel
theorem dX2_isFull_0 : decode cX2_isFull 0 = .ok (.aload_n 0, 1) := by decide +kernel
theorem dX2_isFull_1 : decode cX2_isFull 1 = .ok (.getfield 21, 3) := by decide +kernel
theorem dX2_isFull_4 : decode cX2_isFull 4 = .ok (.bipush 12, 2) := by decide +kernel
theorem dX2_isFull_6 : decode cX2_isFull 6 = .ok (.if_icmp .lt 7, 3) := by decide +kernel
theorem dX2_isFull_9 : decode cX2_isFull 9 = .ok (.iconst 1, 1) := by decide +kernel
theorem dX2_isFull_10 : decode cX2_isFull 10 = .ok (.goto 4, 3) := by decide +kernel
theorem dX2_isFull_13 : decode cX2_isFull 13 = .ok (.iconst 0, 1) := by decide +kernel
theorem dX2_isFull_14 : decode cX2_isFull 14 = .ok (.ireturn, 1) := by decide +kernel
set_option maxRecDepth 20000 in
theorem ggX2_addClause_X2_isFull : GoodIn wsX2_addClause wsX2_isFull := goodIn_r _ [10, 2, 11, 12, 13, 14, 15, 16] (by decide +kernel) (by decide +kernel)
set_option maxRecDepth 20000 in
theorem gX2_addClause_X2_isFull : GoodIn wsX2_addClause (wsV RX2 32 RX2 yX2_isFull wsX2_isFull) := goodIn_app (goodIn_of _ (by decide +kernel)) ggX2_addClause_X2_isFull
theorem dX2_addClause_0 : decode cX2_addClause 0 = .ok (.aload_n 0, 1) := by decide +kernel
theorem dX2_addClause_1 : decode cX2_addClause 1 = .ok (.invokevirtual 32, 3) := by decide +kernel
theorem dX2_addClause_4 : decode cX2_addClause 4 = .ok (.ifCond .ne 57, 3) := by decide +kernel
theorem dX2_addClause_7 : decode cX2_addClause 7 = .ok (.aload_n 0, 1) := by decide +kernel
theorem dX2_addClause_8 : decode cX2_addClause 8 = .ok (.getfield 11, 3) := by decide +kernel
theorem dX2_addClause_11 : decode cX2_addClause 11 = .ok (.aload_n 0, 1) := by decide +kernel
theorem dX2_addClause_12 : decode cX2_addClause 12 = .ok (.getfield 21, 3) := by decide +kernel
theorem dX2_addClause_15 : decode cX2_addClause 15 = .ok (.iload_n 1, 1) := by decide +kernel
theorem dX2_addClause_16 : decode cX2_addClause 16 = .ok (.iastore, 1) := by decide +kernel
theorem dX2_addClause_17 : decode cX2_addClause 17 = .ok (.aload_n 0, 1) := by decide +kernel
theorem dX2_addClause_18 : decode cX2_addClause 18 = .ok (.aload_n 0, 1) := by decide +kernel
theorem dX2_addClause_19 : decode cX2_addClause 19 = .ok (.getfield 28, 3) := by decide +kernel
theorem dX2_addClause_22 : decode cX2_addClause 22 = .ok (.ifCond .ne 8, 3) := by decide +kernel
theorem dX2_addClause_25 : decode cX2_addClause 25 = .ok (.iload_n 1, 1) := by decide +kernel
theorem dX2_addClause_26 : decode cX2_addClause 26 = .ok (.iconst 1, 1) := by decide +kernel
theorem dX2_addClause_27 : decode cX2_addClause 27 = .ok (.if_icmp .ne 7, 3) := by decide +kernel
theorem dX2_addClause_30 : decode cX2_addClause 30 = .ok (.iconst 1, 1) := by decide +kernel
theorem dX2_addClause_31 : decode cX2_addClause 31 = .ok (.goto 4, 3) := by decide +kernel
theorem dX2_addClause_34 : decode cX2_addClause 34 = .ok (.iconst 0, 1) := by decide +kernel
theorem dX2_addClause_35 : decode cX2_addClause 35 = .ok (.putfield 28, 3) := by decide +kernel
theorem dX2_addClause_38 : decode cX2_addClause 38 = .ok (.aload_n 0, 1) := by decide +kernel
theorem dX2_addClause_39 : decode cX2_addClause 39 = .ok (.dup, 1) := by decide +kernel
theorem dX2_addClause_40 : decode cX2_addClause 40 = .ok (.getfield 21, 3) := by decide +kernel
theorem dX2_addClause_43 : decode cX2_addClause 43 = .ok (.iconst 1, 1) := by decide +kernel
theorem dX2_addClause_44 : decode cX2_addClause 44 = .ok (.iadd, 1) := by decide +kernel
theorem dX2_addClause_45 : decode cX2_addClause 45 = .ok (.putfield 21, 3) := by decide +kernel
theorem dX2_addClause_48 : decode cX2_addClause 48 = .ok (.aload_n 0, 1) := by decide +kernel
theorem dX2_addClause_49 : decode cX2_addClause 49 = .ok (.getfield 15, 3) := by decide +kernel
theorem dX2_addClause_52 : decode cX2_addClause 52 = .ok (.aload_n 0, 1) := by decide +kernel
theorem dX2_addClause_53 : decode cX2_addClause 53 = .ok (.getfield 21, 3) := by decide +kernel
theorem dX2_addClause_56 : decode cX2_addClause 56 = .ok (.aload_n 0, 1) := by decide +kernel
theorem dX2_addClause_57 : decode cX2_addClause 57 = .ok (.getfield 25, 3) := by decide +kernel
theorem dX2_addClause_60 : decode cX2_addClause 60 = .ok (.iastore, 1) := by decide +kernel
theorem dX2_addClause_61 : decode cX2_addClause 61 = .ok (.return_, 1) := by decide +kernel
theorem dX2_addToken_0 : decode cX2_addToken 0 = .ok (.aload_n 0, 1) := by decide +kernel
theorem dX2_addToken_1 : decode cX2_addToken 1 = .ok (.getfield 25, 3) := by decide +kernel
theorem dX2_addToken_4 : decode cX2_addToken 4 = .ok (.sipush 400, 3) := by decide +kernel
theorem dX2_addToken_7 : decode cX2_addToken 7 = .ok (.if_icmp .ge 36, 3) := by decide +kernel
theorem dX2_addToken_10 : decode cX2_addToken 10 = .ok (.aload_n 0, 1) := by decide +kernel
theorem dX2_addToken_11 : decode cX2_addToken 11 = .ok (.getfield 18, 3) := by decide +kernel
theorem dX2_addToken_14 : decode cX2_addToken 14 = .ok (.aload_n 0, 1) := by decide +kernel
theorem dX2_addToken_15 : decode cX2_addToken 15 = .ok (.getfield 25, 3) := by decide +kernel
theorem dX2_addToken_18 : decode cX2_addToken 18 = .ok (.iload_n 1, 1) := by decide +kernel
theorem dX2_addToken_19 : decode cX2_addToken 19 = .ok (.iastore, 1) := by decide +kernel
theorem dX2_addToken_20 : decode cX2_addToken 20 = .ok (.aload_n 0, 1) := by decide +kernel
theorem dX2_addToken_21 : decode cX2_addToken 21 = .ok (.dup, 1) := by decide +kernel
theorem dX2_addToken_22 : decode cX2_addToken 22 = .ok (.getfield 25, 3) := by decide +kernel
theorem dX2_addToken_25 : decode cX2_addToken 25 = .ok (.iconst 1, 1) := by decide +kernel
theorem dX2_addToken_26 : decode cX2_addToken 26 = .ok (.iadd, 1) := by decide +kernel
theorem dX2_addToken_27 : decode cX2_addToken 27 = .ok (.putfield 25, 3) := by decide +kernel
theorem dX2_addToken_30 : decode cX2_addToken 30 = .ok (.aload_n 0, 1) := by decide +kernel
theorem dX2_addToken_31 : decode cX2_addToken 31 = .ok (.getfield 15, 3) := by decide +kernel
theorem dX2_addToken_34 : decode cX2_addToken 34 = .ok (.aload_n 0, 1) := by decide +kernel
theorem dX2_addToken_35 : decode cX2_addToken 35 = .ok (.getfield 21, 3) := by decide +kernel
theorem dX2_addToken_38 : decode cX2_addToken 38 = .ok (.aload_n 0, 1) := by decide +kernel
theorem dX2_addToken_39 : decode cX2_addToken 39 = .ok (.getfield 25, 3) := by decide +kernel
theorem dX2_addToken_42 : decode cX2_addToken 42 = .ok (.iastore, 1) := by decide +kernel
theorem dX2_addToken_43 : decode cX2_addToken 43 = .ok (.return_, 1) := by decide +kernel
theorem dX2_deedOf_0 : decode cX2_deedOf 0 = .ok (.aload_n 0, 1) := by decide +kernel
theorem dX2_deedOf_1 : decode cX2_deedOf 1 = .ok (.getfield 11, 3) := by decide +kernel
theorem dX2_deedOf_4 : decode cX2_deedOf 4 = .ok (.iload_n 1, 1) := by decide +kernel
theorem dX2_deedOf_5 : decode cX2_deedOf 5 = .ok (.iaload, 1) := by decide +kernel
theorem dX2_deedOf_6 : decode cX2_deedOf 6 = .ok (.ireturn, 1) := by decide +kernel
theorem dX2_firstToken_0 : decode cX2_firstToken 0 = .ok (.aload_n 0, 1) := by decide +kernel
theorem dX2_firstToken_1 : decode cX2_firstToken 1 = .ok (.getfield 15, 3) := by decide +kernel
theorem dX2_firstToken_4 : decode cX2_firstToken 4 = .ok (.iload_n 1, 1) := by decide +kernel
theorem dX2_firstToken_5 : decode cX2_firstToken 5 = .ok (.iaload, 1) := by decide +kernel
theorem dX2_firstToken_6 : decode cX2_firstToken 6 = .ok (.ireturn, 1) := by decide +kernel
theorem dX2_tokenAt_0 : decode cX2_tokenAt 0 = .ok (.aload_n 0, 1) := by decide +kernel
theorem dX2_tokenAt_1 : decode cX2_tokenAt 1 = .ok (.getfield 18, 3) := by decide +kernel
theorem dX2_tokenAt_4 : decode cX2_tokenAt 4 = .ok (.iload_n 1, 1) := by decide +kernel
theorem dX2_tokenAt_5 : decode cX2_tokenAt 5 = .ok (.iaload, 1) := by decide +kernel
theorem dX2_tokenAt_6 : decode cX2_tokenAt 6 = .ok (.ireturn, 1) := by decide +kernel
theorem dX3_init_0 : decode cX3_init 0 = .ok (.aload_n 0, 1) := by decide +kernel
theorem dX3_init_1 : decode cX3_init 1 = .ok (.invokespecial 3, 3) := by decide +kernel
theorem dX3_init_4 : decode cX3_init 4 = .ok (.aload_n 0, 1) := by decide +kernel
theorem dX3_init_5 : decode cX3_init 5 = .ok (.aload_n 1, 1) := by decide +kernel
theorem dX3_init_6 : decode cX3_init 6 = .ok (.putfield 9, 3) := by decide +kernel
theorem dX3_init_9 : decode cX3_init 9 = .ok (.return_, 1) := by decide +kernel
set_option maxRecDepth 20000 in
theorem ggX3_readInto_X2_clear : GoodIn wsX3_readInto wsX2_clear := goodIn_r _ [9, 10, 11, 12, 189, 190, 191, 192, 193, 194] (by decide +kernel) (by decide +kernel)
set_option maxRecDepth 20000 in
theorem gX3_readInto_X2_clear : GoodIn wsX3_readInto (wsV RX3 19 RX2 yX2_clear wsX2_clear) := goodIn_app (goodIn_of _ (by decide +kernel)) ggX3_readInto_X2_clear
set_option maxRecDepth 20000 in
theorem ggX3_readInto_X6_startReading : GoodIn wsX3_readInto wsX6_startReading := goodIn_r _ [17, 18, 19, 20, 184, 185, 186, 187, 188] (by decide +kernel) (by decide +kernel)
set_option maxRecDepth 20000 in
theorem gX3_readInto_X6_startReading : GoodIn wsX3_readInto (wsV RX3 28 RX6 yX6_startReading wsX6_startReading) := goodIn_app (goodIn_of _ (by decide +kernel)) ggX3_readInto_X6_startReading
set_option maxRecDepth 20000 in
theorem ggX3_readInto_X6_readWord : GoodIn wsX3_readInto wsX6_readWord := goodIn_r _ [24, 18, 25, 19, 26, 27, 28, 16, 29, 30, 31, 32, 33, 34, 35, 36, 37, 38, 39, 40, 41, 42, 43, 44, 45, 46, 47, 48, 49, 50, 51, 52, 53, 54, 55, 56, 57, 58, 59, 60, 61, 62, 63, 64, 65, 66, 67, 68, 69, 70, 71, 72, 73, 74, 75, 76, 77, 78, 79, 80, 81, 82, 83, 84, 85, 86, 87, 20, 184, 185, 186, 187, 188] (by decide +kernel) (by decide +kernel)
set_option maxRecDepth 20000 in
theorem gX3_readInto_X6_readWord : GoodIn wsX3_readInto (wsV RX3 35 RX6 yX6_readWord wsX6_readWord) := goodIn_app (goodIn_of _ (by decide +kernel)) ggX3_readInto_X6_readWord
set_option maxRecDepth 20000 in
theorem ggX3_readInto_X2_isFull : GoodIn wsX3_readInto wsX2_isFull := goodIn_r _ [91, 10, 189, 190, 191, 192, 193, 194] (by decide +kernel) (by decide +kernel)
set_option maxRecDepth 20000 in
theorem gX3_readInto_X2_isFull : GoodIn wsX3_readInto (wsV RX3 39 RX2 yX2_isFull wsX2_isFull) := goodIn_app (goodIn_of _ (by decide +kernel)) ggX3_readInto_X2_isFull
set_option maxRecDepth 20000 in
theorem ggX3_readInto_X6_blame : GoodIn wsX3_readInto wsX6_blame := goodIn_r _ [87, 20, 184, 185, 186, 187, 188] (by decide +kernel) (by decide +kernel)
set_option maxRecDepth 20000 in
theorem gX3_readInto_X6_blame : GoodIn wsX3_readInto (wsV RX3 46 RX6 yX6_blame wsX6_blame) := goodIn_app (goodIn_of _ (by decide +kernel)) ggX3_readInto_X6_blame
set_option maxRecDepth 20000 in
theorem ggX3_readInto_X2_addClause : GoodIn wsX3_readInto wsX2_addClause := goodIn_r _ [96, 97, 10, 12, 98, 11, 99, 89, 90, 8, 91, 189, 190, 191, 192, 193, 194] (by decide +kernel) (by decide +kernel)
set_option maxRecDepth 20000 in
theorem gX3_readInto_X2_addClause : GoodIn wsX3_readInto (wsV RX3 50 RX2 yX2_addClause wsX2_addClause) := goodIn_app (goodIn_of _ (by decide +kernel)) ggX3_readInto_X2_addClause
set_option maxRecDepth 20000 in
theorem ggX3_readInto_X6_isFaulty : GoodIn wsX3_readInto wsX6_isFaulty := goodIn_r _ [103, 20, 184, 185, 186, 187, 188] (by decide +kernel) (by decide +kernel)
set_option maxRecDepth 20000 in
theorem gX3_readInto_X6_isFaulty : GoodIn wsX3_readInto (wsV RX3 54 RX6 yX6_isFaulty wsX6_isFaulty) := goodIn_app (goodIn_of _ (by decide +kernel)) ggX3_readInto_X6_isFaulty
set_option maxRecDepth 20000 in
theorem ggX3_readInto_X6_takeWord : GoodIn wsX3_readInto wsX6_takeWord := goodIn_r _ [107, 18, 25, 26, 27, 28, 16, 29, 30, 19, 31, 32, 33, 34, 35, 36, 37, 38, 39, 40, 41, 42, 43, 44, 45, 46, 47, 48, 49, 50, 51, 52, 53, 54, 55, 56, 57, 58, 59, 60, 61, 62, 63, 64, 65, 66, 67, 68, 69, 70, 71, 72, 73, 74, 75, 76, 77, 78, 79, 80, 81, 82, 83, 184, 185, 186, 187, 188] (by decide +kernel) (by decide +kernel)
set_option maxRecDepth 20000 in
theorem gX3_readInto_X6_takeWord : GoodIn wsX3_readInto (wsV RX3 59 RX6 yX6_takeWord wsX6_takeWord) := goodIn_app (goodIn_of _ (by decide +kernel)) ggX3_readInto_X6_takeWord
set_option maxRecDepth 20000 in
theorem ggX3_readInto_X3_readTest : GoodIn wsX3_readInto wsX3_readTest := goodIn_r _ [112, 3, 1, 113, 114, 115, 111, 100, 101, 102, 16, 103, 20, 104, 105, 106, 107, 18, 25, 26, 27, 28, 29, 30, 19, 31, 32, 33, 34, 35, 36, 37, 38, 39, 40, 41, 42, 43, 44, 45, 46, 47, 48, 49, 50, 51, 52, 53, 54, 55, 56, 57, 58, 59, 60, 61, 62, 63, 64, 65, 66, 67, 68, 69, 70, 71, 72, 73, 74, 75, 76, 77, 78, 79, 80, 81, 82, 83, 116, 117, 118, 8, 119, 11, 120, 98, 10, 121, 122, 123, 124, 125, 4, 126, 127, 128, 129, 130, 131, 132, 133, 134, 135, 136, 137, 138, 139, 140, 141, 142, 143, 144, 145, 146, 147, 148, 149, 150, 151, 152, 84, 85, 86, 87, 21, 22, 23, 24, 153, 154, 155, 156, 2, 92, 157, 158, 159, 160, 161, 162, 163, 164, 165, 166, 167, 168, 169, 170, 171, 172, 173, 108, 109, 110, 181, 182, 183, 184, 185, 186, 187, 188, 189, 190, 191, 192, 193, 194] (by decide +kernel) (by decide +kernel)
set_option maxRecDepth 20000 in
theorem gX3_readInto_X3_readTest : GoodIn wsX3_readInto (wsV RX3 63 RX3 yX3_readTest wsX3_readTest) := goodIn_app (goodIn_of _ (by decide +kernel)) ggX3_readInto_X3_readTest
set_option maxRecDepth 20000 in
theorem ggX3_readInto_X6_takeSemicolon : GoodIn wsX3_readInto wsX6_takeSemicolon := goodIn_r _ [177, 151, 101, 102, 16, 103, 20, 178, 127, 128, 129, 26, 27, 28, 29, 18, 30, 25, 19, 130, 131, 132, 133, 179, 171, 172, 173, 180, 167, 168, 169, 84, 85, 86, 87, 184, 185, 186, 187, 188] (by decide +kernel) (by decide +kernel)
set_option maxRecDepth 20000 in
theorem gX3_readInto_X6_takeSemicolon : GoodIn wsX3_readInto (wsV RX3 66 RX6 yX6_takeSemicolon wsX6_takeSemicolon) := goodIn_app (goodIn_of _ (by decide +kernel)) ggX3_readInto_X6_takeSemicolon
theorem dX3_readInto_0 : decode cX3_readInto 0 = .ok (.aload_n 0, 1) := by decide +kernel
theorem dX3_readInto_1 : decode cX3_readInto 1 = .ok (.aload_n 1, 1) := by decide +kernel
theorem dX3_readInto_2 : decode cX3_readInto 2 = .ok (.putfield 15, 3) := by decide +kernel
theorem dX3_readInto_5 : decode cX3_readInto 5 = .ok (.aload_n 0, 1) := by decide +kernel
theorem dX3_readInto_6 : decode cX3_readInto 6 = .ok (.getfield 15, 3) := by decide +kernel
theorem dX3_readInto_9 : decode cX3_readInto 9 = .ok (.invokevirtual 19, 3) := by decide +kernel
theorem dX3_readInto_12 : decode cX3_readInto 12 = .ok (.aload_n 0, 1) := by decide +kernel
theorem dX3_readInto_13 : decode cX3_readInto 13 = .ok (.iconst 0, 1) := by decide +kernel
theorem dX3_readInto_14 : decode cX3_readInto 14 = .ok (.putfield 24, 3) := by decide +kernel
theorem dX3_readInto_17 : decode cX3_readInto 17 = .ok (.aload_n 0, 1) := by decide +kernel
theorem dX3_readInto_18 : decode cX3_readInto 18 = .ok (.getfield 9, 3) := by decide +kernel
theorem dX3_readInto_21 : decode cX3_readInto 21 = .ok (.invokevirtual 28, 3) := by decide +kernel
theorem dX3_readInto_24 : decode cX3_readInto 24 = .ok (.iconst 1, 1) := by decide +kernel
theorem dX3_readInto_25 : decode cX3_readInto 25 = .ok (.istore_n 2, 1) := by decide +kernel
theorem dX3_readInto_26 : decode cX3_readInto 26 = .ok (.iconst 0, 1) := by decide +kernel
theorem dX3_readInto_27 : decode cX3_readInto 27 = .ok (.istore_n 3, 1) := by decide +kernel
theorem dX3_readInto_28 : decode cX3_readInto 28 = .ok (.iload_n 2, 1) := by decide +kernel
theorem dX3_readInto_29 : decode cX3_readInto 29 = .ok (.ifCond .eq 95, 3) := by decide +kernel
theorem dX3_readInto_32 : decode cX3_readInto 32 = .ok (.iload_n 3, 1) := by decide +kernel
theorem dX3_readInto_33 : decode cX3_readInto 33 = .ok (.bipush 12, 2) := by decide +kernel
theorem dX3_readInto_35 : decode cX3_readInto 35 = .ok (.if_icmp .gt 89, 3) := by decide +kernel
theorem dX3_readInto_38 : decode cX3_readInto 38 = .ok (.aload_n 0, 1) := by decide +kernel
theorem dX3_readInto_39 : decode cX3_readInto 39 = .ok (.getfield 9, 3) := by decide +kernel
theorem dX3_readInto_42 : decode cX3_readInto 42 = .ok (.ldc 33, 2) := by decide +kernel
theorem dX3_readInto_44 : decode cX3_readInto 44 = .ok (.invokevirtual 35, 3) := by decide +kernel
theorem dX3_readInto_47 : decode cX3_readInto 47 = .ok (.istore 4, 2) := by decide +kernel
theorem dX3_readInto_49 : decode cX3_readInto 49 = .ok (.aload_n 0, 1) := by decide +kernel
theorem dX3_readInto_50 : decode cX3_readInto 50 = .ok (.getfield 15, 3) := by decide +kernel
theorem dX3_readInto_53 : decode cX3_readInto 53 = .ok (.invokevirtual 39, 3) := by decide +kernel
theorem dX3_readInto_56 : decode cX3_readInto 56 = .ok (.ifCond .eq 18, 3) := by decide +kernel
theorem dX3_readInto_59 : decode cX3_readInto 59 = .ok (.aload_n 0, 1) := by decide +kernel
theorem dX3_readInto_60 : decode cX3_readInto 60 = .ok (.getfield 9, 3) := by decide +kernel
theorem dX3_readInto_63 : decode cX3_readInto 63 = .ok (.aload_n 0, 1) := by decide +kernel
theorem dX3_readInto_64 : decode cX3_readInto 64 = .ok (.getfield 9, 3) := by decide +kernel
theorem dX3_readInto_67 : decode cX3_readInto 67 = .ok (.getfield 43, 3) := by decide +kernel
theorem dX3_readInto_70 : decode cX3_readInto 70 = .ok (.iconst 4, 1) := by decide +kernel
theorem dX3_readInto_71 : decode cX3_readInto 71 = .ok (.invokevirtual 46, 3) := by decide +kernel
theorem dX3_readInto_74 : decode cX3_readInto 74 = .ok (.aload_n 0, 1) := by decide +kernel
theorem dX3_readInto_75 : decode cX3_readInto 75 = .ok (.getfield 15, 3) := by decide +kernel
theorem dX3_readInto_78 : decode cX3_readInto 78 = .ok (.iload 4, 2) := by decide +kernel
theorem dX3_readInto_80 : decode cX3_readInto 80 = .ok (.invokevirtual 50, 3) := by decide +kernel
theorem dX3_readInto_83 : decode cX3_readInto 83 = .ok (.aload_n 0, 1) := by decide +kernel
theorem dX3_readInto_84 : decode cX3_readInto 84 = .ok (.getfield 9, 3) := by decide +kernel
theorem dX3_readInto_87 : decode cX3_readInto 87 = .ok (.invokevirtual 54, 3) := by decide +kernel
theorem dX3_readInto_90 : decode cX3_readInto 90 = .ok (.ifCond .ne 20, 3) := by decide +kernel
theorem dX3_readInto_93 : decode cX3_readInto 93 = .ok (.aload_n 0, 1) := by decide +kernel
theorem dX3_readInto_94 : decode cX3_readInto 94 = .ok (.getfield 9, 3) := by decide +kernel
theorem dX3_readInto_97 : decode cX3_readInto 97 = .ok (.ldc 57, 2) := by decide +kernel
theorem dX3_readInto_99 : decode cX3_readInto 99 = .ok (.invokevirtual 59, 3) := by decide +kernel
theorem dX3_readInto_102 : decode cX3_readInto 102 = .ok (.ifCond .eq 8, 3) := by decide +kernel
theorem dX3_readInto_105 : decode cX3_readInto 105 = .ok (.aload_n 0, 1) := by decide +kernel
theorem dX3_readInto_106 : decode cX3_readInto 106 = .ok (.iconst 0, 1) := by decide +kernel
theorem dX3_readInto_107 : decode cX3_readInto 107 = .ok (.invokevirtual 63, 3) := by decide +kernel
theorem dX3_readInto_110 : decode cX3_readInto 110 = .ok (.aload_n 0, 1) := by decide +kernel
theorem dX3_readInto_111 : decode cX3_readInto 111 = .ok (.getfield 9, 3) := by decide +kernel
theorem dX3_readInto_114 : decode cX3_readInto 114 = .ok (.invokevirtual 66, 3) := by decide +kernel
theorem dX3_readInto_117 : decode cX3_readInto 117 = .ok (.istore_n 2, 1) := by decide +kernel
theorem dX3_readInto_118 : decode cX3_readInto 118 = .ok (.iinc 3 1, 3) := by decide +kernel
theorem dX3_readInto_121 : decode cX3_readInto 121 = .ok (.goto (-93), 3) := by decide +kernel
theorem dX3_readInto_124 : decode cX3_readInto 124 = .ok (.return_, 1) := by decide +kernel
set_option maxRecDepth 20000 in
theorem ggX3_readTest_X3_readFact : GoodIn wsX3_readTest wsX3_readFact := goodIn_r _ [91, 1, 2, 92, 7, 8, 9, 10, 11, 12, 13, 14, 15, 16, 17, 18, 19, 20, 21, 22, 23, 24, 25, 26, 27, 28, 29, 30, 31, 32, 33, 34, 35, 36, 37, 38, 39, 40, 41, 42, 43, 44, 45, 46, 47, 48, 49, 50, 51, 52, 53, 54, 55, 56, 57, 58, 59, 60, 61, 62, 63, 64, 65, 66, 67, 68, 69, 70, 71, 72, 73, 74, 75, 76, 77, 93, 94, 95, 96, 97, 98, 99, 100, 101, 102, 103, 6, 104, 105, 106, 107, 108, 109, 110, 111, 112, 113, 114, 115, 116, 117, 118, 119, 120, 121, 122, 123, 78, 79, 80, 81, 82, 83, 84, 85, 86, 124, 125, 126, 127, 128, 129, 130, 131, 132, 133, 134, 135, 136, 137, 138, 87, 88, 89, 90, 139, 140, 141, 142, 143, 144, 145, 146, 147, 148, 149, 150, 3, 4, 5, 151, 152, 153, 0, 154, 155, 156, 157, 158, 159, 160, 161, 162, 163, 164, 165, 166, 167] (by decide +kernel) (by decide +kernel)
set_option maxRecDepth 20000 in
theorem gX3_readTest_X3_readFact : GoodIn wsX3_readTest (wsV RX3 69 RX3 yX3_readFact wsX3_readFact) := goodIn_app (goodIn_of _ (by decide +kernel)) ggX3_readTest_X3_readFact
set_option maxRecDepth 20000 in
theorem ggX3_readTest_X6_isFaulty : GoodIn wsX3_readTest wsX6_isFaulty := goodIn_r _ [11, 12, 157, 158, 159, 160, 161] (by decide +kernel) (by decide +kernel)
set_option maxRecDepth 20000 in
theorem gX3_readTest_X6_isFaulty : GoodIn wsX3_readTest (wsV RX3 54 RX6 yX6_isFaulty wsX6_isFaulty) := goodIn_app (goodIn_of _ (by decide +kernel)) ggX3_readTest_X6_isFaulty
set_option maxRecDepth 20000 in
theorem ggX3_readTest_X6_takeWord : GoodIn wsX3_readTest wsX6_takeWord := goodIn_r _ [16, 17, 18, 19, 20, 21, 10, 22, 23, 24, 25, 26, 27, 28, 29, 30, 31, 32, 33, 34, 35, 36, 37, 38, 39, 40, 41, 42, 43, 44, 45, 46, 47, 48, 49, 50, 51, 52, 53, 54, 55, 56, 57, 58, 59, 60, 61, 62, 63, 64, 65, 66, 67, 68, 69, 70, 71, 72, 73, 74, 75, 76, 77, 157, 158, 159, 160, 161] (by decide +kernel) (by decide +kernel)
set_option maxRecDepth 20000 in
theorem gX3_readTest_X6_takeWord : GoodIn wsX3_readTest (wsV RX3 59 RX6 yX6_takeWord wsX6_takeWord) := goodIn_app (goodIn_of _ (by decide +kernel)) ggX3_readTest_X6_takeWord
set_option maxRecDepth 20000 in
theorem ggX3_readTest_X2_addToken : GoodIn wsX3_readTest wsX2_addToken := goodIn_r _ [82, 83, 84, 85, 86, 162, 163, 164, 165, 166, 167] (by decide +kernel) (by decide +kernel)
set_option maxRecDepth 20000 in
theorem gX3_readTest_X2_addToken : GoodIn wsX3_readTest (wsV RX3 74 RX2 yX2_addToken wsX2_addToken) := goodIn_app (goodIn_of _ (by decide +kernel)) ggX3_readTest_X2_addToken
set_option maxRecDepth 20000 in
theorem ggX3_readTest_X3_addWaiting : GoodIn wsX3_readTest wsX3_addWaiting := goodIn_r _ [90, 2, 78, 79, 80, 81, 82, 83, 84, 85, 86, 154, 155, 156, 162, 163, 164, 165, 166, 167] (by decide +kernel) (by decide +kernel)
set_option maxRecDepth 20000 in
theorem gX3_readTest_X3_addWaiting : GoodIn wsX3_readTest (wsV RX3 79 RX3 yX3_addWaiting wsX3_addWaiting) := goodIn_app (goodIn_of _ (by decide +kernel)) ggX3_readTest_X3_addWaiting
theorem dX3_readTest_0 : decode cX3_readTest 0 = .ok (.aload_n 0, 1) := by decide +kernel
theorem dX3_readTest_1 : decode cX3_readTest 1 = .ok (.iload_n 1, 1) := by decide +kernel
theorem dX3_readTest_2 : decode cX3_readTest 2 = .ok (.invokevirtual 69, 3) := by decide +kernel
theorem dX3_readTest_5 : decode cX3_readTest 5 = .ok (.iconst (-1), 1) := by decide +kernel
theorem dX3_readTest_6 : decode cX3_readTest 6 = .ok (.istore_n 2, 1) := by decide +kernel
theorem dX3_readTest_7 : decode cX3_readTest 7 = .ok (.iconst 0, 1) := by decide +kernel
theorem dX3_readTest_8 : decode cX3_readTest 8 = .ok (.istore_n 3, 1) := by decide +kernel
theorem dX3_readTest_9 : decode cX3_readTest 9 = .ok (.iload_n 3, 1) := by decide +kernel
theorem dX3_readTest_10 : decode cX3_readTest 10 = .ok (.sipush 400, 3) := by decide +kernel
theorem dX3_readTest_13 : decode cX3_readTest 13 = .ok (.if_icmp .ge 73, 3) := by decide +kernel
theorem dX3_readTest_16 : decode cX3_readTest 16 = .ok (.aload_n 0, 1) := by decide +kernel
theorem dX3_readTest_17 : decode cX3_readTest 17 = .ok (.getfield 9, 3) := by decide +kernel
theorem dX3_readTest_20 : decode cX3_readTest 20 = .ok (.invokevirtual 54, 3) := by decide +kernel
theorem dX3_readTest_23 : decode cX3_readTest 23 = .ok (.ifCond .ne 63, 3) := by decide +kernel
theorem dX3_readTest_26 : decode cX3_readTest 26 = .ok (.aload_n 0, 1) := by decide +kernel
theorem dX3_readTest_27 : decode cX3_readTest 27 = .ok (.getfield 9, 3) := by decide +kernel
theorem dX3_readTest_30 : decode cX3_readTest 30 = .ok (.ldc 72, 2) := by decide +kernel
theorem dX3_readTest_32 : decode cX3_readTest 32 = .ok (.invokevirtual 59, 3) := by decide +kernel
theorem dX3_readTest_35 : decode cX3_readTest 35 = .ok (.ifCond .eq 20, 3) := by decide +kernel
theorem dX3_readTest_38 : decode cX3_readTest 38 = .ok (.aload_n 0, 1) := by decide +kernel
theorem dX3_readTest_39 : decode cX3_readTest 39 = .ok (.iload_n 1, 1) := by decide +kernel
theorem dX3_readTest_40 : decode cX3_readTest 40 = .ok (.invokevirtual 69, 3) := by decide +kernel
theorem dX3_readTest_43 : decode cX3_readTest 43 = .ok (.aload_n 0, 1) := by decide +kernel
theorem dX3_readTest_44 : decode cX3_readTest 44 = .ok (.getfield 15, 3) := by decide +kernel
theorem dX3_readTest_47 : decode cX3_readTest 47 = .ok (.bipush 20, 2) := by decide +kernel
theorem dX3_readTest_49 : decode cX3_readTest 49 = .ok (.invokevirtual 74, 3) := by decide +kernel
theorem dX3_readTest_52 : decode cX3_readTest 52 = .ok (.goto 28, 3) := by decide +kernel
theorem dX3_readTest_55 : decode cX3_readTest 55 = .ok (.aload_n 0, 1) := by decide +kernel
theorem dX3_readTest_56 : decode cX3_readTest 56 = .ok (.getfield 9, 3) := by decide +kernel
theorem dX3_readTest_59 : decode cX3_readTest 59 = .ok (.ldc 77, 2) := by decide +kernel
theorem dX3_readTest_61 : decode cX3_readTest 61 = .ok (.invokevirtual 59, 3) := by decide +kernel
theorem dX3_readTest_64 : decode cX3_readTest 64 = .ok (.ifCond .eq 22, 3) := by decide +kernel
theorem dX3_readTest_67 : decode cX3_readTest 67 = .ok (.aload_n 0, 1) := by decide +kernel
theorem dX3_readTest_68 : decode cX3_readTest 68 = .ok (.iload_n 2, 1) := by decide +kernel
theorem dX3_readTest_69 : decode cX3_readTest 69 = .ok (.invokevirtual 79, 3) := by decide +kernel
theorem dX3_readTest_72 : decode cX3_readTest 72 = .ok (.bipush 21, 2) := by decide +kernel
theorem dX3_readTest_74 : decode cX3_readTest 74 = .ok (.istore_n 2, 1) := by decide +kernel
theorem dX3_readTest_75 : decode cX3_readTest 75 = .ok (.aload_n 0, 1) := by decide +kernel
theorem dX3_readTest_76 : decode cX3_readTest 76 = .ok (.iload_n 1, 1) := by decide +kernel
theorem dX3_readTest_77 : decode cX3_readTest 77 = .ok (.invokevirtual 69, 3) := by decide +kernel
theorem dX3_readTest_80 : decode cX3_readTest 80 = .ok (.iinc 3 1, 3) := by decide +kernel
theorem dX3_readTest_83 : decode cX3_readTest 83 = .ok (.goto (-74), 3) := by decide +kernel
theorem dX3_readTest_86 : decode cX3_readTest 86 = .ok (.aload_n 0, 1) := by decide +kernel
theorem dX3_readTest_87 : decode cX3_readTest 87 = .ok (.iload_n 2, 1) := by decide +kernel
theorem dX3_readTest_88 : decode cX3_readTest 88 = .ok (.invokevirtual 79, 3) := by decide +kernel
theorem dX3_readTest_91 : decode cX3_readTest 91 = .ok (.return_, 1) := by decide +kernel
set_option maxRecDepth 20000 in
theorem ggX3_readFact_X6_isFaulty : GoodIn wsX3_readFact wsX6_isFaulty := goodIn_r _ [8, 9, 157, 158, 159, 160, 161] (by decide +kernel) (by decide +kernel)
set_option maxRecDepth 20000 in
theorem gX3_readFact_X6_isFaulty : GoodIn wsX3_readFact (wsV RX3 54 RX6 yX6_isFaulty wsX6_isFaulty) := goodIn_app (goodIn_of _ (by decide +kernel)) ggX3_readFact_X6_isFaulty
set_option maxRecDepth 20000 in
theorem ggX3_readFact_X6_takeWord : GoodIn wsX3_readFact wsX6_takeWord := goodIn_r _ [13, 14, 15, 16, 17, 18, 7, 19, 20, 21, 22, 23, 24, 25, 26, 27, 28, 29, 30, 31, 32, 33, 34, 35, 36, 37, 38, 39, 40, 41, 42, 43, 44, 45, 46, 47, 48, 49, 50, 51, 52, 53, 54, 55, 56, 57, 58, 59, 60, 61, 62, 63, 64, 65, 66, 67, 68, 69, 70, 71, 72, 73, 74, 157, 158, 159, 160, 161] (by decide +kernel) (by decide +kernel)
set_option maxRecDepth 20000 in
theorem gX3_readFact_X6_takeWord : GoodIn wsX3_readFact (wsV RX3 59 RX6 yX6_takeWord wsX6_takeWord) := goodIn_app (goodIn_of _ (by decide +kernel)) ggX3_readFact_X6_takeWord
set_option maxRecDepth 20000 in
theorem ggX3_readFact_X6_takeByte : GoodIn wsX3_readFact wsX6_takeByte := goodIn_r _ [78, 16, 17, 18, 7, 19, 14, 20, 15, 21, 79, 80, 81, 82, 157, 158, 159, 160, 161] (by decide +kernel) (by decide +kernel)
set_option maxRecDepth 20000 in
theorem gX3_readFact_X6_takeByte : GoodIn wsX3_readFact (wsV RX3 84 RX6 yX6_takeByte wsX6_takeByte) := goodIn_app (goodIn_of _ (by decide +kernel)) ggX3_readFact_X6_takeByte
set_option maxRecDepth 20000 in
theorem ggX3_readFact_X3_readSum : GoodIn wsX3_readFact wsX3_readSum := goodIn_r _ [87, 1, 2, 88, 89, 90, 86, 91, 92, 4, 5, 6, 7, 8, 9, 93, 17, 18, 19, 14, 20, 15, 21, 94, 95, 96, 97, 98, 99, 100, 101, 16, 102, 103, 104, 105, 106, 107, 108, 109, 110, 111, 112, 113, 114, 115, 116, 117, 118, 119, 22, 23, 24, 25, 26, 27, 28, 29, 30, 31, 32, 33, 34, 35, 36, 37, 38, 39, 40, 41, 42, 43, 44, 45, 46, 47, 48, 49, 50, 51, 52, 53, 54, 55, 56, 57, 58, 59, 60, 61, 62, 63, 64, 65, 66, 67, 68, 69, 70, 71, 72, 73, 74, 120, 121, 122, 123, 124, 3, 125, 126, 127, 128, 129, 130, 80, 81, 82, 131, 132, 133, 134, 154, 155, 156, 157, 158, 159, 160, 161, 162, 163, 164, 165, 166, 167] (by decide +kernel) (by decide +kernel)
set_option maxRecDepth 20000 in
theorem gX3_readFact_X3_readSum : GoodIn wsX3_readFact (wsV RX3 88 RX3 yX3_readSum wsX3_readSum) := goodIn_app (goodIn_of _ (by decide +kernel)) ggX3_readFact_X3_readSum
set_option maxRecDepth 20000 in
theorem ggX3_readFact_X3_readSign : GoodIn wsX3_readFact wsX3_readSign := goodIn_r _ [138, 1, 4, 5, 6, 7, 8, 9, 93, 17, 18, 19, 14, 20, 15, 21, 139, 140, 141, 142, 103, 104, 105, 106, 120, 121, 122, 86, 123, 124, 3, 125, 130, 80, 81, 82, 143, 144, 145, 146, 154, 155, 156, 157, 158, 159, 160, 161] (by decide +kernel) (by decide +kernel)
set_option maxRecDepth 20000 in
theorem gX3_readFact_X3_readSign : GoodIn wsX3_readFact (wsV RX3 91 RX3 yX3_readSign wsX3_readSign) := goodIn_app (goodIn_of _ (by decide +kernel)) ggX3_readFact_X3_readSign
set_option maxRecDepth 20000 in
theorem ggX3_readFact_X2_addToken : GoodIn wsX3_readFact wsX2_addToken := goodIn_r _ [111, 112, 113, 114, 115, 162, 163, 164, 165, 166, 167] (by decide +kernel) (by decide +kernel)
set_option maxRecDepth 20000 in
theorem gX3_readFact_X2_addToken : GoodIn wsX3_readFact (wsV RX3 74 RX2 yX2_addToken wsX2_addToken) := goodIn_app (goodIn_of _ (by decide +kernel)) ggX3_readFact_X2_addToken
set_option maxRecDepth 20000 in
theorem ggX3_readFact_X6_blame : GoodIn wsX3_readFact wsX6_blame := goodIn_r _ [106, 9, 157, 158, 159, 160, 161] (by decide +kernel) (by decide +kernel)
set_option maxRecDepth 20000 in
theorem gX3_readFact_X6_blame : GoodIn wsX3_readFact (wsV RX3 46 RX6 yX6_blame wsX6_blame) := goodIn_app (goodIn_of _ (by decide +kernel)) ggX3_readFact_X6_blame
set_option maxRecDepth 20000 in
theorem ggX3_readFact_X3_readFact : GoodIn wsX3_readFact wsX3_readFact := goodIn_r _ [0, 1, 2, 3, 4, 5, 6, 7, 8, 9, 10, 11, 12, 13, 14, 15, 16, 17, 18, 19, 20, 21, 22, 23, 24, 25, 26, 27, 28, 29, 30, 31, 32, 33, 34, 35, 36, 37, 38, 39, 40, 41, 42, 43, 44, 45, 46, 47, 48, 49, 50, 51, 52, 53, 54, 55, 56, 57, 58, 59, 60, 61, 62, 63, 64, 65, 66, 67, 68, 69, 70, 71, 72, 73, 74, 75, 76, 77, 78, 79, 80, 81, 82, 83, 84, 85, 86, 87, 88, 89, 90, 91, 92, 93, 94, 95, 96, 97, 98, 99, 100, 101, 102, 103, 104, 105, 106, 107, 108, 109, 110, 111, 112, 113, 114, 115, 116, 117, 118, 119, 120, 121, 122, 123, 124, 125, 126, 127, 128, 129, 130, 131, 132, 133, 134, 135, 136, 137, 138, 139, 140, 141, 142, 143, 144, 145, 146, 147, 148, 149, 150, 151, 152, 153, 154, 155, 156, 157, 158, 159, 160, 161, 162, 163, 164, 165, 166, 167] (by decide +kernel) (by decide +kernel)
set_option maxRecDepth 20000 in
theorem gX3_readFact_X3_readFact : GoodIn wsX3_readFact (wsV RX3 69 RX3 yX3_readFact wsX3_readFact) := goodIn_app (goodIn_of _ (by decide +kernel)) ggX3_readFact_X3_readFact
set_option maxRecDepth 20000 in
theorem ggX3_readFact_X3_readTest : GoodIn wsX3_readFact wsX3_readTest := goodIn_r _ [153, 1, 2, 147, 148, 149, 86, 4, 5, 6, 7, 8, 9, 10, 11, 12, 13, 14, 15, 16, 17, 18, 19, 20, 21, 22, 23, 24, 25, 26, 27, 28, 29, 30, 31, 32, 33, 34, 35, 36, 37, 38, 39, 40, 41, 42, 43, 44, 45, 46, 47, 48, 49, 50, 51, 52, 53, 54, 55, 56, 57, 58, 59, 60, 61, 62, 63, 64, 65, 66, 67, 68, 69, 70, 71, 72, 73, 74, 107, 108, 109, 110, 111, 112, 113, 114, 115, 131, 132, 133, 134, 0, 3, 75, 76, 77, 78, 79, 80, 81, 82, 83, 84, 85, 87, 88, 89, 90, 91, 92, 93, 94, 95, 96, 97, 98, 99, 100, 101, 102, 103, 104, 105, 106, 116, 117, 118, 119, 120, 121, 122, 123, 124, 125, 126, 127, 128, 129, 130, 135, 136, 137, 138, 139, 140, 141, 142, 143, 144, 145, 146, 150, 151, 152, 154, 155, 156, 157, 158, 159, 160, 161, 162, 163, 164, 165, 166, 167] (by decide +kernel) (by decide +kernel)
set_option maxRecDepth 20000 in
theorem gX3_readFact_X3_readTest : GoodIn wsX3_readFact (wsV RX3 63 RX3 yX3_readTest wsX3_readTest) := goodIn_app (goodIn_of _ (by decide +kernel)) ggX3_readFact_X3_readTest
set_option maxRecDepth 20000 in
theorem ggX3_readFact_X6_blameHere : GoodIn wsX3_readFact wsX6_blameHere := goodIn_r _ [142, 14, 103, 104, 105, 7, 106, 9, 157, 158, 159, 160, 161] (by decide +kernel) (by decide +kernel)
set_option maxRecDepth 20000 in
theorem gX3_readFact_X6_blameHere : GoodIn wsX3_readFact (wsV RX3 95 RX6 yX6_blameHere wsX6_blameHere) := goodIn_app (goodIn_of _ (by decide +kernel)) ggX3_readFact_X6_blameHere
theorem dX3_readFact_0 : decode cX3_readFact 0 = .ok (.aload_n 0, 1) := by decide +kernel
theorem dX3_readFact_1 : decode cX3_readFact 1 = .ok (.getfield 9, 3) := by decide +kernel
theorem dX3_readFact_4 : decode cX3_readFact 4 = .ok (.invokevirtual 54, 3) := by decide +kernel
theorem dX3_readFact_7 : decode cX3_readFact 7 = .ok (.ifCond .eq 4, 3) := by decide +kernel
theorem dX3_readFact_10 : decode cX3_readFact 10 = .ok (.return_, 1) := by decide +kernel
theorem dX3_readFact_11 : decode cX3_readFact 11 = .ok (.aload_n 0, 1) := by decide +kernel
theorem dX3_readFact_12 : decode cX3_readFact 12 = .ok (.getfield 9, 3) := by decide +kernel
theorem dX3_readFact_15 : decode cX3_readFact 15 = .ok (.ldc 82, 2) := by decide +kernel
theorem dX3_readFact_17 : decode cX3_readFact 17 = .ok (.invokevirtual 59, 3) := by decide +kernel
theorem dX3_readFact_20 : decode cX3_readFact 20 = .ok (.istore_n 2, 1) := by decide +kernel
theorem dX3_readFact_21 : decode cX3_readFact 21 = .ok (.iload_n 2, 1) := by decide +kernel
theorem dX3_readFact_22 : decode cX3_readFact 22 = .ok (.ifCond .ne 19, 3) := by decide +kernel
theorem dX3_readFact_25 : decode cX3_readFact 25 = .ok (.aload_n 0, 1) := by decide +kernel
theorem dX3_readFact_26 : decode cX3_readFact 26 = .ok (.getfield 9, 3) := by decide +kernel
theorem dX3_readFact_29 : decode cX3_readFact 29 = .ok (.bipush 91, 2) := by decide +kernel
theorem dX3_readFact_31 : decode cX3_readFact 31 = .ok (.invokevirtual 84, 3) := by decide +kernel
theorem dX3_readFact_34 : decode cX3_readFact 34 = .ok (.ifCond .eq 7, 3) := by decide +kernel
theorem dX3_readFact_37 : decode cX3_readFact 37 = .ok (.iconst 1, 1) := by decide +kernel
theorem dX3_readFact_38 : decode cX3_readFact 38 = .ok (.goto 4, 3) := by decide +kernel
theorem dX3_readFact_41 : decode cX3_readFact 41 = .ok (.iconst 0, 1) := by decide +kernel
theorem dX3_readFact_42 : decode cX3_readFact 42 = .ok (.istore_n 3, 1) := by decide +kernel
theorem dX3_readFact_43 : decode cX3_readFact 43 = .ok (.iload_n 2, 1) := by decide +kernel
theorem dX3_readFact_44 : decode cX3_readFact 44 = .ok (.ifCond .ne 33, 3) := by decide +kernel
theorem dX3_readFact_47 : decode cX3_readFact 47 = .ok (.iload_n 3, 1) := by decide +kernel
theorem dX3_readFact_48 : decode cX3_readFact 48 = .ok (.ifCond .ne 29, 3) := by decide +kernel
theorem dX3_readFact_51 : decode cX3_readFact 51 = .ok (.aload_n 0, 1) := by decide +kernel
theorem dX3_readFact_52 : decode cX3_readFact 52 = .ok (.invokevirtual 88, 3) := by decide +kernel
theorem dX3_readFact_55 : decode cX3_readFact 55 = .ok (.aload_n 0, 1) := by decide +kernel
theorem dX3_readFact_56 : decode cX3_readFact 56 = .ok (.invokevirtual 91, 3) := by decide +kernel
theorem dX3_readFact_59 : decode cX3_readFact 59 = .ok (.istore 4, 2) := by decide +kernel
theorem dX3_readFact_61 : decode cX3_readFact 61 = .ok (.aload_n 0, 1) := by decide +kernel
theorem dX3_readFact_62 : decode cX3_readFact 62 = .ok (.invokevirtual 88, 3) := by decide +kernel
theorem dX3_readFact_65 : decode cX3_readFact 65 = .ok (.aload_n 0, 1) := by decide +kernel
theorem dX3_readFact_66 : decode cX3_readFact 66 = .ok (.getfield 15, 3) := by decide +kernel
theorem dX3_readFact_69 : decode cX3_readFact 69 = .ok (.iload 4, 2) := by decide +kernel
theorem dX3_readFact_71 : decode cX3_readFact 71 = .ok (.invokevirtual 74, 3) := by decide +kernel
theorem dX3_readFact_74 : decode cX3_readFact 74 = .ok (.goto 86, 3) := by decide +kernel
theorem dX3_readFact_77 : decode cX3_readFact 77 = .ok (.iload_n 1, 1) := by decide +kernel
theorem dX3_readFact_78 : decode cX3_readFact 78 = .ok (.bipush 10, 2) := by decide +kernel
theorem dX3_readFact_80 : decode cX3_readFact 80 = .ok (.if_icmp .lt 21, 3) := by decide +kernel
theorem dX3_readFact_83 : decode cX3_readFact 83 = .ok (.aload_n 0, 1) := by decide +kernel
theorem dX3_readFact_84 : decode cX3_readFact 84 = .ok (.getfield 9, 3) := by decide +kernel
theorem dX3_readFact_87 : decode cX3_readFact 87 = .ok (.aload_n 0, 1) := by decide +kernel
theorem dX3_readFact_88 : decode cX3_readFact 88 = .ok (.getfield 9, 3) := by decide +kernel
theorem dX3_readFact_91 : decode cX3_readFact 91 = .ok (.getfield 43, 3) := by decide +kernel
theorem dX3_readFact_94 : decode cX3_readFact 94 = .ok (.iconst 2, 1) := by decide +kernel
theorem dX3_readFact_95 : decode cX3_readFact 95 = .ok (.invokevirtual 46, 3) := by decide +kernel
theorem dX3_readFact_98 : decode cX3_readFact 98 = .ok (.goto 62, 3) := by decide +kernel
theorem dX3_readFact_101 : decode cX3_readFact 101 = .ok (.iload_n 2, 1) := by decide +kernel
theorem dX3_readFact_102 : decode cX3_readFact 102 = .ok (.ifCond .eq 22, 3) := by decide +kernel
theorem dX3_readFact_105 : decode cX3_readFact 105 = .ok (.aload_n 0, 1) := by decide +kernel
theorem dX3_readFact_106 : decode cX3_readFact 106 = .ok (.iload_n 1, 1) := by decide +kernel
theorem dX3_readFact_107 : decode cX3_readFact 107 = .ok (.iconst 1, 1) := by decide +kernel
theorem dX3_readFact_108 : decode cX3_readFact 108 = .ok (.iadd, 1) := by decide +kernel
theorem dX3_readFact_109 : decode cX3_readFact 109 = .ok (.invokevirtual 69, 3) := by decide +kernel
theorem dX3_readFact_112 : decode cX3_readFact 112 = .ok (.aload_n 0, 1) := by decide +kernel
theorem dX3_readFact_113 : decode cX3_readFact 113 = .ok (.getfield 15, 3) := by decide +kernel
theorem dX3_readFact_116 : decode cX3_readFact 116 = .ok (.bipush 19, 2) := by decide +kernel
theorem dX3_readFact_118 : decode cX3_readFact 118 = .ok (.invokevirtual 74, 3) := by decide +kernel
theorem dX3_readFact_121 : decode cX3_readFact 121 = .ok (.goto 39, 3) := by decide +kernel
theorem dX3_readFact_124 : decode cX3_readFact 124 = .ok (.aload_n 0, 1) := by decide +kernel
theorem dX3_readFact_125 : decode cX3_readFact 125 = .ok (.iload_n 1, 1) := by decide +kernel
theorem dX3_readFact_126 : decode cX3_readFact 126 = .ok (.iconst 1, 1) := by decide +kernel
theorem dX3_readFact_127 : decode cX3_readFact 127 = .ok (.iadd, 1) := by decide +kernel
theorem dX3_readFact_128 : decode cX3_readFact 128 = .ok (.invokevirtual 63, 3) := by decide +kernel
theorem dX3_readFact_131 : decode cX3_readFact 131 = .ok (.aload_n 0, 1) := by decide +kernel
theorem dX3_readFact_132 : decode cX3_readFact 132 = .ok (.getfield 9, 3) := by decide +kernel
theorem dX3_readFact_135 : decode cX3_readFact 135 = .ok (.invokevirtual 54, 3) := by decide +kernel
theorem dX3_readFact_138 : decode cX3_readFact 138 = .ok (.ifCond .ne 22, 3) := by decide +kernel
theorem dX3_readFact_141 : decode cX3_readFact 141 = .ok (.aload_n 0, 1) := by decide +kernel
theorem dX3_readFact_142 : decode cX3_readFact 142 = .ok (.getfield 9, 3) := by decide +kernel
theorem dX3_readFact_145 : decode cX3_readFact 145 = .ok (.bipush 93, 2) := by decide +kernel
theorem dX3_readFact_147 : decode cX3_readFact 147 = .ok (.invokevirtual 84, 3) := by decide +kernel
theorem dX3_readFact_150 : decode cX3_readFact 150 = .ok (.ifCond .ne 10, 3) := by decide +kernel
theorem dX3_readFact_153 : decode cX3_readFact 153 = .ok (.aload_n 0, 1) := by decide +kernel
theorem dX3_readFact_154 : decode cX3_readFact 154 = .ok (.getfield 9, 3) := by decide +kernel
theorem dX3_readFact_157 : decode cX3_readFact 157 = .ok (.invokevirtual 95, 3) := by decide +kernel
theorem dX3_readFact_160 : decode cX3_readFact 160 = .ok (.return_, 1) := by decide +kernel
set_option maxRecDepth 20000 in
theorem ggX3_readSign_X6_isFaulty : GoodIn wsX3_readSign wsX6_isFaulty := goodIn_r _ [6, 7, 43, 44, 45, 46, 47] (by decide +kernel) (by decide +kernel)
set_option maxRecDepth 20000 in
theorem gX3_readSign_X6_isFaulty : GoodIn wsX3_readSign (wsV RX3 54 RX6 yX6_isFaulty wsX6_isFaulty) := goodIn_app (goodIn_of _ (by decide +kernel)) ggX3_readSign_X6_isFaulty
set_option maxRecDepth 20000 in
theorem ggX3_readSign_X6_lookBehindBlanks : GoodIn wsX3_readSign wsX6_lookBehindBlanks := goodIn_r _ [11, 12, 13, 14, 15, 43, 44, 45, 46, 47] (by decide +kernel) (by decide +kernel)
set_option maxRecDepth 20000 in
theorem gX3_readSign_X6_lookBehindBlanks : GoodIn wsX3_readSign (wsV RX3 98 RX6 yX6_lookBehindBlanks wsX6_lookBehindBlanks) := goodIn_app (goodIn_of _ (by decide +kernel)) ggX3_readSign_X6_lookBehindBlanks
set_option maxRecDepth 20000 in
theorem ggX3_readSign_X6_blameHere : GoodIn wsX3_readSign wsX6_blameHere := goodIn_r _ [19, 12, 20, 21, 22, 5, 23, 7, 43, 44, 45, 46, 47] (by decide +kernel) (by decide +kernel)
set_option maxRecDepth 20000 in
theorem gX3_readSign_X6_blameHere : GoodIn wsX3_readSign (wsV RX3 95 RX6 yX6_blameHere wsX6_blameHere) := goodIn_app (goodIn_of _ (by decide +kernel)) ggX3_readSign_X6_blameHere
set_option maxRecDepth 20000 in
theorem ggX3_readSign_X3_countItem : GoodIn wsX3_readSign wsX3_countItem := goodIn_r _ [28, 29, 1, 30, 31, 21, 22, 5, 23, 7, 40, 41, 42, 43, 44, 45, 46, 47] (by decide +kernel) (by decide +kernel)
set_option maxRecDepth 20000 in
theorem gX3_readSign_X3_countItem : GoodIn wsX3_readSign (wsV RX3 101 RX3 yX3_countItem wsX3_countItem) := goodIn_app (goodIn_of _ (by decide +kernel)) ggX3_readSign_X3_countItem
set_option maxRecDepth 20000 in
theorem ggX3_readSign_X6_pass : GoodIn wsX3_readSign wsX6_pass := goodIn_r _ [35, 12, 13, 43, 44, 45, 46, 47] (by decide +kernel) (by decide +kernel)
set_option maxRecDepth 20000 in
theorem gX3_readSign_X6_pass : GoodIn wsX3_readSign (wsV RX3 104 RX6 yX6_pass wsX6_pass) := goodIn_app (goodIn_of _ (by decide +kernel)) ggX3_readSign_X6_pass
set_option maxRecDepth 20000 in
theorem ggX3_readSign_X6_look : GoodIn wsX3_readSign wsX6_look := goodIn_r _ [39, 12, 13, 14, 43, 44, 45, 46, 47] (by decide +kernel) (by decide +kernel)
set_option maxRecDepth 20000 in
theorem gX3_readSign_X6_look : GoodIn wsX3_readSign (wsV RX3 107 RX6 yX6_look wsX6_look) := goodIn_app (goodIn_of _ (by decide +kernel)) ggX3_readSign_X6_look
theorem dX3_readSign_0 : decode cX3_readSign 0 = .ok (.aload_n 0, 1) := by decide +kernel
theorem dX3_readSign_1 : decode cX3_readSign 1 = .ok (.getfield 9, 3) := by decide +kernel
theorem dX3_readSign_4 : decode cX3_readSign 4 = .ok (.invokevirtual 54, 3) := by decide +kernel
theorem dX3_readSign_7 : decode cX3_readSign 7 = .ok (.ifCond .eq 6, 3) := by decide +kernel
theorem dX3_readSign_10 : decode cX3_readSign 10 = .ok (.bipush 16, 2) := by decide +kernel
theorem dX3_readSign_12 : decode cX3_readSign 12 = .ok (.ireturn, 1) := by decide +kernel
theorem dX3_readSign_13 : decode cX3_readSign 13 = .ok (.aload_n 0, 1) := by decide +kernel
theorem dX3_readSign_14 : decode cX3_readSign 14 = .ok (.getfield 9, 3) := by decide +kernel
theorem dX3_readSign_17 : decode cX3_readSign 17 = .ok (.invokevirtual 98, 3) := by decide +kernel
theorem dX3_readSign_20 : decode cX3_readSign 20 = .ok (.istore_n 1, 1) := by decide +kernel
theorem dX3_readSign_21 : decode cX3_readSign 21 = .ok (.iload_n 1, 1) := by decide +kernel
theorem dX3_readSign_22 : decode cX3_readSign 22 = .ok (.bipush 60, 2) := by decide +kernel
theorem dX3_readSign_24 : decode cX3_readSign 24 = .ok (.if_icmp .eq 25, 3) := by decide +kernel
theorem dX3_readSign_27 : decode cX3_readSign 27 = .ok (.iload_n 1, 1) := by decide +kernel
theorem dX3_readSign_28 : decode cX3_readSign 28 = .ok (.bipush 61, 2) := by decide +kernel
theorem dX3_readSign_30 : decode cX3_readSign 30 = .ok (.if_icmp .eq 19, 3) := by decide +kernel
theorem dX3_readSign_33 : decode cX3_readSign 33 = .ok (.iload_n 1, 1) := by decide +kernel
theorem dX3_readSign_34 : decode cX3_readSign 34 = .ok (.bipush 62, 2) := by decide +kernel
theorem dX3_readSign_36 : decode cX3_readSign 36 = .ok (.if_icmp .eq 13, 3) := by decide +kernel
theorem dX3_readSign_39 : decode cX3_readSign 39 = .ok (.aload_n 0, 1) := by decide +kernel
theorem dX3_readSign_40 : decode cX3_readSign 40 = .ok (.getfield 9, 3) := by decide +kernel
theorem dX3_readSign_43 : decode cX3_readSign 43 = .ok (.invokevirtual 95, 3) := by decide +kernel
theorem dX3_readSign_46 : decode cX3_readSign 46 = .ok (.bipush 16, 2) := by decide +kernel
theorem dX3_readSign_48 : decode cX3_readSign 48 = .ok (.ireturn, 1) := by decide +kernel
theorem dX3_readSign_49 : decode cX3_readSign 49 = .ok (.aload_n 0, 1) := by decide +kernel
theorem dX3_readSign_50 : decode cX3_readSign 50 = .ok (.invokevirtual 101, 3) := by decide +kernel
theorem dX3_readSign_53 : decode cX3_readSign 53 = .ok (.aload_n 0, 1) := by decide +kernel
theorem dX3_readSign_54 : decode cX3_readSign 54 = .ok (.getfield 9, 3) := by decide +kernel
theorem dX3_readSign_57 : decode cX3_readSign 57 = .ok (.invokevirtual 104, 3) := by decide +kernel
theorem dX3_readSign_60 : decode cX3_readSign 60 = .ok (.iload_n 1, 1) := by decide +kernel
theorem dX3_readSign_61 : decode cX3_readSign 61 = .ok (.bipush 61, 2) := by decide +kernel
theorem dX3_readSign_63 : decode cX3_readSign 63 = .ok (.if_icmp .ne 6, 3) := by decide +kernel
theorem dX3_readSign_66 : decode cX3_readSign 66 = .ok (.bipush 16, 2) := by decide +kernel
theorem dX3_readSign_68 : decode cX3_readSign 68 = .ok (.ireturn, 1) := by decide +kernel
theorem dX3_readSign_69 : decode cX3_readSign 69 = .ok (.aload_n 0, 1) := by decide +kernel
theorem dX3_readSign_70 : decode cX3_readSign 70 = .ok (.getfield 9, 3) := by decide +kernel
theorem dX3_readSign_73 : decode cX3_readSign 73 = .ok (.invokevirtual 107, 3) := by decide +kernel
theorem dX3_readSign_76 : decode cX3_readSign 76 = .ok (.bipush 61, 2) := by decide +kernel
theorem dX3_readSign_78 : decode cX3_readSign 78 = .ok (.if_icmp .ne 7, 3) := by decide +kernel
theorem dX3_readSign_81 : decode cX3_readSign 81 = .ok (.iconst 1, 1) := by decide +kernel
theorem dX3_readSign_82 : decode cX3_readSign 82 = .ok (.goto 4, 3) := by decide +kernel
theorem dX3_readSign_85 : decode cX3_readSign 85 = .ok (.iconst 0, 1) := by decide +kernel
theorem dX3_readSign_86 : decode cX3_readSign 86 = .ok (.istore_n 2, 1) := by decide +kernel
theorem dX3_readSign_87 : decode cX3_readSign 87 = .ok (.iload_n 2, 1) := by decide +kernel
theorem dX3_readSign_88 : decode cX3_readSign 88 = .ok (.ifCond .eq 10, 3) := by decide +kernel
theorem dX3_readSign_91 : decode cX3_readSign 91 = .ok (.aload_n 0, 1) := by decide +kernel
theorem dX3_readSign_92 : decode cX3_readSign 92 = .ok (.getfield 9, 3) := by decide +kernel
theorem dX3_readSign_95 : decode cX3_readSign 95 = .ok (.invokevirtual 104, 3) := by decide +kernel
theorem dX3_readSign_98 : decode cX3_readSign 98 = .ok (.iload_n 1, 1) := by decide +kernel
theorem dX3_readSign_99 : decode cX3_readSign 99 = .ok (.bipush 60, 2) := by decide +kernel
theorem dX3_readSign_101 : decode cX3_readSign 101 = .ok (.if_icmp .ne 15, 3) := by decide +kernel
theorem dX3_readSign_104 : decode cX3_readSign 104 = .ok (.iload_n 2, 1) := by decide +kernel
theorem dX3_readSign_105 : decode cX3_readSign 105 = .ok (.ifCond .eq 8, 3) := by decide +kernel
theorem dX3_readSign_108 : decode cX3_readSign 108 = .ok (.bipush 15, 2) := by decide +kernel
theorem dX3_readSign_110 : decode cX3_readSign 110 = .ok (.goto 5, 3) := by decide +kernel
theorem dX3_readSign_113 : decode cX3_readSign 113 = .ok (.bipush 14, 2) := by decide +kernel
theorem dX3_readSign_115 : decode cX3_readSign 115 = .ok (.ireturn, 1) := by decide +kernel
theorem dX3_readSign_116 : decode cX3_readSign 116 = .ok (.iload_n 2, 1) := by decide +kernel
theorem dX3_readSign_117 : decode cX3_readSign 117 = .ok (.ifCond .eq 8, 3) := by decide +kernel
theorem dX3_readSign_120 : decode cX3_readSign 120 = .ok (.bipush 17, 2) := by decide +kernel
theorem dX3_readSign_122 : decode cX3_readSign 122 = .ok (.goto 5, 3) := by decide +kernel
theorem dX3_readSign_125 : decode cX3_readSign 125 = .ok (.bipush 18, 2) := by decide +kernel
theorem dX3_readSign_127 : decode cX3_readSign 127 = .ok (.ireturn, 1) := by decide +kernel
set_option maxRecDepth 20000 in
theorem ggX3_countItem_X6_blame : GoodIn wsX3_countItem wsX6_blame := goodIn_r _ [8, 9, 13, 14, 15, 16, 17] (by decide +kernel) (by decide +kernel)
set_option maxRecDepth 20000 in
theorem gX3_countItem_X6_blame : GoodIn wsX3_countItem (wsV RX3 46 RX6 yX6_blame wsX6_blame) := goodIn_app (goodIn_of _ (by decide +kernel)) ggX3_countItem_X6_blame
theorem dX3_countItem_0 : decode cX3_countItem 0 = .ok (.aload_n 0, 1) := by decide +kernel
theorem dX3_countItem_1 : decode cX3_countItem 1 = .ok (.dup, 1) := by decide +kernel
theorem dX3_countItem_2 : decode cX3_countItem 2 = .ok (.getfield 24, 3) := by decide +kernel
theorem dX3_countItem_5 : decode cX3_countItem 5 = .ok (.iconst 1, 1) := by decide +kernel
theorem dX3_countItem_6 : decode cX3_countItem 6 = .ok (.iadd, 1) := by decide +kernel
theorem dX3_countItem_7 : decode cX3_countItem 7 = .ok (.putfield 24, 3) := by decide +kernel
theorem dX3_countItem_10 : decode cX3_countItem 10 = .ok (.aload_n 0, 1) := by decide +kernel
theorem dX3_countItem_11 : decode cX3_countItem 11 = .ok (.getfield 24, 3) := by decide +kernel
theorem dX3_countItem_14 : decode cX3_countItem 14 = .ok (.bipush 60, 2) := by decide +kernel
theorem dX3_countItem_16 : decode cX3_countItem 16 = .ok (.if_icmp .le 18, 3) := by decide +kernel
theorem dX3_countItem_19 : decode cX3_countItem 19 = .ok (.aload_n 0, 1) := by decide +kernel
theorem dX3_countItem_20 : decode cX3_countItem 20 = .ok (.getfield 9, 3) := by decide +kernel
theorem dX3_countItem_23 : decode cX3_countItem 23 = .ok (.aload_n 0, 1) := by decide +kernel
theorem dX3_countItem_24 : decode cX3_countItem 24 = .ok (.getfield 9, 3) := by decide +kernel
theorem dX3_countItem_27 : decode cX3_countItem 27 = .ok (.getfield 43, 3) := by decide +kernel
theorem dX3_countItem_30 : decode cX3_countItem 30 = .ok (.iconst 3, 1) := by decide +kernel
theorem dX3_countItem_31 : decode cX3_countItem 31 = .ok (.invokevirtual 46, 3) := by decide +kernel
theorem dX3_countItem_34 : decode cX3_countItem 34 = .ok (.return_, 1) := by decide +kernel
set_option maxRecDepth 20000 in
theorem ggX3_readSum_X3_readValue : GoodIn wsX3_readSum wsX3_readValue := goodIn_r _ [7, 1, 2, 8, 9, 10, 11, 12, 13, 14, 15, 16, 17, 18, 19, 20, 21, 22, 23, 24, 25, 26, 27, 28, 29, 30, 31, 32, 33, 34, 35, 36, 37, 38, 39, 40, 41, 42, 43, 44, 45, 46, 47, 48, 49, 50, 51, 52, 53, 54, 55, 56, 57, 58, 59, 60, 61, 62, 63, 64, 65, 66, 67, 68, 69, 70, 71, 72, 73, 74, 75, 76, 77, 78, 79, 80, 81, 82, 83, 84, 85, 86, 87, 88, 89, 90, 91, 92, 93, 94, 95, 96, 97, 98, 99, 100, 101, 102, 103, 104, 105, 6, 106, 107, 108, 109, 122, 123, 124, 125, 126, 127, 128, 129, 130, 131, 132, 133, 134, 135] (by decide +kernel) (by decide +kernel)
set_option maxRecDepth 20000 in
theorem gX3_readSum_X3_readValue : GoodIn wsX3_readSum (wsV RX3 110 RX3 yX3_readValue wsX3_readValue) := goodIn_app (goodIn_of _ (by decide +kernel)) ggX3_readSum_X3_readValue
set_option maxRecDepth 20000 in
theorem ggX3_readSum_X6_isFaulty : GoodIn wsX3_readSum wsX6_isFaulty := goodIn_r _ [13, 14, 125, 126, 127, 128, 129] (by decide +kernel) (by decide +kernel)
set_option maxRecDepth 20000 in
theorem gX3_readSum_X6_isFaulty : GoodIn wsX3_readSum (wsV RX3 54 RX6 yX6_isFaulty wsX6_isFaulty) := goodIn_app (goodIn_of _ (by decide +kernel)) ggX3_readSum_X6_isFaulty
set_option maxRecDepth 20000 in
theorem ggX3_readSum_X3_takeOperator : GoodIn wsX3_readSum wsX3_takeOperator := goodIn_r _ [113, 1, 15, 16, 17, 12, 18, 19, 20, 21, 22, 114, 115, 116, 117, 122, 123, 124, 125, 126, 127, 128, 129] (by decide +kernel) (by decide +kernel)
set_option maxRecDepth 20000 in
theorem gX3_readSum_X3_takeOperator : GoodIn wsX3_readSum (wsV RX3 113 RX3 yX3_takeOperator wsX3_takeOperator) := goodIn_app (goodIn_of _ (by decide +kernel)) ggX3_readSum_X3_takeOperator
set_option maxRecDepth 20000 in
theorem ggX3_readSum_X2_addToken : GoodIn wsX3_readSum wsX2_addToken := goodIn_r _ [41, 42, 43, 44, 45, 130, 131, 132, 133, 134, 135] (by decide +kernel) (by decide +kernel)
set_option maxRecDepth 20000 in
theorem gX3_readSum_X2_addToken : GoodIn wsX3_readSum (wsV RX3 74 RX2 yX2_addToken wsX2_addToken) := goodIn_app (goodIn_of _ (by decide +kernel)) ggX3_readSum_X2_addToken
set_option maxRecDepth 20000 in
theorem ggX3_readSum_X3_addWaiting : GoodIn wsX3_readSum wsX3_addWaiting := goodIn_r _ [121, 2, 37, 38, 39, 40, 41, 42, 43, 44, 45, 122, 123, 124, 130, 131, 132, 133, 134, 135] (by decide +kernel) (by decide +kernel)
set_option maxRecDepth 20000 in
theorem gX3_readSum_X3_addWaiting : GoodIn wsX3_readSum (wsV RX3 79 RX3 yX3_addWaiting wsX3_addWaiting) := goodIn_app (goodIn_of _ (by decide +kernel)) ggX3_readSum_X3_addWaiting
theorem dX3_readSum_0 : decode cX3_readSum 0 = .ok (.aload_n 0, 1) := by decide +kernel
theorem dX3_readSum_1 : decode cX3_readSum 1 = .ok (.invokevirtual 110, 3) := by decide +kernel
theorem dX3_readSum_4 : decode cX3_readSum 4 = .ok (.iconst (-1), 1) := by decide +kernel
theorem dX3_readSum_5 : decode cX3_readSum 5 = .ok (.istore_n 1, 1) := by decide +kernel
theorem dX3_readSum_6 : decode cX3_readSum 6 = .ok (.iconst 0, 1) := by decide +kernel
theorem dX3_readSum_7 : decode cX3_readSum 7 = .ok (.istore_n 2, 1) := by decide +kernel
theorem dX3_readSum_8 : decode cX3_readSum 8 = .ok (.iload_n 2, 1) := by decide +kernel
theorem dX3_readSum_9 : decode cX3_readSum 9 = .ok (.sipush 400, 3) := by decide +kernel
theorem dX3_readSum_12 : decode cX3_readSum 12 = .ok (.if_icmp .ge 70, 3) := by decide +kernel
theorem dX3_readSum_15 : decode cX3_readSum 15 = .ok (.aload_n 0, 1) := by decide +kernel
theorem dX3_readSum_16 : decode cX3_readSum 16 = .ok (.getfield 9, 3) := by decide +kernel
theorem dX3_readSum_19 : decode cX3_readSum 19 = .ok (.invokevirtual 54, 3) := by decide +kernel
theorem dX3_readSum_22 : decode cX3_readSum 22 = .ok (.ifCond .ne 60, 3) := by decide +kernel
theorem dX3_readSum_25 : decode cX3_readSum 25 = .ok (.aload_n 0, 1) := by decide +kernel
theorem dX3_readSum_26 : decode cX3_readSum 26 = .ok (.invokevirtual 113, 3) := by decide +kernel
theorem dX3_readSum_29 : decode cX3_readSum 29 = .ok (.istore_n 3, 1) := by decide +kernel
theorem dX3_readSum_30 : decode cX3_readSum 30 = .ok (.iload_n 3, 1) := by decide +kernel
theorem dX3_readSum_31 : decode cX3_readSum 31 = .ok (.iconst (-1), 1) := by decide +kernel
theorem dX3_readSum_32 : decode cX3_readSum 32 = .ok (.if_icmp .ne 6, 3) := by decide +kernel
theorem dX3_readSum_35 : decode cX3_readSum 35 = .ok (.goto 47, 3) := by decide +kernel
theorem dX3_readSum_38 : decode cX3_readSum 38 = .ok (.iload_n 3, 1) := by decide +kernel
theorem dX3_readSum_39 : decode cX3_readSum 39 = .ok (.bipush 12, 2) := by decide +kernel
theorem dX3_readSum_41 : decode cX3_readSum 41 = .ok (.if_icmp .eq 9, 3) := by decide +kernel
theorem dX3_readSum_44 : decode cX3_readSum 44 = .ok (.iload_n 3, 1) := by decide +kernel
theorem dX3_readSum_45 : decode cX3_readSum 45 = .ok (.bipush 13, 2) := by decide +kernel
theorem dX3_readSum_47 : decode cX3_readSum 47 = .ok (.if_icmp .ne 18, 3) := by decide +kernel
theorem dX3_readSum_50 : decode cX3_readSum 50 = .ok (.aload_n 0, 1) := by decide +kernel
theorem dX3_readSum_51 : decode cX3_readSum 51 = .ok (.invokevirtual 110, 3) := by decide +kernel
theorem dX3_readSum_54 : decode cX3_readSum 54 = .ok (.aload_n 0, 1) := by decide +kernel
theorem dX3_readSum_55 : decode cX3_readSum 55 = .ok (.getfield 15, 3) := by decide +kernel
theorem dX3_readSum_58 : decode cX3_readSum 58 = .ok (.iload_n 3, 1) := by decide +kernel
theorem dX3_readSum_59 : decode cX3_readSum 59 = .ok (.invokevirtual 74, 3) := by decide +kernel
theorem dX3_readSum_62 : decode cX3_readSum 62 = .ok (.goto 14, 3) := by decide +kernel
theorem dX3_readSum_65 : decode cX3_readSum 65 = .ok (.aload_n 0, 1) := by decide +kernel
theorem dX3_readSum_66 : decode cX3_readSum 66 = .ok (.iload_n 1, 1) := by decide +kernel
theorem dX3_readSum_67 : decode cX3_readSum 67 = .ok (.invokevirtual 79, 3) := by decide +kernel
theorem dX3_readSum_70 : decode cX3_readSum 70 = .ok (.iload_n 3, 1) := by decide +kernel
theorem dX3_readSum_71 : decode cX3_readSum 71 = .ok (.istore_n 1, 1) := by decide +kernel
theorem dX3_readSum_72 : decode cX3_readSum 72 = .ok (.aload_n 0, 1) := by decide +kernel
theorem dX3_readSum_73 : decode cX3_readSum 73 = .ok (.invokevirtual 110, 3) := by decide +kernel
theorem dX3_readSum_76 : decode cX3_readSum 76 = .ok (.iinc 2 1, 3) := by decide +kernel
theorem dX3_readSum_79 : decode cX3_readSum 79 = .ok (.goto (-71), 3) := by decide +kernel
theorem dX3_readSum_82 : decode cX3_readSum 82 = .ok (.aload_n 0, 1) := by decide +kernel
theorem dX3_readSum_83 : decode cX3_readSum 83 = .ok (.iload_n 1, 1) := by decide +kernel
theorem dX3_readSum_84 : decode cX3_readSum 84 = .ok (.invokevirtual 79, 3) := by decide +kernel
theorem dX3_readSum_87 : decode cX3_readSum 87 = .ok (.return_, 1) := by decide +kernel
set_option maxRecDepth 20000 in
theorem ggX3_addWaiting_X2_addToken : GoodIn wsX3_addWaiting wsX2_addToken := goodIn_r _ [6, 7, 8, 9, 10, 14, 15, 16, 17, 18, 19] (by decide +kernel) (by decide +kernel)
set_option maxRecDepth 20000 in
theorem gX3_addWaiting_X2_addToken : GoodIn wsX3_addWaiting (wsV RX3 74 RX2 yX2_addToken wsX2_addToken) := goodIn_app (goodIn_of _ (by decide +kernel)) ggX3_addWaiting_X2_addToken
theorem dX3_addWaiting_0 : decode cX3_addWaiting 0 = .ok (.iload_n 1, 1) := by decide +kernel
theorem dX3_addWaiting_1 : decode cX3_addWaiting 1 = .ok (.iconst (-1), 1) := by decide +kernel
theorem dX3_addWaiting_2 : decode cX3_addWaiting 2 = .ok (.if_icmp .eq 11, 3) := by decide +kernel
theorem dX3_addWaiting_5 : decode cX3_addWaiting 5 = .ok (.aload_n 0, 1) := by decide +kernel
theorem dX3_addWaiting_6 : decode cX3_addWaiting 6 = .ok (.getfield 15, 3) := by decide +kernel
theorem dX3_addWaiting_9 : decode cX3_addWaiting 9 = .ok (.iload_n 1, 1) := by decide +kernel
theorem dX3_addWaiting_10 : decode cX3_addWaiting 10 = .ok (.invokevirtual 74, 3) := by decide +kernel
theorem dX3_addWaiting_13 : decode cX3_addWaiting 13 = .ok (.return_, 1) := by decide +kernel
set_option maxRecDepth 20000 in
theorem ggX3_takeOperator_X6_lookBehindBlanks : GoodIn wsX3_takeOperator wsX6_lookBehindBlanks := goodIn_r _ [6, 7, 8, 9, 10, 18, 19, 20, 21, 22] (by decide +kernel) (by decide +kernel)
set_option maxRecDepth 20000 in
theorem gX3_takeOperator_X6_lookBehindBlanks : GoodIn wsX3_takeOperator (wsV RX3 98 RX6 yX6_lookBehindBlanks wsX6_lookBehindBlanks) := goodIn_app (goodIn_of _ (by decide +kernel)) ggX3_takeOperator_X6_lookBehindBlanks
set_option maxRecDepth 20000 in
theorem ggX3_takeOperator_X6_pass : GoodIn wsX3_takeOperator wsX6_pass := goodIn_r _ [14, 7, 8, 18, 19, 20, 21, 22] (by decide +kernel) (by decide +kernel)
set_option maxRecDepth 20000 in
theorem gX3_takeOperator_X6_pass : GoodIn wsX3_takeOperator (wsV RX3 104 RX6 yX6_pass wsX6_pass) := goodIn_app (goodIn_of _ (by decide +kernel)) ggX3_takeOperator_X6_pass
theorem dX3_takeOperator_0 : decode cX3_takeOperator 0 = .ok (.aload_n 0, 1) := by decide +kernel
theorem dX3_takeOperator_1 : decode cX3_takeOperator 1 = .ok (.getfield 9, 3) := by decide +kernel
theorem dX3_takeOperator_4 : decode cX3_takeOperator 4 = .ok (.invokevirtual 98, 3) := by decide +kernel
theorem dX3_takeOperator_7 : decode cX3_takeOperator 7 = .ok (.tableswitch 77 42 47 #[57, 37, 77, 47, 77, 67], 37) := by decide +kernel
theorem dX3_takeOperator_44 : decode cX3_takeOperator 44 = .ok (.aload_n 0, 1) := by decide +kernel
theorem dX3_takeOperator_45 : decode cX3_takeOperator 45 = .ok (.getfield 9, 3) := by decide +kernel
theorem dX3_takeOperator_48 : decode cX3_takeOperator 48 = .ok (.invokevirtual 104, 3) := by decide +kernel
theorem dX3_takeOperator_51 : decode cX3_takeOperator 51 = .ok (.bipush 10, 2) := by decide +kernel
theorem dX3_takeOperator_53 : decode cX3_takeOperator 53 = .ok (.ireturn, 1) := by decide +kernel
theorem dX3_takeOperator_54 : decode cX3_takeOperator 54 = .ok (.aload_n 0, 1) := by decide +kernel
theorem dX3_takeOperator_55 : decode cX3_takeOperator 55 = .ok (.getfield 9, 3) := by decide +kernel
theorem dX3_takeOperator_58 : decode cX3_takeOperator 58 = .ok (.invokevirtual 104, 3) := by decide +kernel
theorem dX3_takeOperator_61 : decode cX3_takeOperator 61 = .ok (.bipush 11, 2) := by decide +kernel
theorem dX3_takeOperator_63 : decode cX3_takeOperator 63 = .ok (.ireturn, 1) := by decide +kernel
theorem dX3_takeOperator_64 : decode cX3_takeOperator 64 = .ok (.aload_n 0, 1) := by decide +kernel
theorem dX3_takeOperator_65 : decode cX3_takeOperator 65 = .ok (.getfield 9, 3) := by decide +kernel
theorem dX3_takeOperator_68 : decode cX3_takeOperator 68 = .ok (.invokevirtual 104, 3) := by decide +kernel
theorem dX3_takeOperator_71 : decode cX3_takeOperator 71 = .ok (.bipush 12, 2) := by decide +kernel
theorem dX3_takeOperator_73 : decode cX3_takeOperator 73 = .ok (.ireturn, 1) := by decide +kernel
theorem dX3_takeOperator_74 : decode cX3_takeOperator 74 = .ok (.aload_n 0, 1) := by decide +kernel
theorem dX3_takeOperator_75 : decode cX3_takeOperator 75 = .ok (.getfield 9, 3) := by decide +kernel
theorem dX3_takeOperator_78 : decode cX3_takeOperator 78 = .ok (.invokevirtual 104, 3) := by decide +kernel
theorem dX3_takeOperator_81 : decode cX3_takeOperator 81 = .ok (.bipush 13, 2) := by decide +kernel
theorem dX3_takeOperator_83 : decode cX3_takeOperator 83 = .ok (.ireturn, 1) := by decide +kernel
theorem dX3_takeOperator_84 : decode cX3_takeOperator 84 = .ok (.iconst (-1), 1) := by decide +kernel
theorem dX3_takeOperator_85 : decode cX3_takeOperator 85 = .ok (.ireturn, 1) := by decide +kernel
set_option maxRecDepth 20000 in
theorem ggX3_readValue_X6_isFaulty : GoodIn wsX3_readValue wsX6_isFaulty := goodIn_r _ [8, 9, 109, 110, 111, 112, 113] (by decide +kernel) (by decide +kernel)
set_option maxRecDepth 20000 in
theorem gX3_readValue_X6_isFaulty : GoodIn wsX3_readValue (wsV RX3 54 RX6 yX6_isFaulty wsX6_isFaulty) := goodIn_app (goodIn_of _ (by decide +kernel)) ggX3_readValue_X6_isFaulty
set_option maxRecDepth 20000 in
theorem ggX3_readValue_X6_lookBehindBlanks : GoodIn wsX3_readValue wsX6_lookBehindBlanks := goodIn_r _ [13, 14, 15, 16, 17, 109, 110, 111, 112, 113] (by decide +kernel) (by decide +kernel)
set_option maxRecDepth 20000 in
theorem gX3_readValue_X6_lookBehindBlanks : GoodIn wsX3_readValue (wsV RX3 98 RX6 yX6_lookBehindBlanks wsX6_lookBehindBlanks) := goodIn_app (goodIn_of _ (by decide +kernel)) ggX3_readValue_X6_lookBehindBlanks
set_option maxRecDepth 20000 in
theorem ggX3_readValue_X6_isDigit : GoodIn wsX3_readValue wsX6_isDigit := goodIn_r _ [20] (by decide +kernel) (by decide +kernel)
set_option maxRecDepth 20000 in
theorem gX3_readValue_X6_isDigit : GoodIn wsX3_readValue (va_wsS RX3 116 yX6_isDigit wsX6_isDigit) := goodIn_app (goodIn_of _ (by decide +kernel)) ggX3_readValue_X6_isDigit
set_option maxRecDepth 20000 in
theorem ggX3_readValue_X6_readNumber : GoodIn wsX3_readValue wsX6_readNumber := goodIn_r _ [24, 17, 14, 15, 16, 25, 5, 6, 7, 8, 9, 26, 11, 12, 13, 27, 19, 20, 28, 29, 30, 31, 109, 110, 111, 112, 113] (by decide +kernel) (by decide +kernel)
set_option maxRecDepth 20000 in
theorem gX3_readValue_X6_readNumber : GoodIn wsX3_readValue (wsV RX3 120 RX6 yX6_readNumber wsX6_readNumber) := goodIn_app (goodIn_of _ (by decide +kernel)) ggX3_readValue_X6_readNumber
set_option maxRecDepth 20000 in
theorem ggX3_readValue_X2_addToken : GoodIn wsX3_readValue wsX2_addToken := goodIn_r _ [36, 37, 38, 39, 40, 114, 115, 116, 117, 118, 119] (by decide +kernel) (by decide +kernel)
set_option maxRecDepth 20000 in
theorem gX3_readValue_X2_addToken : GoodIn wsX3_readValue (wsV RX3 74 RX2 yX2_addToken wsX2_addToken) := goodIn_app (goodIn_of _ (by decide +kernel)) ggX3_readValue_X2_addToken
set_option maxRecDepth 20000 in
theorem ggX3_readValue_X6_readWord : GoodIn wsX3_readValue wsX6_readWord := goodIn_r _ [44, 14, 16, 17, 26, 11, 12, 7, 13, 15, 45, 46, 47, 48, 49, 50, 51, 52, 53, 54, 55, 56, 57, 58, 59, 60, 61, 62, 63, 64, 65, 66, 67, 68, 69, 70, 71, 72, 73, 74, 75, 76, 77, 78, 79, 80, 81, 82, 83, 84, 85, 86, 87, 88, 89, 90, 91, 92, 93, 94, 95, 96, 97, 28, 29, 30, 31, 9, 109, 110, 111, 112, 113] (by decide +kernel) (by decide +kernel)
set_option maxRecDepth 20000 in
theorem gX3_readValue_X6_readWord : GoodIn wsX3_readValue (wsV RX3 35 RX6 yX6_readWord wsX6_readWord) := goodIn_app (goodIn_of _ (by decide +kernel)) ggX3_readValue_X6_readWord
set_option maxRecDepth 20000 in
theorem ggX3_readValue_X3_countItem : GoodIn wsX3_readValue wsX3_countItem := goodIn_r _ [102, 103, 1, 104, 105, 29, 30, 7, 31, 9, 106, 107, 108, 109, 110, 111, 112, 113] (by decide +kernel) (by decide +kernel)
set_option maxRecDepth 20000 in
theorem gX3_readValue_X3_countItem : GoodIn wsX3_readValue (wsV RX3 101 RX3 yX3_countItem wsX3_countItem) := goodIn_app (goodIn_of _ (by decide +kernel)) ggX3_readValue_X3_countItem
theorem dX3_readValue_0 : decode cX3_readValue 0 = .ok (.aload_n 0, 1) := by decide +kernel
theorem dX3_readValue_1 : decode cX3_readValue 1 = .ok (.getfield 9, 3) := by decide +kernel
theorem dX3_readValue_4 : decode cX3_readValue 4 = .ok (.invokevirtual 54, 3) := by decide +kernel
theorem dX3_readValue_7 : decode cX3_readValue 7 = .ok (.ifCond .eq 4, 3) := by decide +kernel
theorem dX3_readValue_10 : decode cX3_readValue 10 = .ok (.return_, 1) := by decide +kernel
theorem dX3_readValue_11 : decode cX3_readValue 11 = .ok (.aload_n 0, 1) := by decide +kernel
theorem dX3_readValue_12 : decode cX3_readValue 12 = .ok (.getfield 9, 3) := by decide +kernel
theorem dX3_readValue_15 : decode cX3_readValue 15 = .ok (.invokevirtual 98, 3) := by decide +kernel
theorem dX3_readValue_18 : decode cX3_readValue 18 = .ok (.invokestatic 116, 3) := by decide +kernel
theorem dX3_readValue_21 : decode cX3_readValue 21 = .ok (.ifCond .eq 26, 3) := by decide +kernel
theorem dX3_readValue_24 : decode cX3_readValue 24 = .ok (.aload_n 0, 1) := by decide +kernel
theorem dX3_readValue_25 : decode cX3_readValue 25 = .ok (.getfield 15, 3) := by decide +kernel
theorem dX3_readValue_28 : decode cX3_readValue 28 = .ok (.bipush 32, 2) := by decide +kernel
theorem dX3_readValue_30 : decode cX3_readValue 30 = .ok (.aload_n 0, 1) := by decide +kernel
theorem dX3_readValue_31 : decode cX3_readValue 31 = .ok (.getfield 9, 3) := by decide +kernel
theorem dX3_readValue_34 : decode cX3_readValue 34 = .ok (.iconst 0, 1) := by decide +kernel
theorem dX3_readValue_35 : decode cX3_readValue 35 = .ok (.ldc 119, 2) := by decide +kernel
theorem dX3_readValue_37 : decode cX3_readValue 37 = .ok (.invokevirtual 120, 3) := by decide +kernel
theorem dX3_readValue_40 : decode cX3_readValue 40 = .ok (.iadd, 1) := by decide +kernel
theorem dX3_readValue_41 : decode cX3_readValue 41 = .ok (.invokevirtual 74, 3) := by decide +kernel
theorem dX3_readValue_44 : decode cX3_readValue 44 = .ok (.goto 19, 3) := by decide +kernel
theorem dX3_readValue_47 : decode cX3_readValue 47 = .ok (.aload_n 0, 1) := by decide +kernel
theorem dX3_readValue_48 : decode cX3_readValue 48 = .ok (.getfield 15, 3) := by decide +kernel
theorem dX3_readValue_51 : decode cX3_readValue 51 = .ok (.aload_n 0, 1) := by decide +kernel
theorem dX3_readValue_52 : decode cX3_readValue 52 = .ok (.getfield 9, 3) := by decide +kernel
theorem dX3_readValue_55 : decode cX3_readValue 55 = .ok (.ldc 124, 2) := by decide +kernel
theorem dX3_readValue_57 : decode cX3_readValue 57 = .ok (.invokevirtual 35, 3) := by decide +kernel
theorem dX3_readValue_60 : decode cX3_readValue 60 = .ok (.invokevirtual 74, 3) := by decide +kernel
theorem dX3_readValue_63 : decode cX3_readValue 63 = .ok (.aload_n 0, 1) := by decide +kernel
theorem dX3_readValue_64 : decode cX3_readValue 64 = .ok (.invokevirtual 101, 3) := by decide +kernel
theorem dX3_readValue_67 : decode cX3_readValue 67 = .ok (.return_, 1) := by decide +kernel
theorem dX4_init_0 : decode cX4_init 0 = .ok (.aload_n 0, 1) := by decide +kernel
theorem dX4_init_1 : decode cX4_init 1 = .ok (.invokespecial 3, 3) := by decide +kernel
theorem dX4_init_4 : decode cX4_init 4 = .ok (.aload_n 0, 1) := by decide +kernel
theorem dX4_init_5 : decode cX4_init 5 = .ok (.bipush 10, 2) := by decide +kernel
theorem dX4_init_7 : decode cX4_init 7 = .ok (.newarray .int, 2) := by decide +kernel
theorem dX4_init_9 : decode cX4_init 9 = .ok (.putfield 9, 3) := by decide +kernel
theorem dX4_init_12 : decode cX4_init 12 = .ok (.aload_n 0, 1) := by decide +kernel
theorem dX4_init_13 : decode cX4_init 13 = .ok (.bipush 10, 2) := by decide +kernel
theorem dX4_init_15 : decode cX4_init 15 = .ok (.newarray .boolean, 2) := by decide +kernel
theorem dX4_init_17 : decode cX4_init 17 = .ok (.putfield 15, 3) := by decide +kernel
theorem dX4_init_20 : decode cX4_init 20 = .ok (.aload_n 0, 1) := by decide +kernel
theorem dX4_init_21 : decode cX4_init 21 = .ok (.aload_n 1, 1) := by decide +kernel
theorem dX4_init_22 : decode cX4_init 22 = .ok (.putfield 19, 3) := by decide +kernel
theorem dX4_init_25 : decode cX4_init 25 = .ok (.aload_n 0, 1) := by decide +kernel
theorem dX4_init_26 : decode cX4_init 26 = .ok (.aload_n 1, 1) := by decide +kernel
theorem dX4_init_27 : decode cX4_init 27 = .ok (.getfield 23, 3) := by decide +kernel
theorem dX4_init_30 : decode cX4_init 30 = .ok (.putfield 29, 3) := by decide +kernel
theorem dX4_init_33 : decode cX4_init 33 = .ok (.return_, 1) := by decide +kernel
set_option maxRecDepth 20000 in
theorem ggX4_firstArrival_X4_clear : GoodIn wsX4_firstArrival wsX4_clear := goodIn_r _ [9, 1, 4, 48, 49, 50, 51] (by decide +kernel) (by decide +kernel)
set_option maxRecDepth 20000 in
theorem gX4_firstArrival_X4_clear : GoodIn wsX4_firstArrival (wsV RX4 30 RX4 yX4_clear wsX4_clear) := goodIn_app (goodIn_of _ (by decide +kernel)) ggX4_firstArrival_X4_clear
set_option maxRecDepth 20000 in
theorem ggX4_firstArrival_X4_earliestUnsettled : GoodIn wsX4_firstArrival wsX4_earliestUnsettled := goodIn_r _ [13, 2, 3, 4, 1, 48, 49, 50, 51, 52, 53, 54, 55, 56, 57, 58, 59, 60, 61, 62, 63] (by decide +kernel) (by decide +kernel)
set_option maxRecDepth 20000 in
theorem gX4_firstArrival_X4_earliestUnsettled : GoodIn wsX4_firstArrival (wsV RX4 39 RX4 yX4_earliestUnsettled wsX4_earliestUnsettled) := goodIn_app (goodIn_of _ (by decide +kernel)) ggX4_firstArrival_X4_earliestUnsettled
set_option maxRecDepth 20000 in
theorem ggX4_firstArrival_X4_reachBy : GoodIn wsX4_firstArrival wsX4_reachBy := goodIn_r _ [17, 2, 4, 18, 1, 19, 20, 21, 22, 23, 24, 25, 26, 27, 28, 29, 30, 31, 32, 33, 34, 35, 36, 37, 38, 39, 40, 41, 42, 43, 44, 45, 46, 47, 48, 49, 50, 51, 52, 53, 54, 55, 56, 57, 58, 59, 60, 61, 62, 63] (by decide +kernel) (by decide +kernel)
set_option maxRecDepth 20000 in
theorem gX4_firstArrival_X4_reachBy : GoodIn wsX4_firstArrival (wsV RX4 43 RX4 yX4_reachBy wsX4_reachBy) := goodIn_app (goodIn_of _ (by decide +kernel)) ggX4_firstArrival_X4_reachBy
theorem dX4_firstArrival_0 : decode cX4_firstArrival 0 = .ok (.aload_n 0, 1) := by decide +kernel
theorem dX4_firstArrival_1 : decode cX4_firstArrival 1 = .ok (.invokevirtual 30, 3) := by decide +kernel
theorem dX4_firstArrival_4 : decode cX4_firstArrival 4 = .ok (.aload_n 0, 1) := by decide +kernel
theorem dX4_firstArrival_5 : decode cX4_firstArrival 5 = .ok (.getfield 9, 3) := by decide +kernel
theorem dX4_firstArrival_8 : decode cX4_firstArrival 8 = .ok (.iload_n 2, 1) := by decide +kernel
theorem dX4_firstArrival_9 : decode cX4_firstArrival 9 = .ok (.iload 4, 2) := by decide +kernel
theorem dX4_firstArrival_11 : decode cX4_firstArrival 11 = .ok (.iastore, 1) := by decide +kernel
theorem dX4_firstArrival_12 : decode cX4_firstArrival 12 = .ok (.iconst 0, 1) := by decide +kernel
theorem dX4_firstArrival_13 : decode cX4_firstArrival 13 = .ok (.istore 5, 2) := by decide +kernel
theorem dX4_firstArrival_15 : decode cX4_firstArrival 15 = .ok (.iload 5, 2) := by decide +kernel
theorem dX4_firstArrival_17 : decode cX4_firstArrival 17 = .ok (.aload_n 0, 1) := by decide +kernel
theorem dX4_firstArrival_18 : decode cX4_firstArrival 18 = .ok (.getfield 29, 3) := by decide +kernel
theorem dX4_firstArrival_21 : decode cX4_firstArrival 21 = .ok (.getfield 33, 3) := by decide +kernel
theorem dX4_firstArrival_24 : decode cX4_firstArrival 24 = .ok (.if_icmp .ge 73, 3) := by decide +kernel
theorem dX4_firstArrival_27 : decode cX4_firstArrival 27 = .ok (.aload_n 0, 1) := by decide +kernel
theorem dX4_firstArrival_28 : decode cX4_firstArrival 28 = .ok (.invokevirtual 39, 3) := by decide +kernel
theorem dX4_firstArrival_31 : decode cX4_firstArrival 31 = .ok (.istore 6, 2) := by decide +kernel
theorem dX4_firstArrival_33 : decode cX4_firstArrival 33 = .ok (.iload 6, 2) := by decide +kernel
theorem dX4_firstArrival_35 : decode cX4_firstArrival 35 = .ok (.iconst (-1), 1) := by decide +kernel
theorem dX4_firstArrival_36 : decode cX4_firstArrival 36 = .ok (.if_icmp .ne 5, 3) := by decide +kernel
theorem dX4_firstArrival_39 : decode cX4_firstArrival 39 = .ok (.iconst (-1), 1) := by decide +kernel
theorem dX4_firstArrival_40 : decode cX4_firstArrival 40 = .ok (.ireturn, 1) := by decide +kernel
theorem dX4_firstArrival_41 : decode cX4_firstArrival 41 = .ok (.iload 6, 2) := by decide +kernel
theorem dX4_firstArrival_43 : decode cX4_firstArrival 43 = .ok (.iload_n 3, 1) := by decide +kernel
theorem dX4_firstArrival_44 : decode cX4_firstArrival 44 = .ok (.if_icmp .ne 10, 3) := by decide +kernel
theorem dX4_firstArrival_47 : decode cX4_firstArrival 47 = .ok (.aload_n 0, 1) := by decide +kernel
theorem dX4_firstArrival_48 : decode cX4_firstArrival 48 = .ok (.getfield 9, 3) := by decide +kernel
theorem dX4_firstArrival_51 : decode cX4_firstArrival 51 = .ok (.iload_n 3, 1) := by decide +kernel
theorem dX4_firstArrival_52 : decode cX4_firstArrival 52 = .ok (.iaload, 1) := by decide +kernel
theorem dX4_firstArrival_53 : decode cX4_firstArrival 53 = .ok (.ireturn, 1) := by decide +kernel
theorem dX4_firstArrival_54 : decode cX4_firstArrival 54 = .ok (.aload_n 0, 1) := by decide +kernel
theorem dX4_firstArrival_55 : decode cX4_firstArrival 55 = .ok (.getfield 15, 3) := by decide +kernel
theorem dX4_firstArrival_58 : decode cX4_firstArrival 58 = .ok (.iload 6, 2) := by decide +kernel
theorem dX4_firstArrival_60 : decode cX4_firstArrival 60 = .ok (.iconst 1, 1) := by decide +kernel
theorem dX4_firstArrival_61 : decode cX4_firstArrival 61 = .ok (.bastore, 1) := by decide +kernel
theorem dX4_firstArrival_62 : decode cX4_firstArrival 62 = .ok (.iconst 0, 1) := by decide +kernel
theorem dX4_firstArrival_63 : decode cX4_firstArrival 63 = .ok (.istore 7, 2) := by decide +kernel
theorem dX4_firstArrival_65 : decode cX4_firstArrival 65 = .ok (.iload 7, 2) := by decide +kernel
theorem dX4_firstArrival_67 : decode cX4_firstArrival 67 = .ok (.iload_n 1, 1) := by decide +kernel
theorem dX4_firstArrival_68 : decode cX4_firstArrival 68 = .ok (.if_icmp .ge 23, 3) := by decide +kernel
theorem dX4_firstArrival_71 : decode cX4_firstArrival 71 = .ok (.aload_n 0, 1) := by decide +kernel
theorem dX4_firstArrival_72 : decode cX4_firstArrival 72 = .ok (.iload 7, 2) := by decide +kernel
theorem dX4_firstArrival_74 : decode cX4_firstArrival 74 = .ok (.iload 6, 2) := by decide +kernel
theorem dX4_firstArrival_76 : decode cX4_firstArrival 76 = .ok (.iload 4, 2) := by decide +kernel
theorem dX4_firstArrival_78 : decode cX4_firstArrival 78 = .ok (.sipush 2000, 3) := by decide +kernel
theorem dX4_firstArrival_81 : decode cX4_firstArrival 81 = .ok (.iadd, 1) := by decide +kernel
theorem dX4_firstArrival_82 : decode cX4_firstArrival 82 = .ok (.invokevirtual 43, 3) := by decide +kernel
theorem dX4_firstArrival_85 : decode cX4_firstArrival 85 = .ok (.iinc 7 1, 3) := by decide +kernel
theorem dX4_firstArrival_88 : decode cX4_firstArrival 88 = .ok (.goto (-23), 3) := by decide +kernel
theorem dX4_firstArrival_91 : decode cX4_firstArrival 91 = .ok (.iinc 5 1, 3) := by decide +kernel
theorem dX4_firstArrival_94 : decode cX4_firstArrival 94 = .ok (.goto (-79), 3) := by decide +kernel
theorem dX4_firstArrival_97 : decode cX4_firstArrival 97 = .ok (.iconst (-1), 1) := by decide +kernel
theorem dX4_firstArrival_98 : decode cX4_firstArrival 98 = .ok (.ireturn, 1) := by decide +kernel
theorem dX4_clear_0 : decode cX4_clear 0 = .ok (.iconst 0, 1) := by decide +kernel
theorem dX4_clear_1 : decode cX4_clear 1 = .ok (.istore_n 1, 1) := by decide +kernel
theorem dX4_clear_2 : decode cX4_clear 2 = .ok (.iload_n 1, 1) := by decide +kernel
theorem dX4_clear_3 : decode cX4_clear 3 = .ok (.bipush 10, 2) := by decide +kernel
theorem dX4_clear_5 : decode cX4_clear 5 = .ok (.if_icmp .ge 23, 3) := by decide +kernel
theorem dX4_clear_8 : decode cX4_clear 8 = .ok (.aload_n 0, 1) := by decide +kernel
theorem dX4_clear_9 : decode cX4_clear 9 = .ok (.getfield 9, 3) := by decide +kernel
theorem dX4_clear_12 : decode cX4_clear 12 = .ok (.iload_n 1, 1) := by decide +kernel
theorem dX4_clear_13 : decode cX4_clear 13 = .ok (.iconst (-1), 1) := by decide +kernel
theorem dX4_clear_14 : decode cX4_clear 14 = .ok (.iastore, 1) := by decide +kernel
theorem dX4_clear_15 : decode cX4_clear 15 = .ok (.aload_n 0, 1) := by decide +kernel
theorem dX4_clear_16 : decode cX4_clear 16 = .ok (.getfield 15, 3) := by decide +kernel
theorem dX4_clear_19 : decode cX4_clear 19 = .ok (.iload_n 1, 1) := by decide +kernel
theorem dX4_clear_20 : decode cX4_clear 20 = .ok (.iconst 0, 1) := by decide +kernel
theorem dX4_clear_21 : decode cX4_clear 21 = .ok (.bastore, 1) := by decide +kernel
theorem dX4_clear_22 : decode cX4_clear 22 = .ok (.iinc 1 1, 3) := by decide +kernel
theorem dX4_clear_25 : decode cX4_clear 25 = .ok (.goto (-23), 3) := by decide +kernel
theorem dX4_clear_28 : decode cX4_clear 28 = .ok (.return_, 1) := by decide +kernel
theorem dX4_earliestUnsettled_0 : decode cX4_earliestUnsettled 0 = .ok (.iconst (-1), 1) := by decide +kernel
theorem dX4_earliestUnsettled_1 : decode cX4_earliestUnsettled 1 = .ok (.istore_n 1, 1) := by decide +kernel
theorem dX4_earliestUnsettled_2 : decode cX4_earliestUnsettled 2 = .ok (.iconst 0, 1) := by decide +kernel
theorem dX4_earliestUnsettled_3 : decode cX4_earliestUnsettled 3 = .ok (.istore_n 2, 1) := by decide +kernel
theorem dX4_earliestUnsettled_4 : decode cX4_earliestUnsettled 4 = .ok (.iload_n 2, 1) := by decide +kernel
theorem dX4_earliestUnsettled_5 : decode cX4_earliestUnsettled 5 = .ok (.aload_n 0, 1) := by decide +kernel
theorem dX4_earliestUnsettled_6 : decode cX4_earliestUnsettled 6 = .ok (.getfield 29, 3) := by decide +kernel
theorem dX4_earliestUnsettled_9 : decode cX4_earliestUnsettled 9 = .ok (.getfield 33, 3) := by decide +kernel
theorem dX4_earliestUnsettled_12 : decode cX4_earliestUnsettled 12 = .ok (.if_icmp .ge 50, 3) := by decide +kernel
theorem dX4_earliestUnsettled_15 : decode cX4_earliestUnsettled 15 = .ok (.aload_n 0, 1) := by decide +kernel
theorem dX4_earliestUnsettled_16 : decode cX4_earliestUnsettled 16 = .ok (.getfield 15, 3) := by decide +kernel
theorem dX4_earliestUnsettled_19 : decode cX4_earliestUnsettled 19 = .ok (.iload_n 2, 1) := by decide +kernel
theorem dX4_earliestUnsettled_20 : decode cX4_earliestUnsettled 20 = .ok (.baload, 1) := by decide +kernel
theorem dX4_earliestUnsettled_21 : decode cX4_earliestUnsettled 21 = .ok (.ifCond .ne 35, 3) := by decide +kernel
theorem dX4_earliestUnsettled_24 : decode cX4_earliestUnsettled 24 = .ok (.aload_n 0, 1) := by decide +kernel
theorem dX4_earliestUnsettled_25 : decode cX4_earliestUnsettled 25 = .ok (.getfield 9, 3) := by decide +kernel
theorem dX4_earliestUnsettled_28 : decode cX4_earliestUnsettled 28 = .ok (.iload_n 2, 1) := by decide +kernel
theorem dX4_earliestUnsettled_29 : decode cX4_earliestUnsettled 29 = .ok (.iaload, 1) := by decide +kernel
theorem dX4_earliestUnsettled_30 : decode cX4_earliestUnsettled 30 = .ok (.iconst (-1), 1) := by decide +kernel
theorem dX4_earliestUnsettled_31 : decode cX4_earliestUnsettled 31 = .ok (.if_icmp .eq 25, 3) := by decide +kernel
theorem dX4_earliestUnsettled_34 : decode cX4_earliestUnsettled 34 = .ok (.iload_n 1, 1) := by decide +kernel
theorem dX4_earliestUnsettled_35 : decode cX4_earliestUnsettled 35 = .ok (.iconst (-1), 1) := by decide +kernel
theorem dX4_earliestUnsettled_36 : decode cX4_earliestUnsettled 36 = .ok (.if_icmp .eq 18, 3) := by decide +kernel
theorem dX4_earliestUnsettled_39 : decode cX4_earliestUnsettled 39 = .ok (.aload_n 0, 1) := by decide +kernel
theorem dX4_earliestUnsettled_40 : decode cX4_earliestUnsettled 40 = .ok (.getfield 9, 3) := by decide +kernel
theorem dX4_earliestUnsettled_43 : decode cX4_earliestUnsettled 43 = .ok (.iload_n 2, 1) := by decide +kernel
theorem dX4_earliestUnsettled_44 : decode cX4_earliestUnsettled 44 = .ok (.iaload, 1) := by decide +kernel
theorem dX4_earliestUnsettled_45 : decode cX4_earliestUnsettled 45 = .ok (.aload_n 0, 1) := by decide +kernel
theorem dX4_earliestUnsettled_46 : decode cX4_earliestUnsettled 46 = .ok (.getfield 9, 3) := by decide +kernel
theorem dX4_earliestUnsettled_49 : decode cX4_earliestUnsettled 49 = .ok (.iload_n 1, 1) := by decide +kernel
theorem dX4_earliestUnsettled_50 : decode cX4_earliestUnsettled 50 = .ok (.iaload, 1) := by decide +kernel
theorem dX4_earliestUnsettled_51 : decode cX4_earliestUnsettled 51 = .ok (.if_icmp .ge 5, 3) := by decide +kernel
theorem dX4_earliestUnsettled_54 : decode cX4_earliestUnsettled 54 = .ok (.iload_n 2, 1) := by decide +kernel
theorem dX4_earliestUnsettled_55 : decode cX4_earliestUnsettled 55 = .ok (.istore_n 1, 1) := by decide +kernel
theorem dX4_earliestUnsettled_56 : decode cX4_earliestUnsettled 56 = .ok (.iinc 2 1, 3) := by decide +kernel
theorem dX4_earliestUnsettled_59 : decode cX4_earliestUnsettled 59 = .ok (.goto (-55), 3) := by decide +kernel
theorem dX4_earliestUnsettled_62 : decode cX4_earliestUnsettled 62 = .ok (.iload_n 1, 1) := by decide +kernel
theorem dX4_earliestUnsettled_63 : decode cX4_earliestUnsettled 63 = .ok (.ireturn, 1) := by decide +kernel
set_option maxRecDepth 20000 in
theorem ggX4_reachBy_X7_sideOf : GoodIn wsX4_reachBy wsX7_sideOf := goodIn_r _ [9, 10, 38, 39, 40, 41, 42, 43, 44, 45, 46, 47, 48, 49] (by decide +kernel) (by decide +kernel)
set_option maxRecDepth 20000 in
theorem gX4_reachBy_X7_sideOf : GoodIn wsX4_reachBy (wsV RX4 47 RX7 yX7_sideOf wsX7_sideOf) := goodIn_app (goodIn_of _ (by decide +kernel)) ggX4_reachBy_X7_sideOf
set_option maxRecDepth 20000 in
theorem ggX4_reachBy_X7_cornerAcross : GoodIn wsX4_reachBy wsX7_cornerAcross := goodIn_r _ [14, 10, 38, 39, 40, 41, 42, 43, 44, 45, 46, 47, 48, 49] (by decide +kernel) (by decide +kernel)
set_option maxRecDepth 20000 in
theorem gX4_reachBy_X7_cornerAcross : GoodIn wsX4_reachBy (wsV RX4 51 RX7 yX7_cornerAcross wsX7_cornerAcross) := goodIn_app (goodIn_of _ (by decide +kernel)) ggX4_reachBy_X7_cornerAcross
set_option maxRecDepth 20000 in
theorem ggX4_reachBy_X7_firstOpen : GoodIn wsX4_reachBy wsX7_firstOpen := goodIn_r _ [18, 19, 20, 21, 8, 22, 23, 24, 25, 26, 27, 28, 29, 30, 31, 32, 33, 38, 39, 40, 41, 42, 43, 44, 45, 46, 47, 48, 49] (by decide +kernel) (by decide +kernel)
set_option maxRecDepth 20000 in
theorem gX4_reachBy_X7_firstOpen : GoodIn wsX4_reachBy (wsV RX4 57 RX7 yX7_firstOpen wsX7_firstOpen) := goodIn_app (goodIn_of _ (by decide +kernel)) ggX4_reachBy_X7_firstOpen
theorem dX4_reachBy_0 : decode cX4_reachBy 0 = .ok (.aload_n 0, 1) := by decide +kernel
theorem dX4_reachBy_1 : decode cX4_reachBy 1 = .ok (.getfield 29, 3) := by decide +kernel
theorem dX4_reachBy_4 : decode cX4_reachBy 4 = .ok (.iload_n 1, 1) := by decide +kernel
theorem dX4_reachBy_5 : decode cX4_reachBy 5 = .ok (.iload_n 2, 1) := by decide +kernel
theorem dX4_reachBy_6 : decode cX4_reachBy 6 = .ok (.invokevirtual 47, 3) := by decide +kernel
theorem dX4_reachBy_9 : decode cX4_reachBy 9 = .ok (.istore 4, 2) := by decide +kernel
theorem dX4_reachBy_11 : decode cX4_reachBy 11 = .ok (.iload 4, 2) := by decide +kernel
theorem dX4_reachBy_13 : decode cX4_reachBy 13 = .ok (.iconst (-1), 1) := by decide +kernel
theorem dX4_reachBy_14 : decode cX4_reachBy 14 = .ok (.if_icmp .eq 21, 3) := by decide +kernel
theorem dX4_reachBy_17 : decode cX4_reachBy 17 = .ok (.aload_n 0, 1) := by decide +kernel
theorem dX4_reachBy_18 : decode cX4_reachBy 18 = .ok (.getfield 15, 3) := by decide +kernel
theorem dX4_reachBy_21 : decode cX4_reachBy 21 = .ok (.aload_n 0, 1) := by decide +kernel
theorem dX4_reachBy_22 : decode cX4_reachBy 22 = .ok (.getfield 29, 3) := by decide +kernel
theorem dX4_reachBy_25 : decode cX4_reachBy 25 = .ok (.iload_n 1, 1) := by decide +kernel
theorem dX4_reachBy_26 : decode cX4_reachBy 26 = .ok (.iload 4, 2) := by decide +kernel
theorem dX4_reachBy_28 : decode cX4_reachBy 28 = .ok (.invokevirtual 51, 3) := by decide +kernel
theorem dX4_reachBy_31 : decode cX4_reachBy 31 = .ok (.baload, 1) := by decide +kernel
theorem dX4_reachBy_32 : decode cX4_reachBy 32 = .ok (.ifCond .eq 4, 3) := by decide +kernel
theorem dX4_reachBy_35 : decode cX4_reachBy 35 = .ok (.return_, 1) := by decide +kernel
theorem dX4_reachBy_36 : decode cX4_reachBy 36 = .ok (.aload_n 0, 1) := by decide +kernel
theorem dX4_reachBy_37 : decode cX4_reachBy 37 = .ok (.getfield 29, 3) := by decide +kernel
theorem dX4_reachBy_40 : decode cX4_reachBy 40 = .ok (.iload_n 1, 1) := by decide +kernel
theorem dX4_reachBy_41 : decode cX4_reachBy 41 = .ok (.iload 4, 2) := by decide +kernel
theorem dX4_reachBy_43 : decode cX4_reachBy 43 = .ok (.invokevirtual 51, 3) := by decide +kernel
theorem dX4_reachBy_46 : decode cX4_reachBy 46 = .ok (.istore 5, 2) := by decide +kernel
theorem dX4_reachBy_48 : decode cX4_reachBy 48 = .ok (.aload_n 0, 1) := by decide +kernel
theorem dX4_reachBy_49 : decode cX4_reachBy 49 = .ok (.getfield 29, 3) := by decide +kernel
theorem dX4_reachBy_52 : decode cX4_reachBy 52 = .ok (.getfield 54, 3) := by decide +kernel
theorem dX4_reachBy_55 : decode cX4_reachBy 55 = .ok (.iload_n 1, 1) := by decide +kernel
theorem dX4_reachBy_56 : decode cX4_reachBy 56 = .ok (.iaload, 1) := by decide +kernel
theorem dX4_reachBy_57 : decode cX4_reachBy 57 = .ok (.istore 6, 2) := by decide +kernel
theorem dX4_reachBy_59 : decode cX4_reachBy 59 = .ok (.aload_n 0, 1) := by decide +kernel
theorem dX4_reachBy_60 : decode cX4_reachBy 60 = .ok (.getfield 29, 3) := by decide +kernel
theorem dX4_reachBy_63 : decode cX4_reachBy 63 = .ok (.iload_n 1, 1) := by decide +kernel
theorem dX4_reachBy_64 : decode cX4_reachBy 64 = .ok (.iload 4, 2) := by decide +kernel
theorem dX4_reachBy_66 : decode cX4_reachBy 66 = .ok (.aload_n 0, 1) := by decide +kernel
theorem dX4_reachBy_67 : decode cX4_reachBy 67 = .ok (.getfield 9, 3) := by decide +kernel
theorem dX4_reachBy_70 : decode cX4_reachBy 70 = .ok (.iload_n 2, 1) := by decide +kernel
theorem dX4_reachBy_71 : decode cX4_reachBy 71 = .ok (.iaload, 1) := by decide +kernel
theorem dX4_reachBy_72 : decode cX4_reachBy 72 = .ok (.iload_n 3, 1) := by decide +kernel
theorem dX4_reachBy_73 : decode cX4_reachBy 73 = .ok (.iload 6, 2) := by decide +kernel
theorem dX4_reachBy_75 : decode cX4_reachBy 75 = .ok (.isub, 1) := by decide +kernel
theorem dX4_reachBy_76 : decode cX4_reachBy 76 = .ok (.invokevirtual 57, 3) := by decide +kernel
theorem dX4_reachBy_79 : decode cX4_reachBy 79 = .ok (.istore 7, 2) := by decide +kernel
theorem dX4_reachBy_81 : decode cX4_reachBy 81 = .ok (.iload 7, 2) := by decide +kernel
theorem dX4_reachBy_83 : decode cX4_reachBy 83 = .ok (.iconst (-1), 1) := by decide +kernel
theorem dX4_reachBy_84 : decode cX4_reachBy 84 = .ok (.if_icmp .eq 41, 3) := by decide +kernel
theorem dX4_reachBy_87 : decode cX4_reachBy 87 = .ok (.aload_n 0, 1) := by decide +kernel
theorem dX4_reachBy_88 : decode cX4_reachBy 88 = .ok (.getfield 9, 3) := by decide +kernel
theorem dX4_reachBy_91 : decode cX4_reachBy 91 = .ok (.iload 5, 2) := by decide +kernel
theorem dX4_reachBy_93 : decode cX4_reachBy 93 = .ok (.iaload, 1) := by decide +kernel
theorem dX4_reachBy_94 : decode cX4_reachBy 94 = .ok (.iconst (-1), 1) := by decide +kernel
theorem dX4_reachBy_95 : decode cX4_reachBy 95 = .ok (.if_icmp .eq 18, 3) := by decide +kernel
theorem dX4_reachBy_98 : decode cX4_reachBy 98 = .ok (.iload 7, 2) := by decide +kernel
theorem dX4_reachBy_100 : decode cX4_reachBy 100 = .ok (.iload 6, 2) := by decide +kernel
theorem dX4_reachBy_102 : decode cX4_reachBy 102 = .ok (.iadd, 1) := by decide +kernel
theorem dX4_reachBy_103 : decode cX4_reachBy 103 = .ok (.aload_n 0, 1) := by decide +kernel
theorem dX4_reachBy_104 : decode cX4_reachBy 104 = .ok (.getfield 9, 3) := by decide +kernel
theorem dX4_reachBy_107 : decode cX4_reachBy 107 = .ok (.iload 5, 2) := by decide +kernel
theorem dX4_reachBy_109 : decode cX4_reachBy 109 = .ok (.iaload, 1) := by decide +kernel
theorem dX4_reachBy_110 : decode cX4_reachBy 110 = .ok (.if_icmp .ge 15, 3) := by decide +kernel
theorem dX4_reachBy_113 : decode cX4_reachBy 113 = .ok (.aload_n 0, 1) := by decide +kernel
theorem dX4_reachBy_114 : decode cX4_reachBy 114 = .ok (.getfield 9, 3) := by decide +kernel
theorem dX4_reachBy_117 : decode cX4_reachBy 117 = .ok (.iload 5, 2) := by decide +kernel
theorem dX4_reachBy_119 : decode cX4_reachBy 119 = .ok (.iload 7, 2) := by decide +kernel
theorem dX4_reachBy_121 : decode cX4_reachBy 121 = .ok (.iload 6, 2) := by decide +kernel
theorem dX4_reachBy_123 : decode cX4_reachBy 123 = .ok (.iadd, 1) := by decide +kernel
theorem dX4_reachBy_124 : decode cX4_reachBy 124 = .ok (.iastore, 1) := by decide +kernel
theorem dX4_reachBy_125 : decode cX4_reachBy 125 = .ok (.return_, 1) := by decide +kernel
set_option maxRecDepth 20000 in
theorem ggX4_streetOnWay_X4_firstArrival : GoodIn wsX4_streetOnWay wsX4_firstArrival := goodIn_r _ [8, 9, 1, 10, 11, 12, 13, 14, 7, 15, 16, 17, 18, 19, 20, 21, 22, 23, 3, 24, 25, 26, 27, 28, 29, 30, 31, 32, 33, 34, 35, 36, 37, 38, 39, 40, 41, 42, 43, 44, 45, 46, 47, 48, 49, 50, 51, 52, 77, 78, 79, 80, 81, 82, 83, 84, 85, 86, 87, 88, 89, 90, 91, 92] (by decide +kernel) (by decide +kernel)
set_option maxRecDepth 20000 in
theorem gX4_streetOnWay_X4_firstArrival : GoodIn wsX4_streetOnWay (wsV RX4 64 RX4 yX4_firstArrival wsX4_firstArrival) := goodIn_app (goodIn_of _ (by decide +kernel)) ggX4_streetOnWay_X4_firstArrival
set_option maxRecDepth 20000 in
theorem ggX4_streetOnWay_X4_findLatest : GoodIn wsX4_streetOnWay wsX4_findLatest := goodIn_r _ [56, 9, 1, 10, 11, 2, 12, 13, 14, 7, 15, 57, 58, 59, 60, 61, 62, 63, 64, 3, 65, 66, 67, 68, 24, 25, 26, 27, 28, 29, 30, 31, 32, 33, 69, 70, 71, 72, 38, 39, 40, 41, 42, 43, 44, 45, 46, 47, 48, 49, 50, 51, 52, 77, 78, 79, 80, 81, 82, 83, 84, 85, 86, 87, 88, 89, 90, 91, 92] (by decide +kernel) (by decide +kernel)
set_option maxRecDepth 20000 in
theorem gX4_streetOnWay_X4_findLatest : GoodIn wsX4_streetOnWay (wsV RX4 67 RX4 yX4_findLatest wsX4_findLatest) := goodIn_app (goodIn_of _ (by decide +kernel)) ggX4_streetOnWay_X4_findLatest
set_option maxRecDepth 20000 in
theorem ggX4_streetOnWay_X4_leastStreet : GoodIn wsX4_streetOnWay wsX4_leastStreet := goodIn_r _ [76, 1, 2, 9, 3, 24, 25, 26, 27, 28, 29, 30, 31, 32, 33, 34, 35, 36, 37, 38, 39, 40, 41, 42, 43, 44, 45, 46, 47, 48, 49, 50, 51, 52, 77, 78, 79, 80, 81, 82, 83, 84, 85, 86, 87, 88, 89, 90, 91, 92] (by decide +kernel) (by decide +kernel)
set_option maxRecDepth 20000 in
theorem gX4_streetOnWay_X4_leastStreet : GoodIn wsX4_streetOnWay (wsV RX4 70 RX4 yX4_leastStreet wsX4_leastStreet) := goodIn_app (goodIn_of _ (by decide +kernel)) ggX4_streetOnWay_X4_leastStreet
set_option maxRecDepth 20000 in
theorem ggX4_streetOnWay_X7_sideOf : GoodIn wsX4_streetOnWay wsX7_sideOf := goodIn_r _ [28, 29, 81, 82, 83, 84, 85, 86, 87, 88, 89, 90, 91, 92] (by decide +kernel) (by decide +kernel)
set_option maxRecDepth 20000 in
theorem gX4_streetOnWay_X7_sideOf : GoodIn wsX4_streetOnWay (wsV RX4 47 RX7 yX7_sideOf wsX7_sideOf) := goodIn_app (goodIn_of _ (by decide +kernel)) ggX4_streetOnWay_X7_sideOf
set_option maxRecDepth 20000 in
theorem ggX4_streetOnWay_X7_firstOpen : GoodIn wsX4_streetOnWay wsX7_firstOpen := goodIn_r _ [37, 38, 39, 40, 27, 41, 42, 43, 44, 45, 46, 47, 48, 49, 50, 51, 52, 81, 82, 83, 84, 85, 86, 87, 88, 89, 90, 91, 92] (by decide +kernel) (by decide +kernel)
set_option maxRecDepth 20000 in
theorem gX4_streetOnWay_X7_firstOpen : GoodIn wsX4_streetOnWay (wsV RX4 57 RX7 yX7_firstOpen wsX7_firstOpen) := goodIn_app (goodIn_of _ (by decide +kernel)) ggX4_streetOnWay_X7_firstOpen
set_option maxRecDepth 20000 in
theorem ggX4_streetOnWay_X7_cornerAcross : GoodIn wsX4_streetOnWay wsX7_cornerAcross := goodIn_r _ [33, 29, 81, 82, 83, 84, 85, 86, 87, 88, 89, 90, 91, 92] (by decide +kernel) (by decide +kernel)
set_option maxRecDepth 20000 in
theorem gX4_streetOnWay_X7_cornerAcross : GoodIn wsX4_streetOnWay (wsV RX4 51 RX7 yX7_cornerAcross wsX7_cornerAcross) := goodIn_app (goodIn_of _ (by decide +kernel)) ggX4_streetOnWay_X7_cornerAcross
theorem dX4_streetOnWay_0 : decode cX4_streetOnWay 0 = .ok (.aload_n 0, 1) := by decide +kernel
theorem dX4_streetOnWay_1 : decode cX4_streetOnWay 1 = .ok (.aload_n 0, 1) := by decide +kernel
theorem dX4_streetOnWay_2 : decode cX4_streetOnWay 2 = .ok (.getfield 29, 3) := by decide +kernel
theorem dX4_streetOnWay_5 : decode cX4_streetOnWay 5 = .ok (.getfield 61, 3) := by decide +kernel
theorem dX4_streetOnWay_8 : decode cX4_streetOnWay 8 = .ok (.iload_n 1, 1) := by decide +kernel
theorem dX4_streetOnWay_9 : decode cX4_streetOnWay 9 = .ok (.iload_n 2, 1) := by decide +kernel
theorem dX4_streetOnWay_10 : decode cX4_streetOnWay 10 = .ok (.iload_n 3, 1) := by decide +kernel
theorem dX4_streetOnWay_11 : decode cX4_streetOnWay 11 = .ok (.invokevirtual 64, 3) := by decide +kernel
theorem dX4_streetOnWay_14 : decode cX4_streetOnWay 14 = .ok (.istore 5, 2) := by decide +kernel
theorem dX4_streetOnWay_16 : decode cX4_streetOnWay 16 = .ok (.iload 5, 2) := by decide +kernel
theorem dX4_streetOnWay_18 : decode cX4_streetOnWay 18 = .ok (.iconst (-1), 1) := by decide +kernel
theorem dX4_streetOnWay_19 : decode cX4_streetOnWay 19 = .ok (.if_icmp .ne 5, 3) := by decide +kernel
theorem dX4_streetOnWay_22 : decode cX4_streetOnWay 22 = .ok (.iconst (-1), 1) := by decide +kernel
theorem dX4_streetOnWay_23 : decode cX4_streetOnWay 23 = .ok (.ireturn, 1) := by decide +kernel
theorem dX4_streetOnWay_24 : decode cX4_streetOnWay 24 = .ok (.aload_n 0, 1) := by decide +kernel
theorem dX4_streetOnWay_25 : decode cX4_streetOnWay 25 = .ok (.iload_n 2, 1) := by decide +kernel
theorem dX4_streetOnWay_26 : decode cX4_streetOnWay 26 = .ok (.iload_n 3, 1) := by decide +kernel
theorem dX4_streetOnWay_27 : decode cX4_streetOnWay 27 = .ok (.iload 5, 2) := by decide +kernel
theorem dX4_streetOnWay_29 : decode cX4_streetOnWay 29 = .ok (.invokevirtual 67, 3) := by decide +kernel
theorem dX4_streetOnWay_32 : decode cX4_streetOnWay 32 = .ok (.iload_n 1, 1) := by decide +kernel
theorem dX4_streetOnWay_33 : decode cX4_streetOnWay 33 = .ok (.istore 6, 2) := by decide +kernel
theorem dX4_streetOnWay_35 : decode cX4_streetOnWay 35 = .ok (.iload_n 3, 1) := by decide +kernel
theorem dX4_streetOnWay_36 : decode cX4_streetOnWay 36 = .ok (.istore 7, 2) := by decide +kernel
theorem dX4_streetOnWay_38 : decode cX4_streetOnWay 38 = .ok (.iconst 0, 1) := by decide +kernel
theorem dX4_streetOnWay_39 : decode cX4_streetOnWay 39 = .ok (.istore 8, 2) := by decide +kernel
theorem dX4_streetOnWay_41 : decode cX4_streetOnWay 41 = .ok (.iload 8, 2) := by decide +kernel
theorem dX4_streetOnWay_43 : decode cX4_streetOnWay 43 = .ok (.iload 4, 2) := by decide +kernel
theorem dX4_streetOnWay_45 : decode cX4_streetOnWay 45 = .ok (.if_icmp .gt 103, 3) := by decide +kernel
theorem dX4_streetOnWay_48 : decode cX4_streetOnWay 48 = .ok (.iload 8, 2) := by decide +kernel
theorem dX4_streetOnWay_50 : decode cX4_streetOnWay 50 = .ok (.sipush 2000, 3) := by decide +kernel
theorem dX4_streetOnWay_53 : decode cX4_streetOnWay 53 = .ok (.if_icmp .gt 95, 3) := by decide +kernel
theorem dX4_streetOnWay_56 : decode cX4_streetOnWay 56 = .ok (.iload 6, 2) := by decide +kernel
theorem dX4_streetOnWay_58 : decode cX4_streetOnWay 58 = .ok (.iload_n 2, 1) := by decide +kernel
theorem dX4_streetOnWay_59 : decode cX4_streetOnWay 59 = .ok (.if_icmp .eq 89, 3) := by decide +kernel
theorem dX4_streetOnWay_62 : decode cX4_streetOnWay 62 = .ok (.aload_n 0, 1) := by decide +kernel
theorem dX4_streetOnWay_63 : decode cX4_streetOnWay 63 = .ok (.iload 6, 2) := by decide +kernel
theorem dX4_streetOnWay_65 : decode cX4_streetOnWay 65 = .ok (.iload 7, 2) := by decide +kernel
theorem dX4_streetOnWay_67 : decode cX4_streetOnWay 67 = .ok (.invokevirtual 70, 3) := by decide +kernel
theorem dX4_streetOnWay_70 : decode cX4_streetOnWay 70 = .ok (.istore 9, 2) := by decide +kernel
theorem dX4_streetOnWay_72 : decode cX4_streetOnWay 72 = .ok (.iload 9, 2) := by decide +kernel
theorem dX4_streetOnWay_74 : decode cX4_streetOnWay 74 = .ok (.iconst (-1), 1) := by decide +kernel
theorem dX4_streetOnWay_75 : decode cX4_streetOnWay 75 = .ok (.if_icmp .eq 10, 3) := by decide +kernel
theorem dX4_streetOnWay_78 : decode cX4_streetOnWay 78 = .ok (.iload 8, 2) := by decide +kernel
theorem dX4_streetOnWay_80 : decode cX4_streetOnWay 80 = .ok (.iload 4, 2) := by decide +kernel
theorem dX4_streetOnWay_82 : decode cX4_streetOnWay 82 = .ok (.if_icmp .ne 6, 3) := by decide +kernel
theorem dX4_streetOnWay_85 : decode cX4_streetOnWay 85 = .ok (.iload 9, 2) := by decide +kernel
theorem dX4_streetOnWay_87 : decode cX4_streetOnWay 87 = .ok (.ireturn, 1) := by decide +kernel
theorem dX4_streetOnWay_88 : decode cX4_streetOnWay 88 = .ok (.aload_n 0, 1) := by decide +kernel
theorem dX4_streetOnWay_89 : decode cX4_streetOnWay 89 = .ok (.getfield 29, 3) := by decide +kernel
theorem dX4_streetOnWay_92 : decode cX4_streetOnWay 92 = .ok (.iload 9, 2) := by decide +kernel
theorem dX4_streetOnWay_94 : decode cX4_streetOnWay 94 = .ok (.iload 6, 2) := by decide +kernel
theorem dX4_streetOnWay_96 : decode cX4_streetOnWay 96 = .ok (.invokevirtual 47, 3) := by decide +kernel
theorem dX4_streetOnWay_99 : decode cX4_streetOnWay 99 = .ok (.istore 10, 2) := by decide +kernel
theorem dX4_streetOnWay_101 : decode cX4_streetOnWay 101 = .ok (.aload_n 0, 1) := by decide +kernel
theorem dX4_streetOnWay_102 : decode cX4_streetOnWay 102 = .ok (.getfield 29, 3) := by decide +kernel
theorem dX4_streetOnWay_105 : decode cX4_streetOnWay 105 = .ok (.iload 9, 2) := by decide +kernel
theorem dX4_streetOnWay_107 : decode cX4_streetOnWay 107 = .ok (.iload 10, 2) := by decide +kernel
theorem dX4_streetOnWay_109 : decode cX4_streetOnWay 109 = .ok (.iload 7, 2) := by decide +kernel
theorem dX4_streetOnWay_111 : decode cX4_streetOnWay 111 = .ok (.iload 5, 2) := by decide +kernel
theorem dX4_streetOnWay_113 : decode cX4_streetOnWay 113 = .ok (.invokevirtual 57, 3) := by decide +kernel
theorem dX4_streetOnWay_116 : decode cX4_streetOnWay 116 = .ok (.aload_n 0, 1) := by decide +kernel
theorem dX4_streetOnWay_117 : decode cX4_streetOnWay 117 = .ok (.getfield 29, 3) := by decide +kernel
theorem dX4_streetOnWay_120 : decode cX4_streetOnWay 120 = .ok (.getfield 54, 3) := by decide +kernel
theorem dX4_streetOnWay_123 : decode cX4_streetOnWay 123 = .ok (.iload 9, 2) := by decide +kernel
theorem dX4_streetOnWay_125 : decode cX4_streetOnWay 125 = .ok (.iaload, 1) := by decide +kernel
theorem dX4_streetOnWay_126 : decode cX4_streetOnWay 126 = .ok (.iadd, 1) := by decide +kernel
theorem dX4_streetOnWay_127 : decode cX4_streetOnWay 127 = .ok (.istore 7, 2) := by decide +kernel
theorem dX4_streetOnWay_129 : decode cX4_streetOnWay 129 = .ok (.aload_n 0, 1) := by decide +kernel
theorem dX4_streetOnWay_130 : decode cX4_streetOnWay 130 = .ok (.getfield 29, 3) := by decide +kernel
theorem dX4_streetOnWay_133 : decode cX4_streetOnWay 133 = .ok (.iload 9, 2) := by decide +kernel
theorem dX4_streetOnWay_135 : decode cX4_streetOnWay 135 = .ok (.iload 10, 2) := by decide +kernel
theorem dX4_streetOnWay_137 : decode cX4_streetOnWay 137 = .ok (.invokevirtual 51, 3) := by decide +kernel
theorem dX4_streetOnWay_140 : decode cX4_streetOnWay 140 = .ok (.istore 6, 2) := by decide +kernel
theorem dX4_streetOnWay_142 : decode cX4_streetOnWay 142 = .ok (.iinc 8 1, 3) := by decide +kernel
theorem dX4_streetOnWay_145 : decode cX4_streetOnWay 145 = .ok (.goto (-104), 3) := by decide +kernel
theorem dX4_streetOnWay_148 : decode cX4_streetOnWay 148 = .ok (.iconst (-1), 1) := by decide +kernel
theorem dX4_streetOnWay_149 : decode cX4_streetOnWay 149 = .ok (.ireturn, 1) := by decide +kernel
set_option maxRecDepth 20000 in
theorem ggX4_findLatest_X4_clear : GoodIn wsX4_findLatest wsX4_clear := goodIn_r _ [10, 1, 4, 53, 54, 55, 56] (by decide +kernel) (by decide +kernel)
set_option maxRecDepth 20000 in
theorem gX4_findLatest_X4_clear : GoodIn wsX4_findLatest (wsV RX4 30 RX4 yX4_clear wsX4_clear) := goodIn_app (goodIn_of _ (by decide +kernel)) ggX4_findLatest_X4_clear
set_option maxRecDepth 20000 in
theorem ggX4_findLatest_X4_latestUnsettled : GoodIn wsX4_findLatest wsX4_latestUnsettled := goodIn_r _ [14, 2, 3, 4, 1, 53, 54, 55, 56, 57, 58, 59, 60, 61, 62, 63, 64, 65, 66, 67, 68] (by decide +kernel) (by decide +kernel)
set_option maxRecDepth 20000 in
theorem gX4_findLatest_X4_latestUnsettled : GoodIn wsX4_findLatest (wsV RX4 73 RX4 yX4_latestUnsettled wsX4_latestUnsettled) := goodIn_app (goodIn_of _ (by decide +kernel)) ggX4_findLatest_X4_latestUnsettled
set_option maxRecDepth 20000 in
theorem ggX4_findLatest_X4_leaveBy : GoodIn wsX4_findLatest wsX4_leaveBy := goodIn_r _ [18, 2, 1, 19, 20, 21, 22, 23, 24, 25, 26, 27, 28, 29, 30, 31, 32, 33, 34, 35, 36, 37, 38, 39, 40, 41, 42, 43, 44, 45, 46, 47, 48, 49, 50, 51, 52, 53, 54, 55, 56, 57, 58, 59, 60, 61, 62, 63, 64, 65, 66, 67, 68] (by decide +kernel) (by decide +kernel)
set_option maxRecDepth 20000 in
theorem gX4_findLatest_X4_leaveBy : GoodIn wsX4_findLatest (wsV RX4 76 RX4 yX4_leaveBy wsX4_leaveBy) := goodIn_app (goodIn_of _ (by decide +kernel)) ggX4_findLatest_X4_leaveBy
theorem dX4_findLatest_0 : decode cX4_findLatest 0 = .ok (.aload_n 0, 1) := by decide +kernel
theorem dX4_findLatest_1 : decode cX4_findLatest 1 = .ok (.invokevirtual 30, 3) := by decide +kernel
theorem dX4_findLatest_4 : decode cX4_findLatest 4 = .ok (.aload_n 0, 1) := by decide +kernel
theorem dX4_findLatest_5 : decode cX4_findLatest 5 = .ok (.getfield 9, 3) := by decide +kernel
theorem dX4_findLatest_8 : decode cX4_findLatest 8 = .ok (.iload_n 1, 1) := by decide +kernel
theorem dX4_findLatest_9 : decode cX4_findLatest 9 = .ok (.iload_n 3, 1) := by decide +kernel
theorem dX4_findLatest_10 : decode cX4_findLatest 10 = .ok (.iastore, 1) := by decide +kernel
theorem dX4_findLatest_11 : decode cX4_findLatest 11 = .ok (.iconst 0, 1) := by decide +kernel
theorem dX4_findLatest_12 : decode cX4_findLatest 12 = .ok (.istore 4, 2) := by decide +kernel
theorem dX4_findLatest_14 : decode cX4_findLatest 14 = .ok (.iload 4, 2) := by decide +kernel
theorem dX4_findLatest_16 : decode cX4_findLatest 16 = .ok (.aload_n 0, 1) := by decide +kernel
theorem dX4_findLatest_17 : decode cX4_findLatest 17 = .ok (.getfield 29, 3) := by decide +kernel
theorem dX4_findLatest_20 : decode cX4_findLatest 20 = .ok (.getfield 33, 3) := by decide +kernel
theorem dX4_findLatest_23 : decode cX4_findLatest 23 = .ok (.if_icmp .ge 60, 3) := by decide +kernel
theorem dX4_findLatest_26 : decode cX4_findLatest 26 = .ok (.aload_n 0, 1) := by decide +kernel
theorem dX4_findLatest_27 : decode cX4_findLatest 27 = .ok (.invokevirtual 73, 3) := by decide +kernel
theorem dX4_findLatest_30 : decode cX4_findLatest 30 = .ok (.istore 5, 2) := by decide +kernel
theorem dX4_findLatest_32 : decode cX4_findLatest 32 = .ok (.iload 5, 2) := by decide +kernel
theorem dX4_findLatest_34 : decode cX4_findLatest 34 = .ok (.iconst (-1), 1) := by decide +kernel
theorem dX4_findLatest_35 : decode cX4_findLatest 35 = .ok (.if_icmp .ne 4, 3) := by decide +kernel
theorem dX4_findLatest_38 : decode cX4_findLatest 38 = .ok (.return_, 1) := by decide +kernel
theorem dX4_findLatest_39 : decode cX4_findLatest 39 = .ok (.aload_n 0, 1) := by decide +kernel
theorem dX4_findLatest_40 : decode cX4_findLatest 40 = .ok (.getfield 15, 3) := by decide +kernel
theorem dX4_findLatest_43 : decode cX4_findLatest 43 = .ok (.iload 5, 2) := by decide +kernel
theorem dX4_findLatest_45 : decode cX4_findLatest 45 = .ok (.iconst 1, 1) := by decide +kernel
theorem dX4_findLatest_46 : decode cX4_findLatest 46 = .ok (.bastore, 1) := by decide +kernel
theorem dX4_findLatest_47 : decode cX4_findLatest 47 = .ok (.iconst 0, 1) := by decide +kernel
theorem dX4_findLatest_48 : decode cX4_findLatest 48 = .ok (.istore 6, 2) := by decide +kernel
theorem dX4_findLatest_50 : decode cX4_findLatest 50 = .ok (.iload 6, 2) := by decide +kernel
theorem dX4_findLatest_52 : decode cX4_findLatest 52 = .ok (.aload_n 0, 1) := by decide +kernel
theorem dX4_findLatest_53 : decode cX4_findLatest 53 = .ok (.getfield 29, 3) := by decide +kernel
theorem dX4_findLatest_56 : decode cX4_findLatest 56 = .ok (.getfield 61, 3) := by decide +kernel
theorem dX4_findLatest_59 : decode cX4_findLatest 59 = .ok (.if_icmp .ge 18, 3) := by decide +kernel
theorem dX4_findLatest_62 : decode cX4_findLatest 62 = .ok (.aload_n 0, 1) := by decide +kernel
theorem dX4_findLatest_63 : decode cX4_findLatest 63 = .ok (.iload 6, 2) := by decide +kernel
theorem dX4_findLatest_65 : decode cX4_findLatest 65 = .ok (.iload 5, 2) := by decide +kernel
theorem dX4_findLatest_67 : decode cX4_findLatest 67 = .ok (.iload_n 2, 1) := by decide +kernel
theorem dX4_findLatest_68 : decode cX4_findLatest 68 = .ok (.invokevirtual 76, 3) := by decide +kernel
theorem dX4_findLatest_71 : decode cX4_findLatest 71 = .ok (.iinc 6 1, 3) := by decide +kernel
theorem dX4_findLatest_74 : decode cX4_findLatest 74 = .ok (.goto (-24), 3) := by decide +kernel
theorem dX4_findLatest_77 : decode cX4_findLatest 77 = .ok (.iinc 4 1, 3) := by decide +kernel
theorem dX4_findLatest_80 : decode cX4_findLatest 80 = .ok (.goto (-66), 3) := by decide +kernel
theorem dX4_findLatest_83 : decode cX4_findLatest 83 = .ok (.return_, 1) := by decide +kernel
theorem dX4_latestUnsettled_0 : decode cX4_latestUnsettled 0 = .ok (.iconst (-1), 1) := by decide +kernel
theorem dX4_latestUnsettled_1 : decode cX4_latestUnsettled 1 = .ok (.istore_n 1, 1) := by decide +kernel
theorem dX4_latestUnsettled_2 : decode cX4_latestUnsettled 2 = .ok (.iconst 0, 1) := by decide +kernel
theorem dX4_latestUnsettled_3 : decode cX4_latestUnsettled 3 = .ok (.istore_n 2, 1) := by decide +kernel
theorem dX4_latestUnsettled_4 : decode cX4_latestUnsettled 4 = .ok (.iload_n 2, 1) := by decide +kernel
theorem dX4_latestUnsettled_5 : decode cX4_latestUnsettled 5 = .ok (.aload_n 0, 1) := by decide +kernel
theorem dX4_latestUnsettled_6 : decode cX4_latestUnsettled 6 = .ok (.getfield 29, 3) := by decide +kernel
theorem dX4_latestUnsettled_9 : decode cX4_latestUnsettled 9 = .ok (.getfield 33, 3) := by decide +kernel
theorem dX4_latestUnsettled_12 : decode cX4_latestUnsettled 12 = .ok (.if_icmp .ge 50, 3) := by decide +kernel
theorem dX4_latestUnsettled_15 : decode cX4_latestUnsettled 15 = .ok (.aload_n 0, 1) := by decide +kernel
theorem dX4_latestUnsettled_16 : decode cX4_latestUnsettled 16 = .ok (.getfield 15, 3) := by decide +kernel
theorem dX4_latestUnsettled_19 : decode cX4_latestUnsettled 19 = .ok (.iload_n 2, 1) := by decide +kernel
theorem dX4_latestUnsettled_20 : decode cX4_latestUnsettled 20 = .ok (.baload, 1) := by decide +kernel
theorem dX4_latestUnsettled_21 : decode cX4_latestUnsettled 21 = .ok (.ifCond .ne 35, 3) := by decide +kernel
theorem dX4_latestUnsettled_24 : decode cX4_latestUnsettled 24 = .ok (.aload_n 0, 1) := by decide +kernel
theorem dX4_latestUnsettled_25 : decode cX4_latestUnsettled 25 = .ok (.getfield 9, 3) := by decide +kernel
theorem dX4_latestUnsettled_28 : decode cX4_latestUnsettled 28 = .ok (.iload_n 2, 1) := by decide +kernel
theorem dX4_latestUnsettled_29 : decode cX4_latestUnsettled 29 = .ok (.iaload, 1) := by decide +kernel
theorem dX4_latestUnsettled_30 : decode cX4_latestUnsettled 30 = .ok (.iconst (-1), 1) := by decide +kernel
theorem dX4_latestUnsettled_31 : decode cX4_latestUnsettled 31 = .ok (.if_icmp .eq 25, 3) := by decide +kernel
theorem dX4_latestUnsettled_34 : decode cX4_latestUnsettled 34 = .ok (.iload_n 1, 1) := by decide +kernel
theorem dX4_latestUnsettled_35 : decode cX4_latestUnsettled 35 = .ok (.iconst (-1), 1) := by decide +kernel
theorem dX4_latestUnsettled_36 : decode cX4_latestUnsettled 36 = .ok (.if_icmp .eq 18, 3) := by decide +kernel
theorem dX4_latestUnsettled_39 : decode cX4_latestUnsettled 39 = .ok (.aload_n 0, 1) := by decide +kernel
theorem dX4_latestUnsettled_40 : decode cX4_latestUnsettled 40 = .ok (.getfield 9, 3) := by decide +kernel
theorem dX4_latestUnsettled_43 : decode cX4_latestUnsettled 43 = .ok (.iload_n 2, 1) := by decide +kernel
theorem dX4_latestUnsettled_44 : decode cX4_latestUnsettled 44 = .ok (.iaload, 1) := by decide +kernel
theorem dX4_latestUnsettled_45 : decode cX4_latestUnsettled 45 = .ok (.aload_n 0, 1) := by decide +kernel
theorem dX4_latestUnsettled_46 : decode cX4_latestUnsettled 46 = .ok (.getfield 9, 3) := by decide +kernel
theorem dX4_latestUnsettled_49 : decode cX4_latestUnsettled 49 = .ok (.iload_n 1, 1) := by decide +kernel
theorem dX4_latestUnsettled_50 : decode cX4_latestUnsettled 50 = .ok (.iaload, 1) := by decide +kernel
theorem dX4_latestUnsettled_51 : decode cX4_latestUnsettled 51 = .ok (.if_icmp .le 5, 3) := by decide +kernel
theorem dX4_latestUnsettled_54 : decode cX4_latestUnsettled 54 = .ok (.iload_n 2, 1) := by decide +kernel
theorem dX4_latestUnsettled_55 : decode cX4_latestUnsettled 55 = .ok (.istore_n 1, 1) := by decide +kernel
theorem dX4_latestUnsettled_56 : decode cX4_latestUnsettled 56 = .ok (.iinc 2 1, 3) := by decide +kernel
theorem dX4_latestUnsettled_59 : decode cX4_latestUnsettled 59 = .ok (.goto (-55), 3) := by decide +kernel
theorem dX4_latestUnsettled_62 : decode cX4_latestUnsettled 62 = .ok (.iload_n 1, 1) := by decide +kernel
theorem dX4_latestUnsettled_63 : decode cX4_latestUnsettled 63 = .ok (.ireturn, 1) := by decide +kernel
set_option maxRecDepth 20000 in
theorem ggX4_leaveBy_X7_sideOf : GoodIn wsX4_leaveBy wsX7_sideOf := goodIn_r _ [12, 13, 41, 42, 43, 44, 45, 46, 47, 48, 49, 50, 51, 52] (by decide +kernel) (by decide +kernel)
set_option maxRecDepth 20000 in
theorem gX4_leaveBy_X7_sideOf : GoodIn wsX4_leaveBy (wsV RX4 47 RX7 yX7_sideOf wsX7_sideOf) := goodIn_app (goodIn_of _ (by decide +kernel)) ggX4_leaveBy_X7_sideOf
set_option maxRecDepth 20000 in
theorem ggX4_leaveBy_X7_cornerAcross : GoodIn wsX4_leaveBy wsX7_cornerAcross := goodIn_r _ [17, 13, 41, 42, 43, 44, 45, 46, 47, 48, 49, 50, 51, 52] (by decide +kernel) (by decide +kernel)
set_option maxRecDepth 20000 in
theorem gX4_leaveBy_X7_cornerAcross : GoodIn wsX4_leaveBy (wsV RX4 51 RX7 yX7_cornerAcross wsX7_cornerAcross) := goodIn_app (goodIn_of _ (by decide +kernel)) ggX4_leaveBy_X7_cornerAcross
set_option maxRecDepth 20000 in
theorem ggX4_leaveBy_X7_lastOpen : GoodIn wsX4_leaveBy wsX7_lastOpen := goodIn_r _ [21, 22, 23, 24, 11, 25, 26, 27, 28, 29, 30, 31, 32, 33, 34, 35, 36, 41, 42, 43, 44, 45, 46, 47, 48, 49, 50, 51, 52] (by decide +kernel) (by decide +kernel)
set_option maxRecDepth 20000 in
theorem gX4_leaveBy_X7_lastOpen : GoodIn wsX4_leaveBy (wsV RX4 79 RX7 yX7_lastOpen wsX7_lastOpen) := goodIn_app (goodIn_of _ (by decide +kernel)) ggX4_leaveBy_X7_lastOpen
theorem dX4_leaveBy_0 : decode cX4_leaveBy 0 = .ok (.aload_n 0, 1) := by decide +kernel
theorem dX4_leaveBy_1 : decode cX4_leaveBy 1 = .ok (.getfield 29, 3) := by decide +kernel
theorem dX4_leaveBy_4 : decode cX4_leaveBy 4 = .ok (.iload_n 1, 1) := by decide +kernel
theorem dX4_leaveBy_5 : decode cX4_leaveBy 5 = .ok (.iload_n 2, 1) := by decide +kernel
theorem dX4_leaveBy_6 : decode cX4_leaveBy 6 = .ok (.invokevirtual 47, 3) := by decide +kernel
theorem dX4_leaveBy_9 : decode cX4_leaveBy 9 = .ok (.istore 4, 2) := by decide +kernel
theorem dX4_leaveBy_11 : decode cX4_leaveBy 11 = .ok (.iload 4, 2) := by decide +kernel
theorem dX4_leaveBy_13 : decode cX4_leaveBy 13 = .ok (.iconst (-1), 1) := by decide +kernel
theorem dX4_leaveBy_14 : decode cX4_leaveBy 14 = .ok (.if_icmp .ne 4, 3) := by decide +kernel
theorem dX4_leaveBy_17 : decode cX4_leaveBy 17 = .ok (.return_, 1) := by decide +kernel
theorem dX4_leaveBy_18 : decode cX4_leaveBy 18 = .ok (.aload_n 0, 1) := by decide +kernel
theorem dX4_leaveBy_19 : decode cX4_leaveBy 19 = .ok (.getfield 29, 3) := by decide +kernel
theorem dX4_leaveBy_22 : decode cX4_leaveBy 22 = .ok (.iload_n 1, 1) := by decide +kernel
theorem dX4_leaveBy_23 : decode cX4_leaveBy 23 = .ok (.iload 4, 2) := by decide +kernel
theorem dX4_leaveBy_25 : decode cX4_leaveBy 25 = .ok (.invokevirtual 51, 3) := by decide +kernel
theorem dX4_leaveBy_28 : decode cX4_leaveBy 28 = .ok (.istore 5, 2) := by decide +kernel
theorem dX4_leaveBy_30 : decode cX4_leaveBy 30 = .ok (.aload_n 0, 1) := by decide +kernel
theorem dX4_leaveBy_31 : decode cX4_leaveBy 31 = .ok (.getfield 9, 3) := by decide +kernel
theorem dX4_leaveBy_34 : decode cX4_leaveBy 34 = .ok (.iload_n 2, 1) := by decide +kernel
theorem dX4_leaveBy_35 : decode cX4_leaveBy 35 = .ok (.iaload, 1) := by decide +kernel
theorem dX4_leaveBy_36 : decode cX4_leaveBy 36 = .ok (.aload_n 0, 1) := by decide +kernel
theorem dX4_leaveBy_37 : decode cX4_leaveBy 37 = .ok (.getfield 29, 3) := by decide +kernel
theorem dX4_leaveBy_40 : decode cX4_leaveBy 40 = .ok (.getfield 54, 3) := by decide +kernel
theorem dX4_leaveBy_43 : decode cX4_leaveBy 43 = .ok (.iload_n 1, 1) := by decide +kernel
theorem dX4_leaveBy_44 : decode cX4_leaveBy 44 = .ok (.iaload, 1) := by decide +kernel
theorem dX4_leaveBy_45 : decode cX4_leaveBy 45 = .ok (.isub, 1) := by decide +kernel
theorem dX4_leaveBy_46 : decode cX4_leaveBy 46 = .ok (.istore 6, 2) := by decide +kernel
theorem dX4_leaveBy_48 : decode cX4_leaveBy 48 = .ok (.aload_n 0, 1) := by decide +kernel
theorem dX4_leaveBy_49 : decode cX4_leaveBy 49 = .ok (.getfield 9, 3) := by decide +kernel
theorem dX4_leaveBy_52 : decode cX4_leaveBy 52 = .ok (.iload 5, 2) := by decide +kernel
theorem dX4_leaveBy_54 : decode cX4_leaveBy 54 = .ok (.aload_n 0, 1) := by decide +kernel
theorem dX4_leaveBy_55 : decode cX4_leaveBy 55 = .ok (.getfield 9, 3) := by decide +kernel
theorem dX4_leaveBy_58 : decode cX4_leaveBy 58 = .ok (.iload 5, 2) := by decide +kernel
theorem dX4_leaveBy_60 : decode cX4_leaveBy 60 = .ok (.iaload, 1) := by decide +kernel
theorem dX4_leaveBy_61 : decode cX4_leaveBy 61 = .ok (.aload_n 0, 1) := by decide +kernel
theorem dX4_leaveBy_62 : decode cX4_leaveBy 62 = .ok (.getfield 29, 3) := by decide +kernel
theorem dX4_leaveBy_65 : decode cX4_leaveBy 65 = .ok (.iload_n 1, 1) := by decide +kernel
theorem dX4_leaveBy_66 : decode cX4_leaveBy 66 = .ok (.iconst 1, 1) := by decide +kernel
theorem dX4_leaveBy_67 : decode cX4_leaveBy 67 = .ok (.iload 4, 2) := by decide +kernel
theorem dX4_leaveBy_69 : decode cX4_leaveBy 69 = .ok (.isub, 1) := by decide +kernel
theorem dX4_leaveBy_70 : decode cX4_leaveBy 70 = .ok (.iload_n 3, 1) := by decide +kernel
theorem dX4_leaveBy_71 : decode cX4_leaveBy 71 = .ok (.iload 6, 2) := by decide +kernel
theorem dX4_leaveBy_73 : decode cX4_leaveBy 73 = .ok (.invokevirtual 79, 3) := by decide +kernel
theorem dX4_leaveBy_76 : decode cX4_leaveBy 76 = .ok (.invokestatic 82, 3) := by decide +kernel
theorem dX4_leaveBy_79 : decode cX4_leaveBy 79 = .ok (.iastore, 1) := by decide +kernel
theorem dX4_leaveBy_80 : decode cX4_leaveBy 80 = .ok (.return_, 1) := by decide +kernel
set_option maxRecDepth 20000 in
theorem ggX4_leastStreet_X7_sideOf : GoodIn wsX4_leastStreet wsX7_sideOf := goodIn_r _ [9, 10, 38, 39, 40, 41, 42, 43, 44, 45, 46, 47, 48, 49] (by decide +kernel) (by decide +kernel)
set_option maxRecDepth 20000 in
theorem gX4_leastStreet_X7_sideOf : GoodIn wsX4_leastStreet (wsV RX4 47 RX7 yX7_sideOf wsX7_sideOf) := goodIn_app (goodIn_of _ (by decide +kernel)) ggX4_leastStreet_X7_sideOf
set_option maxRecDepth 20000 in
theorem ggX4_leastStreet_X7_cornerAcross : GoodIn wsX4_leastStreet wsX7_cornerAcross := goodIn_r _ [14, 10, 38, 39, 40, 41, 42, 43, 44, 45, 46, 47, 48, 49] (by decide +kernel) (by decide +kernel)
set_option maxRecDepth 20000 in
theorem gX4_leastStreet_X7_cornerAcross : GoodIn wsX4_leastStreet (wsV RX4 51 RX7 yX7_cornerAcross wsX7_cornerAcross) := goodIn_app (goodIn_of _ (by decide +kernel)) ggX4_leastStreet_X7_cornerAcross
set_option maxRecDepth 20000 in
theorem ggX4_leastStreet_X7_firstOpen : GoodIn wsX4_leastStreet wsX7_firstOpen := goodIn_r _ [18, 19, 20, 21, 8, 22, 23, 24, 25, 26, 27, 28, 29, 30, 31, 32, 33, 38, 39, 40, 41, 42, 43, 44, 45, 46, 47, 48, 49] (by decide +kernel) (by decide +kernel)
set_option maxRecDepth 20000 in
theorem gX4_leastStreet_X7_firstOpen : GoodIn wsX4_leastStreet (wsV RX4 57 RX7 yX7_firstOpen wsX7_firstOpen) := goodIn_app (goodIn_of _ (by decide +kernel)) ggX4_leastStreet_X7_firstOpen
theorem dX4_leastStreet_0 : decode cX4_leastStreet 0 = .ok (.iconst 0, 1) := by decide +kernel
theorem dX4_leastStreet_1 : decode cX4_leastStreet 1 = .ok (.istore_n 3, 1) := by decide +kernel
theorem dX4_leastStreet_2 : decode cX4_leastStreet 2 = .ok (.iload_n 3, 1) := by decide +kernel
theorem dX4_leastStreet_3 : decode cX4_leastStreet 3 = .ok (.aload_n 0, 1) := by decide +kernel
theorem dX4_leastStreet_4 : decode cX4_leastStreet 4 = .ok (.getfield 29, 3) := by decide +kernel
theorem dX4_leastStreet_7 : decode cX4_leastStreet 7 = .ok (.getfield 61, 3) := by decide +kernel
theorem dX4_leastStreet_10 : decode cX4_leastStreet 10 = .ok (.if_icmp .ge 78, 3) := by decide +kernel
theorem dX4_leastStreet_13 : decode cX4_leastStreet 13 = .ok (.aload_n 0, 1) := by decide +kernel
theorem dX4_leastStreet_14 : decode cX4_leastStreet 14 = .ok (.getfield 29, 3) := by decide +kernel
theorem dX4_leastStreet_17 : decode cX4_leastStreet 17 = .ok (.iload_n 3, 1) := by decide +kernel
theorem dX4_leastStreet_18 : decode cX4_leastStreet 18 = .ok (.iload_n 1, 1) := by decide +kernel
theorem dX4_leastStreet_19 : decode cX4_leastStreet 19 = .ok (.invokevirtual 47, 3) := by decide +kernel
theorem dX4_leastStreet_22 : decode cX4_leastStreet 22 = .ok (.istore 4, 2) := by decide +kernel
theorem dX4_leastStreet_24 : decode cX4_leastStreet 24 = .ok (.iload 4, 2) := by decide +kernel
theorem dX4_leastStreet_26 : decode cX4_leastStreet 26 = .ok (.iconst (-1), 1) := by decide +kernel
theorem dX4_leastStreet_27 : decode cX4_leastStreet 27 = .ok (.if_icmp .eq 55, 3) := by decide +kernel
theorem dX4_leastStreet_30 : decode cX4_leastStreet 30 = .ok (.aload_n 0, 1) := by decide +kernel
theorem dX4_leastStreet_31 : decode cX4_leastStreet 31 = .ok (.getfield 9, 3) := by decide +kernel
theorem dX4_leastStreet_34 : decode cX4_leastStreet 34 = .ok (.aload_n 0, 1) := by decide +kernel
theorem dX4_leastStreet_35 : decode cX4_leastStreet 35 = .ok (.getfield 29, 3) := by decide +kernel
theorem dX4_leastStreet_38 : decode cX4_leastStreet 38 = .ok (.iload_n 3, 1) := by decide +kernel
theorem dX4_leastStreet_39 : decode cX4_leastStreet 39 = .ok (.iload 4, 2) := by decide +kernel
theorem dX4_leastStreet_41 : decode cX4_leastStreet 41 = .ok (.invokevirtual 51, 3) := by decide +kernel
theorem dX4_leastStreet_44 : decode cX4_leastStreet 44 = .ok (.iaload, 1) := by decide +kernel
theorem dX4_leastStreet_45 : decode cX4_leastStreet 45 = .ok (.aload_n 0, 1) := by decide +kernel
theorem dX4_leastStreet_46 : decode cX4_leastStreet 46 = .ok (.getfield 29, 3) := by decide +kernel
theorem dX4_leastStreet_49 : decode cX4_leastStreet 49 = .ok (.getfield 54, 3) := by decide +kernel
theorem dX4_leastStreet_52 : decode cX4_leastStreet 52 = .ok (.iload_n 3, 1) := by decide +kernel
theorem dX4_leastStreet_53 : decode cX4_leastStreet 53 = .ok (.iaload, 1) := by decide +kernel
theorem dX4_leastStreet_54 : decode cX4_leastStreet 54 = .ok (.isub, 1) := by decide +kernel
theorem dX4_leastStreet_55 : decode cX4_leastStreet 55 = .ok (.istore 5, 2) := by decide +kernel
theorem dX4_leastStreet_57 : decode cX4_leastStreet 57 = .ok (.iload 5, 2) := by decide +kernel
theorem dX4_leastStreet_59 : decode cX4_leastStreet 59 = .ok (.iload_n 2, 1) := by decide +kernel
theorem dX4_leastStreet_60 : decode cX4_leastStreet 60 = .ok (.if_icmp .lt 22, 3) := by decide +kernel
theorem dX4_leastStreet_63 : decode cX4_leastStreet 63 = .ok (.aload_n 0, 1) := by decide +kernel
theorem dX4_leastStreet_64 : decode cX4_leastStreet 64 = .ok (.getfield 29, 3) := by decide +kernel
theorem dX4_leastStreet_67 : decode cX4_leastStreet 67 = .ok (.iload_n 3, 1) := by decide +kernel
theorem dX4_leastStreet_68 : decode cX4_leastStreet 68 = .ok (.iload 4, 2) := by decide +kernel
theorem dX4_leastStreet_70 : decode cX4_leastStreet 70 = .ok (.iload_n 2, 1) := by decide +kernel
theorem dX4_leastStreet_71 : decode cX4_leastStreet 71 = .ok (.iload 5, 2) := by decide +kernel
theorem dX4_leastStreet_73 : decode cX4_leastStreet 73 = .ok (.invokevirtual 57, 3) := by decide +kernel
theorem dX4_leastStreet_76 : decode cX4_leastStreet 76 = .ok (.iconst (-1), 1) := by decide +kernel
theorem dX4_leastStreet_77 : decode cX4_leastStreet 77 = .ok (.if_icmp .eq 5, 3) := by decide +kernel
theorem dX4_leastStreet_80 : decode cX4_leastStreet 80 = .ok (.iload_n 3, 1) := by decide +kernel
theorem dX4_leastStreet_81 : decode cX4_leastStreet 81 = .ok (.ireturn, 1) := by decide +kernel
theorem dX4_leastStreet_82 : decode cX4_leastStreet 82 = .ok (.iinc 3 1, 3) := by decide +kernel
theorem dX4_leastStreet_85 : decode cX4_leastStreet 85 = .ok (.goto (-83), 3) := by decide +kernel
theorem dX4_leastStreet_88 : decode cX4_leastStreet 88 = .ok (.iconst (-1), 1) := by decide +kernel
theorem dX4_leastStreet_89 : decode cX4_leastStreet 89 = .ok (.ireturn, 1) := by decide +kernel
set_option maxRecDepth 20000 in
theorem ggX4_tellBest_X7_tryStreet : GoodIn wsX4_tellBest wsX7_tryStreet := goodIn_r _ [7, 8, 9, 10, 11, 6, 12, 13, 14, 15, 16, 17, 18, 19, 20, 21, 22, 23, 24, 25, 26, 27, 28, 29, 30, 31, 32, 87, 88, 89, 90, 91, 92, 93, 94, 95, 96, 97, 98] (by decide +kernel) (by decide +kernel)
set_option maxRecDepth 20000 in
theorem gX4_tellBest_X7_tryStreet : GoodIn wsX4_tellBest (wsV RX4 87 RX7 yX7_tryStreet wsX7_tryStreet) := goodIn_app (goodIn_of _ (by decide +kernel)) ggX4_tellBest_X7_tryStreet
set_option maxRecDepth 20000 in
theorem ggX4_tellBest_X4_sumOfErrands : GoodIn wsX4_tellBest wsX4_sumOfErrands := goodIn_r _ [37, 38, 39, 1, 40, 41, 42, 43, 44, 45, 36, 46, 47, 2, 48, 49, 50, 51, 52, 53, 54, 55, 56, 57, 58, 59, 60, 61, 62, 30, 31, 6, 32, 13, 63, 64, 65, 66, 67, 68, 69, 70, 71, 72, 73, 74, 16, 15, 75, 76, 77, 78, 79, 80, 26, 81, 82, 83, 84, 85, 86, 99, 100, 101, 102, 103, 104, 105, 106, 107, 108, 109, 110, 111, 112, 87, 88, 89, 90, 91, 92, 93, 94, 95, 96, 97, 98] (by decide +kernel) (by decide +kernel)
set_option maxRecDepth 20000 in
theorem gX4_tellBest_X4_sumOfErrands : GoodIn wsX4_tellBest (wsV RX4 90 RX4 yX4_sumOfErrands wsX4_sumOfErrands) := goodIn_app (goodIn_of _ (by decide +kernel)) ggX4_tellBest_X4_sumOfErrands
theorem dX4_tellBest_0 : decode cX4_tellBest 0 = .ok (.iconst 0, 1) := by decide +kernel
theorem dX4_tellBest_1 : decode cX4_tellBest 1 = .ok (.istore 4, 2) := by decide +kernel
theorem dX4_tellBest_3 : decode cX4_tellBest 3 = .ok (.iconst 1, 1) := by decide +kernel
theorem dX4_tellBest_4 : decode cX4_tellBest 4 = .ok (.istore 5, 2) := by decide +kernel
theorem dX4_tellBest_6 : decode cX4_tellBest 6 = .ok (.sipush 14007, 3) := by decide +kernel
theorem dX4_tellBest_9 : decode cX4_tellBest 9 = .ok (.istore 6, 2) := by decide +kernel
theorem dX4_tellBest_11 : decode cX4_tellBest 11 = .ok (.iconst 0, 1) := by decide +kernel
theorem dX4_tellBest_12 : decode cX4_tellBest 12 = .ok (.istore 7, 2) := by decide +kernel
theorem dX4_tellBest_14 : decode cX4_tellBest 14 = .ok (.iload 7, 2) := by decide +kernel
theorem dX4_tellBest_16 : decode cX4_tellBest 16 = .ok (.aload_n 0, 1) := by decide +kernel
theorem dX4_tellBest_17 : decode cX4_tellBest 17 = .ok (.getfield 29, 3) := by decide +kernel
theorem dX4_tellBest_20 : decode cX4_tellBest 20 = .ok (.getfield 33, 3) := by decide +kernel
theorem dX4_tellBest_23 : decode cX4_tellBest 23 = .ok (.if_icmp .ge 73, 3) := by decide +kernel
theorem dX4_tellBest_26 : decode cX4_tellBest 26 = .ok (.iload 7, 2) := by decide +kernel
theorem dX4_tellBest_28 : decode cX4_tellBest 28 = .ok (.iconst 1, 1) := by decide +kernel
theorem dX4_tellBest_29 : decode cX4_tellBest 29 = .ok (.iadd, 1) := by decide +kernel
theorem dX4_tellBest_30 : decode cX4_tellBest 30 = .ok (.istore 8, 2) := by decide +kernel
theorem dX4_tellBest_32 : decode cX4_tellBest 32 = .ok (.iload 8, 2) := by decide +kernel
theorem dX4_tellBest_34 : decode cX4_tellBest 34 = .ok (.aload_n 0, 1) := by decide +kernel
theorem dX4_tellBest_35 : decode cX4_tellBest 35 = .ok (.getfield 29, 3) := by decide +kernel
theorem dX4_tellBest_38 : decode cX4_tellBest 38 = .ok (.getfield 33, 3) := by decide +kernel
theorem dX4_tellBest_41 : decode cX4_tellBest 41 = .ok (.if_icmp .ge 49, 3) := by decide +kernel
theorem dX4_tellBest_44 : decode cX4_tellBest 44 = .ok (.aload_n 0, 1) := by decide +kernel
theorem dX4_tellBest_45 : decode cX4_tellBest 45 = .ok (.getfield 29, 3) := by decide +kernel
theorem dX4_tellBest_48 : decode cX4_tellBest 48 = .ok (.iload 7, 2) := by decide +kernel
theorem dX4_tellBest_50 : decode cX4_tellBest 50 = .ok (.iload 8, 2) := by decide +kernel
theorem dX4_tellBest_52 : decode cX4_tellBest 52 = .ok (.iload_n 1, 1) := by decide +kernel
theorem dX4_tellBest_53 : decode cX4_tellBest 53 = .ok (.invokevirtual 87, 3) := by decide +kernel
theorem dX4_tellBest_56 : decode cX4_tellBest 56 = .ok (.aload_n 0, 1) := by decide +kernel
theorem dX4_tellBest_57 : decode cX4_tellBest 57 = .ok (.iload_n 2, 1) := by decide +kernel
theorem dX4_tellBest_58 : decode cX4_tellBest 58 = .ok (.iload 6, 2) := by decide +kernel
theorem dX4_tellBest_60 : decode cX4_tellBest 60 = .ok (.invokevirtual 90, 3) := by decide +kernel
theorem dX4_tellBest_63 : decode cX4_tellBest 63 = .ok (.istore 9, 2) := by decide +kernel
theorem dX4_tellBest_65 : decode cX4_tellBest 65 = .ok (.iload 9, 2) := by decide +kernel
theorem dX4_tellBest_67 : decode cX4_tellBest 67 = .ok (.iload 6, 2) := by decide +kernel
theorem dX4_tellBest_69 : decode cX4_tellBest 69 = .ok (.if_icmp .ge 15, 3) := by decide +kernel
theorem dX4_tellBest_72 : decode cX4_tellBest 72 = .ok (.iload 9, 2) := by decide +kernel
theorem dX4_tellBest_74 : decode cX4_tellBest 74 = .ok (.istore 6, 2) := by decide +kernel
theorem dX4_tellBest_76 : decode cX4_tellBest 76 = .ok (.iload 7, 2) := by decide +kernel
theorem dX4_tellBest_78 : decode cX4_tellBest 78 = .ok (.istore 4, 2) := by decide +kernel
theorem dX4_tellBest_80 : decode cX4_tellBest 80 = .ok (.iload 8, 2) := by decide +kernel
theorem dX4_tellBest_82 : decode cX4_tellBest 82 = .ok (.istore 5, 2) := by decide +kernel
theorem dX4_tellBest_84 : decode cX4_tellBest 84 = .ok (.iinc 8 1, 3) := by decide +kernel
theorem dX4_tellBest_87 : decode cX4_tellBest 87 = .ok (.goto (-55), 3) := by decide +kernel
theorem dX4_tellBest_90 : decode cX4_tellBest 90 = .ok (.iinc 7 1, 3) := by decide +kernel
theorem dX4_tellBest_93 : decode cX4_tellBest 93 = .ok (.goto (-79), 3) := by decide +kernel
theorem dX4_tellBest_96 : decode cX4_tellBest 96 = .ok (.iload_n 3, 1) := by decide +kernel
theorem dX4_tellBest_97 : decode cX4_tellBest 97 = .ok (.iconst 2, 1) := by decide +kernel
theorem dX4_tellBest_98 : decode cX4_tellBest 98 = .ok (.if_icmp .ne 6, 3) := by decide +kernel
theorem dX4_tellBest_101 : decode cX4_tellBest 101 = .ok (.iload 6, 2) := by decide +kernel
theorem dX4_tellBest_103 : decode cX4_tellBest 103 = .ok (.ireturn, 1) := by decide +kernel
theorem dX4_tellBest_104 : decode cX4_tellBest 104 = .ok (.iload_n 3, 1) := by decide +kernel
theorem dX4_tellBest_105 : decode cX4_tellBest 105 = .ok (.ifCond .ne 8, 3) := by decide +kernel
theorem dX4_tellBest_108 : decode cX4_tellBest 108 = .ok (.iload 4, 2) := by decide +kernel
theorem dX4_tellBest_110 : decode cX4_tellBest 110 = .ok (.goto 5, 3) := by decide +kernel
theorem dX4_tellBest_113 : decode cX4_tellBest 113 = .ok (.iload 5, 2) := by decide +kernel
theorem dX4_tellBest_115 : decode cX4_tellBest 115 = .ok (.ireturn, 1) := by decide +kernel
set_option maxRecDepth 20000 in
theorem ggX4_sumOfErrands_X4_firstArrival : GoodIn wsX4_sumOfErrands wsX4_firstArrival := goodIn_r _ [11, 12, 3, 13, 14, 15, 16, 17, 10, 18, 19, 20, 21, 22, 23, 24, 25, 26, 27, 28, 29, 30, 31, 32, 33, 34, 35, 36, 37, 38, 39, 40, 41, 42, 43, 44, 45, 46, 47, 48, 49, 50, 51, 52, 53, 54, 55, 56, 57, 58, 59, 60, 75, 76, 77, 78, 79, 80, 81, 82, 83, 84, 85, 86] (by decide +kernel) (by decide +kernel)
set_option maxRecDepth 20000 in
theorem gX4_sumOfErrands_X4_firstArrival : GoodIn wsX4_sumOfErrands (wsV RX4 64 RX4 yX4_firstArrival wsX4_firstArrival) := goodIn_app (goodIn_of _ (by decide +kernel)) ggX4_sumOfErrands_X4_firstArrival
theorem dX4_sumOfErrands_0 : decode cX4_sumOfErrands 0 = .ok (.iconst 0, 1) := by decide +kernel
theorem dX4_sumOfErrands_1 : decode cX4_sumOfErrands 1 = .ok (.istore_n 3, 1) := by decide +kernel
theorem dX4_sumOfErrands_2 : decode cX4_sumOfErrands 2 = .ok (.iconst 0, 1) := by decide +kernel
theorem dX4_sumOfErrands_3 : decode cX4_sumOfErrands 3 = .ok (.istore 4, 2) := by decide +kernel
theorem dX4_sumOfErrands_5 : decode cX4_sumOfErrands 5 = .ok (.iload 4, 2) := by decide +kernel
theorem dX4_sumOfErrands_7 : decode cX4_sumOfErrands 7 = .ok (.aload_n 0, 1) := by decide +kernel
theorem dX4_sumOfErrands_8 : decode cX4_sumOfErrands 8 = .ok (.getfield 19, 3) := by decide +kernel
theorem dX4_sumOfErrands_11 : decode cX4_sumOfErrands 11 = .ok (.getfield 93, 3) := by decide +kernel
theorem dX4_sumOfErrands_14 : decode cX4_sumOfErrands 14 = .ok (.if_icmp .ge 69, 3) := by decide +kernel
theorem dX4_sumOfErrands_17 : decode cX4_sumOfErrands 17 = .ok (.iload_n 3, 1) := by decide +kernel
theorem dX4_sumOfErrands_18 : decode cX4_sumOfErrands 18 = .ok (.iload_n 2, 1) := by decide +kernel
theorem dX4_sumOfErrands_19 : decode cX4_sumOfErrands 19 = .ok (.if_icmp .ge 64, 3) := by decide +kernel
theorem dX4_sumOfErrands_22 : decode cX4_sumOfErrands 22 = .ok (.aload_n 0, 1) := by decide +kernel
theorem dX4_sumOfErrands_23 : decode cX4_sumOfErrands 23 = .ok (.aload_n 0, 1) := by decide +kernel
theorem dX4_sumOfErrands_24 : decode cX4_sumOfErrands 24 = .ok (.getfield 29, 3) := by decide +kernel
theorem dX4_sumOfErrands_27 : decode cX4_sumOfErrands 27 = .ok (.getfield 61, 3) := by decide +kernel
theorem dX4_sumOfErrands_30 : decode cX4_sumOfErrands 30 = .ok (.iconst 1, 1) := by decide +kernel
theorem dX4_sumOfErrands_31 : decode cX4_sumOfErrands 31 = .ok (.iadd, 1) := by decide +kernel
theorem dX4_sumOfErrands_32 : decode cX4_sumOfErrands 32 = .ok (.aload_n 0, 1) := by decide +kernel
theorem dX4_sumOfErrands_33 : decode cX4_sumOfErrands 33 = .ok (.getfield 19, 3) := by decide +kernel
theorem dX4_sumOfErrands_36 : decode cX4_sumOfErrands 36 = .ok (.getfield 96, 3) := by decide +kernel
theorem dX4_sumOfErrands_39 : decode cX4_sumOfErrands 39 = .ok (.iload 4, 2) := by decide +kernel
theorem dX4_sumOfErrands_41 : decode cX4_sumOfErrands 41 = .ok (.iaload, 1) := by decide +kernel
theorem dX4_sumOfErrands_42 : decode cX4_sumOfErrands 42 = .ok (.aload_n 0, 1) := by decide +kernel
theorem dX4_sumOfErrands_43 : decode cX4_sumOfErrands 43 = .ok (.getfield 19, 3) := by decide +kernel
theorem dX4_sumOfErrands_46 : decode cX4_sumOfErrands 46 = .ok (.getfield 99, 3) := by decide +kernel
theorem dX4_sumOfErrands_49 : decode cX4_sumOfErrands 49 = .ok (.iload 4, 2) := by decide +kernel
theorem dX4_sumOfErrands_51 : decode cX4_sumOfErrands 51 = .ok (.iaload, 1) := by decide +kernel
theorem dX4_sumOfErrands_52 : decode cX4_sumOfErrands 52 = .ok (.iload_n 1, 1) := by decide +kernel
theorem dX4_sumOfErrands_53 : decode cX4_sumOfErrands 53 = .ok (.invokevirtual 64, 3) := by decide +kernel
theorem dX4_sumOfErrands_56 : decode cX4_sumOfErrands 56 = .ok (.istore 5, 2) := by decide +kernel
theorem dX4_sumOfErrands_58 : decode cX4_sumOfErrands 58 = .ok (.iload_n 3, 1) := by decide +kernel
theorem dX4_sumOfErrands_59 : decode cX4_sumOfErrands 59 = .ok (.iload 5, 2) := by decide +kernel
theorem dX4_sumOfErrands_61 : decode cX4_sumOfErrands 61 = .ok (.iconst (-1), 1) := by decide +kernel
theorem dX4_sumOfErrands_62 : decode cX4_sumOfErrands 62 = .ok (.if_icmp .ne 9, 3) := by decide +kernel
theorem dX4_sumOfErrands_65 : decode cX4_sumOfErrands 65 = .ok (.sipush 2001, 3) := by decide +kernel
theorem dX4_sumOfErrands_68 : decode cX4_sumOfErrands 68 = .ok (.goto 7, 3) := by decide +kernel
theorem dX4_sumOfErrands_71 : decode cX4_sumOfErrands 71 = .ok (.iload 5, 2) := by decide +kernel
theorem dX4_sumOfErrands_73 : decode cX4_sumOfErrands 73 = .ok (.iload_n 1, 1) := by decide +kernel
theorem dX4_sumOfErrands_74 : decode cX4_sumOfErrands 74 = .ok (.isub, 1) := by decide +kernel
theorem dX4_sumOfErrands_75 : decode cX4_sumOfErrands 75 = .ok (.iadd, 1) := by decide +kernel
theorem dX4_sumOfErrands_76 : decode cX4_sumOfErrands 76 = .ok (.istore_n 3, 1) := by decide +kernel
theorem dX4_sumOfErrands_77 : decode cX4_sumOfErrands 77 = .ok (.iinc 4 1, 3) := by decide +kernel
theorem dX4_sumOfErrands_80 : decode cX4_sumOfErrands 80 = .ok (.goto (-75), 3) := by decide +kernel
theorem dX4_sumOfErrands_83 : decode cX4_sumOfErrands 83 = .ok (.iload_n 3, 1) := by decide +kernel
theorem dX4_sumOfErrands_84 : decode cX4_sumOfErrands 84 = .ok (.ireturn, 1) := by decide +kernel
set_option maxRecDepth 20000 in
theorem ggX5_init_X7_init : GoodIn wsX5_init wsX7_init := goodIn_r _ [21, 22, 2, 3, 8, 23, 24, 25, 26, 27, 28, 29, 30, 35, 36, 37, 38, 39, 40, 41, 42, 43, 44, 45, 46] (by decide +kernel) (by decide +kernel)
set_option maxRecDepth 20000 in
theorem gX5_init_X7_init : GoodIn wsX5_init (wsX7_init) := ggX5_init_X7_init
set_option maxRecDepth 20000 in
theorem ggX5_init_X9_init : GoodIn wsX5_init wsX9_init := goodIn_r _ [33, 34, 2, 3] (by decide +kernel) (by decide +kernel)
set_option maxRecDepth 20000 in
theorem gX5_init_X9_init : GoodIn wsX5_init (wsX9_init) := ggX5_init_X9_init
theorem dX5_init_0 : decode cX5_init 0 = .ok (.aload_n 0, 1) := by decide +kernel
theorem dX5_init_1 : decode cX5_init 1 = .ok (.invokespecial 3, 3) := by decide +kernel
theorem dX5_init_4 : decode cX5_init 4 = .ok (.aload_n 0, 1) := by decide +kernel
theorem dX5_init_5 : decode cX5_init 5 = .ok (.new 9, 3) := by decide +kernel
theorem dX5_init_8 : decode cX5_init 8 = .ok (.dup, 1) := by decide +kernel
theorem dX5_init_9 : decode cX5_init 9 = .ok (.invokespecial 11, 3) := by decide +kernel
theorem dX5_init_12 : decode cX5_init 12 = .ok (.putfield 12, 3) := by decide +kernel
theorem dX5_init_15 : decode cX5_init 15 = .ok (.aload_n 0, 1) := by decide +kernel
theorem dX5_init_16 : decode cX5_init 16 = .ok (.bipush 48, 2) := by decide +kernel
theorem dX5_init_18 : decode cX5_init 18 = .ok (.newarray .int, 2) := by decide +kernel
theorem dX5_init_20 : decode cX5_init 20 = .ok (.putfield 18, 3) := by decide +kernel
theorem dX5_init_23 : decode cX5_init 23 = .ok (.aload_n 0, 1) := by decide +kernel
theorem dX5_init_24 : decode cX5_init 24 = .ok (.iconst 4, 1) := by decide +kernel
theorem dX5_init_25 : decode cX5_init 25 = .ok (.anewarray 22, 3) := by decide +kernel
theorem dX5_init_28 : decode cX5_init 28 = .ok (.putfield 24, 3) := by decide +kernel
theorem dX5_init_31 : decode cX5_init 31 = .ok (.aload_n 0, 1) := by decide +kernel
theorem dX5_init_32 : decode cX5_init 32 = .ok (.bipush 6, 2) := by decide +kernel
theorem dX5_init_34 : decode cX5_init 34 = .ok (.newarray .int, 2) := by decide +kernel
theorem dX5_init_36 : decode cX5_init 36 = .ok (.putfield 28, 3) := by decide +kernel
theorem dX5_init_39 : decode cX5_init 39 = .ok (.aload_n 0, 1) := by decide +kernel
theorem dX5_init_40 : decode cX5_init 40 = .ok (.bipush 6, 2) := by decide +kernel
theorem dX5_init_42 : decode cX5_init 42 = .ok (.newarray .int, 2) := by decide +kernel
theorem dX5_init_44 : decode cX5_init 44 = .ok (.putfield 31, 3) := by decide +kernel
theorem dX5_init_47 : decode cX5_init 47 = .ok (.aload_n 0, 1) := by decide +kernel
theorem dX5_init_48 : decode cX5_init 48 = .ok (.bipush 12, 2) := by decide +kernel
theorem dX5_init_50 : decode cX5_init 50 = .ok (.newarray .int, 2) := by decide +kernel
theorem dX5_init_52 : decode cX5_init 52 = .ok (.putfield 34, 3) := by decide +kernel
theorem dX5_init_55 : decode cX5_init 55 = .ok (.aload_n 0, 1) := by decide +kernel
theorem dX5_init_56 : decode cX5_init 56 = .ok (.bipush 12, 2) := by decide +kernel
theorem dX5_init_58 : decode cX5_init 58 = .ok (.newarray .int, 2) := by decide +kernel
theorem dX5_init_60 : decode cX5_init 60 = .ok (.putfield 37, 3) := by decide +kernel
theorem dX5_init_63 : decode cX5_init 63 = .ok (.aload_n 0, 1) := by decide +kernel
theorem dX5_init_64 : decode cX5_init 64 = .ok (.bipush 8, 2) := by decide +kernel
theorem dX5_init_66 : decode cX5_init 66 = .ok (.newarray .int, 2) := by decide +kernel
theorem dX5_init_68 : decode cX5_init 68 = .ok (.putfield 40, 3) := by decide +kernel
theorem dX5_init_71 : decode cX5_init 71 = .ok (.iconst 0, 1) := by decide +kernel
theorem dX5_init_72 : decode cX5_init 72 = .ok (.istore_n 1, 1) := by decide +kernel
theorem dX5_init_73 : decode cX5_init 73 = .ok (.iload_n 1, 1) := by decide +kernel
theorem dX5_init_74 : decode cX5_init 74 = .ok (.iconst 4, 1) := by decide +kernel
theorem dX5_init_75 : decode cX5_init 75 = .ok (.if_icmp .ge 22, 3) := by decide +kernel
theorem dX5_init_78 : decode cX5_init 78 = .ok (.aload_n 0, 1) := by decide +kernel
theorem dX5_init_79 : decode cX5_init 79 = .ok (.getfield 24, 3) := by decide +kernel
theorem dX5_init_82 : decode cX5_init 82 = .ok (.iload_n 1, 1) := by decide +kernel
theorem dX5_init_83 : decode cX5_init 83 = .ok (.new 22, 3) := by decide +kernel
theorem dX5_init_86 : decode cX5_init 86 = .ok (.dup, 1) := by decide +kernel
theorem dX5_init_87 : decode cX5_init 87 = .ok (.invokespecial 43, 3) := by decide +kernel
theorem dX5_init_90 : decode cX5_init 90 = .ok (.aastore, 1) := by decide +kernel
theorem dX5_init_91 : decode cX5_init 91 = .ok (.iinc 1 1, 3) := by decide +kernel
theorem dX5_init_94 : decode cX5_init 94 = .ok (.goto (-21), 3) := by decide +kernel
theorem dX5_init_97 : decode cX5_init 97 = .ok (.return_, 1) := by decide +kernel
theorem dX5_hasTown_0 : decode cX5_hasTown 0 = .ok (.aload_n 0, 1) := by decide +kernel
theorem dX5_hasTown_1 : decode cX5_hasTown 1 = .ok (.getfield 12, 3) := by decide +kernel
theorem dX5_hasTown_4 : decode cX5_hasTown 4 = .ok (.getfield 44, 3) := by decide +kernel
theorem dX5_hasTown_7 : decode cX5_hasTown 7 = .ok (.ifCond .le 7, 3) := by decide +kernel
theorem dX5_hasTown_10 : decode cX5_hasTown 10 = .ok (.iconst 1, 1) := by decide +kernel
theorem dX5_hasTown_11 : decode cX5_hasTown 11 = .ok (.goto 4, 3) := by decide +kernel
theorem dX5_hasTown_14 : decode cX5_hasTown 14 = .ok (.iconst 0, 1) := by decide +kernel
theorem dX5_hasTown_15 : decode cX5_hasTown 15 = .ok (.ireturn, 1) := by decide +kernel
set_option maxRecDepth 20000 in
theorem ggX5_moveTo_X7_copyFrom : GoodIn wsX5_moveTo wsX7_copyFrom := goodIn_r _ [11, 12, 13, 14, 15, 16, 17, 18, 19, 20, 21, 22, 23, 24, 25, 26, 27, 42, 43, 44, 45, 46, 47, 48, 49, 50, 51, 52, 53] (by decide +kernel) (by decide +kernel)
set_option maxRecDepth 20000 in
theorem gX5_moveTo_X7_copyFrom : GoodIn wsX5_moveTo (wsV RX5 48 RX7 yX7_copyFrom wsX7_copyFrom) := goodIn_app (goodIn_of _ (by decide +kernel)) ggX5_moveTo_X7_copyFrom
theorem dX5_moveTo_0 : decode cX5_moveTo 0 = .ok (.aload_n 0, 1) := by decide +kernel
theorem dX5_moveTo_1 : decode cX5_moveTo 1 = .ok (.getfield 12, 3) := by decide +kernel
theorem dX5_moveTo_4 : decode cX5_moveTo 4 = .ok (.aload_n 1, 1) := by decide +kernel
theorem dX5_moveTo_5 : decode cX5_moveTo 5 = .ok (.invokevirtual 48, 3) := by decide +kernel
theorem dX5_moveTo_8 : decode cX5_moveTo 8 = .ok (.aload_n 0, 1) := by decide +kernel
theorem dX5_moveTo_9 : decode cX5_moveTo 9 = .ok (.iconst 0, 1) := by decide +kernel
theorem dX5_moveTo_10 : decode cX5_moveTo 10 = .ok (.putfield 52, 3) := by decide +kernel
theorem dX5_moveTo_13 : decode cX5_moveTo 13 = .ok (.aload_n 0, 1) := by decide +kernel
theorem dX5_moveTo_14 : decode cX5_moveTo 14 = .ok (.iconst 0, 1) := by decide +kernel
theorem dX5_moveTo_15 : decode cX5_moveTo 15 = .ok (.putfield 55, 3) := by decide +kernel
theorem dX5_moveTo_18 : decode cX5_moveTo 18 = .ok (.aload_n 0, 1) := by decide +kernel
theorem dX5_moveTo_19 : decode cX5_moveTo 19 = .ok (.iconst 0, 1) := by decide +kernel
theorem dX5_moveTo_20 : decode cX5_moveTo 20 = .ok (.putfield 58, 3) := by decide +kernel
theorem dX5_moveTo_23 : decode cX5_moveTo 23 = .ok (.aload_n 0, 1) := by decide +kernel
theorem dX5_moveTo_24 : decode cX5_moveTo 24 = .ok (.iconst 0, 1) := by decide +kernel
theorem dX5_moveTo_25 : decode cX5_moveTo 25 = .ok (.putfield 61, 3) := by decide +kernel
theorem dX5_moveTo_28 : decode cX5_moveTo 28 = .ok (.aload_n 0, 1) := by decide +kernel
theorem dX5_moveTo_29 : decode cX5_moveTo 29 = .ok (.iconst 0, 1) := by decide +kernel
theorem dX5_moveTo_30 : decode cX5_moveTo 30 = .ok (.putfield 64, 3) := by decide +kernel
theorem dX5_moveTo_33 : decode cX5_moveTo 33 = .ok (.return_, 1) := by decide +kernel
set_option maxRecDepth 20000 in
theorem ggX5_copyFrom_X5_moveTo : GoodIn wsX5_copyFrom wsX5_moveTo := goodIn_r _ [23, 1, 13, 14, 15, 16, 17, 24, 25, 26, 27, 28, 29, 30, 4, 5, 6, 31, 32, 33, 34, 35, 36, 37, 38, 39, 40, 41, 61, 62, 63, 64, 65, 66, 67, 68, 69, 70, 71, 72, 73, 74, 75, 76, 77, 78, 79, 80, 81, 82, 83, 84, 85, 86] (by decide +kernel) (by decide +kernel)
set_option maxRecDepth 20000 in
theorem gX5_copyFrom_X5_moveTo : GoodIn wsX5_copyFrom (wsV RX5 67 RX5 yX5_moveTo wsX5_moveTo) := goodIn_app (goodIn_of _ (by decide +kernel)) ggX5_copyFrom_X5_moveTo
set_option maxRecDepth 20000 in
theorem ggX5_copyFrom_X9_copyFrom : GoodIn wsX5_copyFrom wsX9_copyFrom := goodIn_r _ [46, 47, 48, 49, 50, 51, 52, 53, 54, 55, 56, 57, 58, 45, 59, 60, 87, 88, 89, 90, 91, 92, 93, 94, 95] (by decide +kernel) (by decide +kernel)
set_option maxRecDepth 20000 in
theorem gX5_copyFrom_X9_copyFrom : GoodIn wsX5_copyFrom (wsV RX5 76 RX9 yX9_copyFrom wsX9_copyFrom) := goodIn_app (goodIn_of _ (by decide +kernel)) ggX5_copyFrom_X9_copyFrom
theorem dX5_copyFrom_0 : decode cX5_copyFrom 0 = .ok (.aload_n 0, 1) := by decide +kernel
theorem dX5_copyFrom_1 : decode cX5_copyFrom 1 = .ok (.aload_n 1, 1) := by decide +kernel
theorem dX5_copyFrom_2 : decode cX5_copyFrom 2 = .ok (.getfield 12, 3) := by decide +kernel
theorem dX5_copyFrom_5 : decode cX5_copyFrom 5 = .ok (.invokevirtual 67, 3) := by decide +kernel
theorem dX5_copyFrom_8 : decode cX5_copyFrom 8 = .ok (.aload_n 1, 1) := by decide +kernel
theorem dX5_copyFrom_9 : decode cX5_copyFrom 9 = .ok (.getfield 18, 3) := by decide +kernel
theorem dX5_copyFrom_12 : decode cX5_copyFrom 12 = .ok (.iconst 0, 1) := by decide +kernel
theorem dX5_copyFrom_13 : decode cX5_copyFrom 13 = .ok (.aload_n 0, 1) := by decide +kernel
theorem dX5_copyFrom_14 : decode cX5_copyFrom 14 = .ok (.getfield 18, 3) := by decide +kernel
theorem dX5_copyFrom_17 : decode cX5_copyFrom 17 = .ok (.iconst 0, 1) := by decide +kernel
theorem dX5_copyFrom_18 : decode cX5_copyFrom 18 = .ok (.aload_n 0, 1) := by decide +kernel
theorem dX5_copyFrom_19 : decode cX5_copyFrom 19 = .ok (.getfield 18, 3) := by decide +kernel
theorem dX5_copyFrom_22 : decode cX5_copyFrom 22 = .ok (.arraylength, 1) := by decide +kernel
theorem dX5_copyFrom_23 : decode cX5_copyFrom 23 = .ok (.invokestatic 70, 3) := by decide +kernel
theorem dX5_copyFrom_26 : decode cX5_copyFrom 26 = .ok (.iconst 0, 1) := by decide +kernel
theorem dX5_copyFrom_27 : decode cX5_copyFrom 27 = .ok (.istore_n 2, 1) := by decide +kernel
theorem dX5_copyFrom_28 : decode cX5_copyFrom 28 = .ok (.iload_n 2, 1) := by decide +kernel
theorem dX5_copyFrom_29 : decode cX5_copyFrom 29 = .ok (.iconst 4, 1) := by decide +kernel
theorem dX5_copyFrom_30 : decode cX5_copyFrom 30 = .ok (.if_icmp .ge 24, 3) := by decide +kernel
theorem dX5_copyFrom_33 : decode cX5_copyFrom 33 = .ok (.aload_n 0, 1) := by decide +kernel
theorem dX5_copyFrom_34 : decode cX5_copyFrom 34 = .ok (.getfield 24, 3) := by decide +kernel
theorem dX5_copyFrom_37 : decode cX5_copyFrom 37 = .ok (.iload_n 2, 1) := by decide +kernel
theorem dX5_copyFrom_38 : decode cX5_copyFrom 38 = .ok (.aaload, 1) := by decide +kernel
theorem dX5_copyFrom_39 : decode cX5_copyFrom 39 = .ok (.aload_n 1, 1) := by decide +kernel
theorem dX5_copyFrom_40 : decode cX5_copyFrom 40 = .ok (.getfield 24, 3) := by decide +kernel
theorem dX5_copyFrom_43 : decode cX5_copyFrom 43 = .ok (.iload_n 2, 1) := by decide +kernel
theorem dX5_copyFrom_44 : decode cX5_copyFrom 44 = .ok (.aaload, 1) := by decide +kernel
theorem dX5_copyFrom_45 : decode cX5_copyFrom 45 = .ok (.invokevirtual 76, 3) := by decide +kernel
theorem dX5_copyFrom_48 : decode cX5_copyFrom 48 = .ok (.iinc 2 1, 3) := by decide +kernel
theorem dX5_copyFrom_51 : decode cX5_copyFrom 51 = .ok (.goto (-23), 3) := by decide +kernel
theorem dX5_copyFrom_54 : decode cX5_copyFrom 54 = .ok (.aload_n 1, 1) := by decide +kernel
theorem dX5_copyFrom_55 : decode cX5_copyFrom 55 = .ok (.getfield 28, 3) := by decide +kernel
theorem dX5_copyFrom_58 : decode cX5_copyFrom 58 = .ok (.iconst 0, 1) := by decide +kernel
theorem dX5_copyFrom_59 : decode cX5_copyFrom 59 = .ok (.aload_n 0, 1) := by decide +kernel
theorem dX5_copyFrom_60 : decode cX5_copyFrom 60 = .ok (.getfield 28, 3) := by decide +kernel
theorem dX5_copyFrom_63 : decode cX5_copyFrom 63 = .ok (.iconst 0, 1) := by decide +kernel
theorem dX5_copyFrom_64 : decode cX5_copyFrom 64 = .ok (.bipush 6, 2) := by decide +kernel
theorem dX5_copyFrom_66 : decode cX5_copyFrom 66 = .ok (.invokestatic 70, 3) := by decide +kernel
theorem dX5_copyFrom_69 : decode cX5_copyFrom 69 = .ok (.aload_n 1, 1) := by decide +kernel
theorem dX5_copyFrom_70 : decode cX5_copyFrom 70 = .ok (.getfield 31, 3) := by decide +kernel
theorem dX5_copyFrom_73 : decode cX5_copyFrom 73 = .ok (.iconst 0, 1) := by decide +kernel
theorem dX5_copyFrom_74 : decode cX5_copyFrom 74 = .ok (.aload_n 0, 1) := by decide +kernel
theorem dX5_copyFrom_75 : decode cX5_copyFrom 75 = .ok (.getfield 31, 3) := by decide +kernel
theorem dX5_copyFrom_78 : decode cX5_copyFrom 78 = .ok (.iconst 0, 1) := by decide +kernel
theorem dX5_copyFrom_79 : decode cX5_copyFrom 79 = .ok (.bipush 6, 2) := by decide +kernel
theorem dX5_copyFrom_81 : decode cX5_copyFrom 81 = .ok (.invokestatic 70, 3) := by decide +kernel
theorem dX5_copyFrom_84 : decode cX5_copyFrom 84 = .ok (.aload_n 1, 1) := by decide +kernel
theorem dX5_copyFrom_85 : decode cX5_copyFrom 85 = .ok (.getfield 34, 3) := by decide +kernel
theorem dX5_copyFrom_88 : decode cX5_copyFrom 88 = .ok (.iconst 0, 1) := by decide +kernel
theorem dX5_copyFrom_89 : decode cX5_copyFrom 89 = .ok (.aload_n 0, 1) := by decide +kernel
theorem dX5_copyFrom_90 : decode cX5_copyFrom 90 = .ok (.getfield 34, 3) := by decide +kernel
theorem dX5_copyFrom_93 : decode cX5_copyFrom 93 = .ok (.iconst 0, 1) := by decide +kernel
theorem dX5_copyFrom_94 : decode cX5_copyFrom 94 = .ok (.bipush 12, 2) := by decide +kernel
theorem dX5_copyFrom_96 : decode cX5_copyFrom 96 = .ok (.invokestatic 70, 3) := by decide +kernel
theorem dX5_copyFrom_99 : decode cX5_copyFrom 99 = .ok (.aload_n 1, 1) := by decide +kernel
theorem dX5_copyFrom_100 : decode cX5_copyFrom 100 = .ok (.getfield 37, 3) := by decide +kernel
theorem dX5_copyFrom_103 : decode cX5_copyFrom 103 = .ok (.iconst 0, 1) := by decide +kernel
theorem dX5_copyFrom_104 : decode cX5_copyFrom 104 = .ok (.aload_n 0, 1) := by decide +kernel
theorem dX5_copyFrom_105 : decode cX5_copyFrom 105 = .ok (.getfield 37, 3) := by decide +kernel
theorem dX5_copyFrom_108 : decode cX5_copyFrom 108 = .ok (.iconst 0, 1) := by decide +kernel
theorem dX5_copyFrom_109 : decode cX5_copyFrom 109 = .ok (.bipush 12, 2) := by decide +kernel
theorem dX5_copyFrom_111 : decode cX5_copyFrom 111 = .ok (.invokestatic 70, 3) := by decide +kernel
theorem dX5_copyFrom_114 : decode cX5_copyFrom 114 = .ok (.aload_n 1, 1) := by decide +kernel
theorem dX5_copyFrom_115 : decode cX5_copyFrom 115 = .ok (.getfield 40, 3) := by decide +kernel
theorem dX5_copyFrom_118 : decode cX5_copyFrom 118 = .ok (.iconst 0, 1) := by decide +kernel
theorem dX5_copyFrom_119 : decode cX5_copyFrom 119 = .ok (.aload_n 0, 1) := by decide +kernel
theorem dX5_copyFrom_120 : decode cX5_copyFrom 120 = .ok (.getfield 40, 3) := by decide +kernel
theorem dX5_copyFrom_123 : decode cX5_copyFrom 123 = .ok (.iconst 0, 1) := by decide +kernel
theorem dX5_copyFrom_124 : decode cX5_copyFrom 124 = .ok (.bipush 8, 2) := by decide +kernel
theorem dX5_copyFrom_126 : decode cX5_copyFrom 126 = .ok (.invokestatic 70, 3) := by decide +kernel
theorem dX5_copyFrom_129 : decode cX5_copyFrom 129 = .ok (.aload_n 0, 1) := by decide +kernel
theorem dX5_copyFrom_130 : decode cX5_copyFrom 130 = .ok (.aload_n 1, 1) := by decide +kernel
theorem dX5_copyFrom_131 : decode cX5_copyFrom 131 = .ok (.getfield 52, 3) := by decide +kernel
theorem dX5_copyFrom_134 : decode cX5_copyFrom 134 = .ok (.putfield 52, 3) := by decide +kernel
theorem dX5_copyFrom_137 : decode cX5_copyFrom 137 = .ok (.aload_n 0, 1) := by decide +kernel
theorem dX5_copyFrom_138 : decode cX5_copyFrom 138 = .ok (.aload_n 1, 1) := by decide +kernel
theorem dX5_copyFrom_139 : decode cX5_copyFrom 139 = .ok (.getfield 55, 3) := by decide +kernel
theorem dX5_copyFrom_142 : decode cX5_copyFrom 142 = .ok (.putfield 55, 3) := by decide +kernel
theorem dX5_copyFrom_145 : decode cX5_copyFrom 145 = .ok (.aload_n 0, 1) := by decide +kernel
theorem dX5_copyFrom_146 : decode cX5_copyFrom 146 = .ok (.aload_n 1, 1) := by decide +kernel
theorem dX5_copyFrom_147 : decode cX5_copyFrom 147 = .ok (.getfield 58, 3) := by decide +kernel
theorem dX5_copyFrom_150 : decode cX5_copyFrom 150 = .ok (.putfield 58, 3) := by decide +kernel
theorem dX5_copyFrom_153 : decode cX5_copyFrom 153 = .ok (.aload_n 0, 1) := by decide +kernel
theorem dX5_copyFrom_154 : decode cX5_copyFrom 154 = .ok (.aload_n 1, 1) := by decide +kernel
theorem dX5_copyFrom_155 : decode cX5_copyFrom 155 = .ok (.getfield 61, 3) := by decide +kernel
theorem dX5_copyFrom_158 : decode cX5_copyFrom 158 = .ok (.putfield 61, 3) := by decide +kernel
theorem dX5_copyFrom_161 : decode cX5_copyFrom 161 = .ok (.aload_n 0, 1) := by decide +kernel
theorem dX5_copyFrom_162 : decode cX5_copyFrom 162 = .ok (.aload_n 1, 1) := by decide +kernel
theorem dX5_copyFrom_163 : decode cX5_copyFrom 163 = .ok (.getfield 64, 3) := by decide +kernel
theorem dX5_copyFrom_166 : decode cX5_copyFrom 166 = .ok (.putfield 64, 3) := by decide +kernel
theorem dX5_copyFrom_169 : decode cX5_copyFrom 169 = .ok (.aload_n 0, 1) := by decide +kernel
theorem dX5_copyFrom_170 : decode cX5_copyFrom 170 = .ok (.aload_n 1, 1) := by decide +kernel
theorem dX5_copyFrom_171 : decode cX5_copyFrom 171 = .ok (.getfield 79, 3) := by decide +kernel
theorem dX5_copyFrom_174 : decode cX5_copyFrom 174 = .ok (.putfield 79, 3) := by decide +kernel
theorem dX5_copyFrom_177 : decode cX5_copyFrom 177 = .ok (.return_, 1) := by decide +kernel
set_option maxRecDepth 20000 in
theorem ggX5_fittingDays_X5_fitsSights : GoodIn wsX5_fittingDays wsX5_fitsSights := goodIn_r _ [5, 6, 7, 8, 9, 10, 11, 12, 13, 14, 15, 16, 17, 18, 19, 20, 21, 22, 23, 24, 25, 26, 27, 28, 29, 30, 31, 32, 33, 34, 35, 36, 37, 38, 39, 40, 41] (by decide +kernel) (by decide +kernel)
set_option maxRecDepth 20000 in
theorem gX5_fittingDays_X5_fitsSights : GoodIn wsX5_fittingDays (wsV RX5 82 RX5 yX5_fitsSights wsX5_fitsSights) := goodIn_app (goodIn_of _ (by decide +kernel)) ggX5_fittingDays_X5_fitsSights
theorem dX5_fittingDays_0 : decode cX5_fittingDays 0 = .ok (.iconst 0, 1) := by decide +kernel
theorem dX5_fittingDays_1 : decode cX5_fittingDays 1 = .ok (.istore_n 1, 1) := by decide +kernel
theorem dX5_fittingDays_2 : decode cX5_fittingDays 2 = .ok (.iconst 0, 1) := by decide +kernel
theorem dX5_fittingDays_3 : decode cX5_fittingDays 3 = .ok (.istore_n 2, 1) := by decide +kernel
theorem dX5_fittingDays_4 : decode cX5_fittingDays 4 = .ok (.iload_n 2, 1) := by decide +kernel
theorem dX5_fittingDays_5 : decode cX5_fittingDays 5 = .ok (.bipush 7, 2) := by decide +kernel
theorem dX5_fittingDays_7 : decode cX5_fittingDays 7 = .ok (.if_icmp .ge 23, 3) := by decide +kernel
theorem dX5_fittingDays_10 : decode cX5_fittingDays 10 = .ok (.aload_n 0, 1) := by decide +kernel
theorem dX5_fittingDays_11 : decode cX5_fittingDays 11 = .ok (.iload_n 2, 1) := by decide +kernel
theorem dX5_fittingDays_12 : decode cX5_fittingDays 12 = .ok (.invokevirtual 82, 3) := by decide +kernel
theorem dX5_fittingDays_15 : decode cX5_fittingDays 15 = .ok (.ifCond .eq 9, 3) := by decide +kernel
theorem dX5_fittingDays_18 : decode cX5_fittingDays 18 = .ok (.iload_n 1, 1) := by decide +kernel
theorem dX5_fittingDays_19 : decode cX5_fittingDays 19 = .ok (.iconst 1, 1) := by decide +kernel
theorem dX5_fittingDays_20 : decode cX5_fittingDays 20 = .ok (.iload_n 2, 1) := by decide +kernel
theorem dX5_fittingDays_21 : decode cX5_fittingDays 21 = .ok (.ishl, 1) := by decide +kernel
theorem dX5_fittingDays_22 : decode cX5_fittingDays 22 = .ok (.ior, 1) := by decide +kernel
theorem dX5_fittingDays_23 : decode cX5_fittingDays 23 = .ok (.istore_n 1, 1) := by decide +kernel
theorem dX5_fittingDays_24 : decode cX5_fittingDays 24 = .ok (.iinc 2 1, 3) := by decide +kernel
theorem dX5_fittingDays_27 : decode cX5_fittingDays 27 = .ok (.goto (-23), 3) := by decide +kernel
theorem dX5_fittingDays_30 : decode cX5_fittingDays 30 = .ok (.iload_n 1, 1) := by decide +kernel
theorem dX5_fittingDays_31 : decode cX5_fittingDays 31 = .ok (.ireturn, 1) := by decide +kernel
set_option maxRecDepth 20000 in
theorem ggX5_fitsSights_X7_signOn : GoodIn wsX5_fitsSights wsX7_signOn := goodIn_r _ [9, 10, 25, 26, 27, 28, 29, 30, 31, 32, 33, 34, 35, 36] (by decide +kernel) (by decide +kernel)
set_option maxRecDepth 20000 in
theorem gX5_fitsSights_X7_signOn : GoodIn wsX5_fitsSights (wsV RX5 86 RX7 yX7_signOn wsX7_signOn) := goodIn_app (goodIn_of _ (by decide +kernel)) ggX5_fitsSights_X7_signOn
theorem dX5_fitsSights_0 : decode cX5_fitsSights 0 = .ok (.iconst 0, 1) := by decide +kernel
theorem dX5_fitsSights_1 : decode cX5_fitsSights 1 = .ok (.istore_n 2, 1) := by decide +kernel
theorem dX5_fitsSights_2 : decode cX5_fitsSights 2 = .ok (.iload_n 2, 1) := by decide +kernel
theorem dX5_fitsSights_3 : decode cX5_fitsSights 3 = .ok (.aload_n 0, 1) := by decide +kernel
theorem dX5_fitsSights_4 : decode cX5_fitsSights 4 = .ok (.getfield 61, 3) := by decide +kernel
theorem dX5_fitsSights_7 : decode cX5_fitsSights 7 = .ok (.if_icmp .ge 34, 3) := by decide +kernel
theorem dX5_fitsSights_10 : decode cX5_fitsSights 10 = .ok (.aload_n 0, 1) := by decide +kernel
theorem dX5_fitsSights_11 : decode cX5_fitsSights 11 = .ok (.getfield 12, 3) := by decide +kernel
theorem dX5_fitsSights_14 : decode cX5_fitsSights 14 = .ok (.aload_n 0, 1) := by decide +kernel
theorem dX5_fitsSights_15 : decode cX5_fitsSights 15 = .ok (.getfield 34, 3) := by decide +kernel
theorem dX5_fitsSights_18 : decode cX5_fitsSights 18 = .ok (.iload_n 2, 1) := by decide +kernel
theorem dX5_fitsSights_19 : decode cX5_fitsSights 19 = .ok (.iaload, 1) := by decide +kernel
theorem dX5_fitsSights_20 : decode cX5_fitsSights 20 = .ok (.iload_n 1, 1) := by decide +kernel
theorem dX5_fitsSights_21 : decode cX5_fitsSights 21 = .ok (.invokevirtual 86, 3) := by decide +kernel
theorem dX5_fitsSights_24 : decode cX5_fitsSights 24 = .ok (.aload_n 0, 1) := by decide +kernel
theorem dX5_fitsSights_25 : decode cX5_fitsSights 25 = .ok (.getfield 37, 3) := by decide +kernel
theorem dX5_fitsSights_28 : decode cX5_fitsSights 28 = .ok (.iload_n 2, 1) := by decide +kernel
theorem dX5_fitsSights_29 : decode cX5_fitsSights 29 = .ok (.iaload, 1) := by decide +kernel
theorem dX5_fitsSights_30 : decode cX5_fitsSights 30 = .ok (.if_icmp .eq 5, 3) := by decide +kernel
theorem dX5_fitsSights_33 : decode cX5_fitsSights 33 = .ok (.iconst 0, 1) := by decide +kernel
theorem dX5_fitsSights_34 : decode cX5_fitsSights 34 = .ok (.ireturn, 1) := by decide +kernel
theorem dX5_fitsSights_35 : decode cX5_fitsSights 35 = .ok (.iinc 2 1, 3) := by decide +kernel
theorem dX5_fitsSights_38 : decode cX5_fitsSights 38 = .ok (.goto (-36), 3) := by decide +kernel
theorem dX5_fitsSights_41 : decode cX5_fitsSights 41 = .ok (.iconst 1, 1) := by decide +kernel
theorem dX5_fitsSights_42 : decode cX5_fitsSights 42 = .ok (.ireturn, 1) := by decide +kernel
set_option maxRecDepth 20000 in
theorem ggX5_streetToLookAt_X5_mostAlike : GoodIn wsX5_streetToLookAt wsX5_mostAlike := goodIn_r _ [7, 1, 8, 9, 10, 11, 12, 13, 14, 15, 16, 17, 18, 19, 20, 21, 22, 23, 24, 25, 26, 27, 28, 29, 30, 31, 32, 33, 34, 35, 36, 37, 38, 39, 40, 41, 42, 43] (by decide +kernel) (by decide +kernel)
set_option maxRecDepth 20000 in
theorem gX5_streetToLookAt_X5_mostAlike : GoodIn wsX5_streetToLookAt (wsV RX5 93 RX5 yX5_mostAlike wsX5_mostAlike) := goodIn_app (goodIn_of _ (by decide +kernel)) ggX5_streetToLookAt_X5_mostAlike
theorem dX5_streetToLookAt_0 : decode cX5_streetToLookAt 0 = .ok (.bipush (-2), 2) := by decide +kernel
theorem dX5_streetToLookAt_2 : decode cX5_streetToLookAt 2 = .ok (.istore_n 2, 1) := by decide +kernel
theorem dX5_streetToLookAt_3 : decode cX5_streetToLookAt 3 = .ok (.bipush 8, 2) := by decide +kernel
theorem dX5_streetToLookAt_5 : decode cX5_streetToLookAt 5 = .ok (.istore_n 3, 1) := by decide +kernel
theorem dX5_streetToLookAt_6 : decode cX5_streetToLookAt 6 = .ok (.iconst 0, 1) := by decide +kernel
theorem dX5_streetToLookAt_7 : decode cX5_streetToLookAt 7 = .ok (.istore 4, 2) := by decide +kernel
theorem dX5_streetToLookAt_9 : decode cX5_streetToLookAt 9 = .ok (.iload 4, 2) := by decide +kernel
theorem dX5_streetToLookAt_11 : decode cX5_streetToLookAt 11 = .ok (.aload_n 0, 1) := by decide +kernel
theorem dX5_streetToLookAt_12 : decode cX5_streetToLookAt 12 = .ok (.getfield 12, 3) := by decide +kernel
theorem dX5_streetToLookAt_15 : decode cX5_streetToLookAt 15 = .ok (.getfield 90, 3) := by decide +kernel
theorem dX5_streetToLookAt_18 : decode cX5_streetToLookAt 18 = .ok (.if_icmp .ge 30, 3) := by decide +kernel
theorem dX5_streetToLookAt_21 : decode cX5_streetToLookAt 21 = .ok (.aload_n 0, 1) := by decide +kernel
theorem dX5_streetToLookAt_22 : decode cX5_streetToLookAt 22 = .ok (.iload 4, 2) := by decide +kernel
theorem dX5_streetToLookAt_24 : decode cX5_streetToLookAt 24 = .ok (.iload_n 1, 1) := by decide +kernel
theorem dX5_streetToLookAt_25 : decode cX5_streetToLookAt 25 = .ok (.invokevirtual 93, 3) := by decide +kernel
theorem dX5_streetToLookAt_28 : decode cX5_streetToLookAt 28 = .ok (.istore 5, 2) := by decide +kernel
theorem dX5_streetToLookAt_30 : decode cX5_streetToLookAt 30 = .ok (.iload 5, 2) := by decide +kernel
theorem dX5_streetToLookAt_32 : decode cX5_streetToLookAt 32 = .ok (.iload_n 3, 1) := by decide +kernel
theorem dX5_streetToLookAt_33 : decode cX5_streetToLookAt 33 = .ok (.if_icmp .ge 9, 3) := by decide +kernel
theorem dX5_streetToLookAt_36 : decode cX5_streetToLookAt 36 = .ok (.iload 5, 2) := by decide +kernel
theorem dX5_streetToLookAt_38 : decode cX5_streetToLookAt 38 = .ok (.istore_n 3, 1) := by decide +kernel
theorem dX5_streetToLookAt_39 : decode cX5_streetToLookAt 39 = .ok (.iload 4, 2) := by decide +kernel
theorem dX5_streetToLookAt_41 : decode cX5_streetToLookAt 41 = .ok (.istore_n 2, 1) := by decide +kernel
theorem dX5_streetToLookAt_42 : decode cX5_streetToLookAt 42 = .ok (.iinc 4 1, 3) := by decide +kernel
theorem dX5_streetToLookAt_45 : decode cX5_streetToLookAt 45 = .ok (.goto (-36), 3) := by decide +kernel
theorem dX5_streetToLookAt_48 : decode cX5_streetToLookAt 48 = .ok (.iload_n 2, 1) := by decide +kernel
theorem dX5_streetToLookAt_49 : decode cX5_streetToLookAt 49 = .ok (.ireturn, 1) := by decide +kernel
set_option maxRecDepth 20000 in
theorem ggX5_mostAlike_X7_signOn : GoodIn wsX5_mostAlike wsX7_signOn := goodIn_r _ [10, 11, 26, 27, 28, 29, 30, 31, 32, 33, 34, 35, 36, 37] (by decide +kernel) (by decide +kernel)
set_option maxRecDepth 20000 in
theorem gX5_mostAlike_X7_signOn : GoodIn wsX5_mostAlike (wsV RX5 86 RX7 yX7_signOn wsX7_signOn) := goodIn_app (goodIn_of _ (by decide +kernel)) ggX5_mostAlike_X7_signOn
theorem dX5_mostAlike_0 : decode cX5_mostAlike 0 = .ok (.iconst 0, 1) := by decide +kernel
theorem dX5_mostAlike_1 : decode cX5_mostAlike 1 = .ok (.istore_n 3, 1) := by decide +kernel
theorem dX5_mostAlike_2 : decode cX5_mostAlike 2 = .ok (.iconst 0, 1) := by decide +kernel
theorem dX5_mostAlike_3 : decode cX5_mostAlike 3 = .ok (.istore 4, 2) := by decide +kernel
theorem dX5_mostAlike_5 : decode cX5_mostAlike 5 = .ok (.iload 4, 2) := by decide +kernel
theorem dX5_mostAlike_7 : decode cX5_mostAlike 7 = .ok (.iconst 3, 1) := by decide +kernel
theorem dX5_mostAlike_8 : decode cX5_mostAlike 8 = .ok (.if_icmp .gt 62, 3) := by decide +kernel
theorem dX5_mostAlike_11 : decode cX5_mostAlike 11 = .ok (.iconst 0, 1) := by decide +kernel
theorem dX5_mostAlike_12 : decode cX5_mostAlike 12 = .ok (.istore 5, 2) := by decide +kernel
theorem dX5_mostAlike_14 : decode cX5_mostAlike 14 = .ok (.iconst 0, 1) := by decide +kernel
theorem dX5_mostAlike_15 : decode cX5_mostAlike 15 = .ok (.istore 6, 2) := by decide +kernel
theorem dX5_mostAlike_17 : decode cX5_mostAlike 17 = .ok (.iload 6, 2) := by decide +kernel
theorem dX5_mostAlike_19 : decode cX5_mostAlike 19 = .ok (.bipush 7, 2) := by decide +kernel
theorem dX5_mostAlike_21 : decode cX5_mostAlike 21 = .ok (.if_icmp .ge 36, 3) := by decide +kernel
theorem dX5_mostAlike_24 : decode cX5_mostAlike 24 = .ok (.iload_n 2, 1) := by decide +kernel
theorem dX5_mostAlike_25 : decode cX5_mostAlike 25 = .ok (.iload 6, 2) := by decide +kernel
theorem dX5_mostAlike_27 : decode cX5_mostAlike 27 = .ok (.ishr, 1) := by decide +kernel
theorem dX5_mostAlike_28 : decode cX5_mostAlike 28 = .ok (.iconst 1, 1) := by decide +kernel
theorem dX5_mostAlike_29 : decode cX5_mostAlike 29 = .ok (.iand, 1) := by decide +kernel
theorem dX5_mostAlike_30 : decode cX5_mostAlike 30 = .ok (.ifCond .eq 21, 3) := by decide +kernel
theorem dX5_mostAlike_33 : decode cX5_mostAlike 33 = .ok (.aload_n 0, 1) := by decide +kernel
theorem dX5_mostAlike_34 : decode cX5_mostAlike 34 = .ok (.getfield 12, 3) := by decide +kernel
theorem dX5_mostAlike_37 : decode cX5_mostAlike 37 = .ok (.iload_n 1, 1) := by decide +kernel
theorem dX5_mostAlike_38 : decode cX5_mostAlike 38 = .ok (.iload 6, 2) := by decide +kernel
theorem dX5_mostAlike_40 : decode cX5_mostAlike 40 = .ok (.invokevirtual 86, 3) := by decide +kernel
theorem dX5_mostAlike_43 : decode cX5_mostAlike 43 = .ok (.iload 4, 2) := by decide +kernel
theorem dX5_mostAlike_45 : decode cX5_mostAlike 45 = .ok (.if_icmp .ne 6, 3) := by decide +kernel
theorem dX5_mostAlike_48 : decode cX5_mostAlike 48 = .ok (.iinc 5 1, 3) := by decide +kernel
theorem dX5_mostAlike_51 : decode cX5_mostAlike 51 = .ok (.iinc 6 1, 3) := by decide +kernel
theorem dX5_mostAlike_54 : decode cX5_mostAlike 54 = .ok (.goto (-37), 3) := by decide +kernel
theorem dX5_mostAlike_57 : decode cX5_mostAlike 57 = .ok (.iload_n 3, 1) := by decide +kernel
theorem dX5_mostAlike_58 : decode cX5_mostAlike 58 = .ok (.iload 5, 2) := by decide +kernel
theorem dX5_mostAlike_60 : decode cX5_mostAlike 60 = .ok (.invokestatic 96, 3) := by decide +kernel
theorem dX5_mostAlike_63 : decode cX5_mostAlike 63 = .ok (.istore_n 3, 1) := by decide +kernel
theorem dX5_mostAlike_64 : decode cX5_mostAlike 64 = .ok (.iinc 4 1, 3) := by decide +kernel
theorem dX5_mostAlike_67 : decode cX5_mostAlike 67 = .ok (.goto (-62), 3) := by decide +kernel
theorem dX5_mostAlike_70 : decode cX5_mostAlike 70 = .ok (.iload_n 3, 1) := by decide +kernel
theorem dX5_mostAlike_71 : decode cX5_mostAlike 71 = .ok (.ireturn, 1) := by decide +kernel
theorem dX6_init_0 : decode cX6_init 0 = .ok (.aload_n 0, 1) := by decide +kernel
theorem dX6_init_1 : decode cX6_init 1 = .ok (.invokespecial 3, 3) := by decide +kernel
theorem dX6_init_4 : decode cX6_init 4 = .ok (.aload_n 0, 1) := by decide +kernel
theorem dX6_init_5 : decode cX6_init 5 = .ok (.sipush 400, 3) := by decide +kernel
theorem dX6_init_8 : decode cX6_init 8 = .ok (.newarray .int, 2) := by decide +kernel
theorem dX6_init_10 : decode cX6_init 10 = .ok (.putfield 9, 3) := by decide +kernel
theorem dX6_init_13 : decode cX6_init 13 = .ok (.return_, 1) := by decide +kernel
theorem dX6_hasRoom_0 : decode cX6_hasRoom 0 = .ok (.aload_n 0, 1) := by decide +kernel
theorem dX6_hasRoom_1 : decode cX6_hasRoom 1 = .ok (.getfield 15, 3) := by decide +kernel
theorem dX6_hasRoom_4 : decode cX6_hasRoom 4 = .ok (.bipush 20, 2) := by decide +kernel
theorem dX6_hasRoom_6 : decode cX6_hasRoom 6 = .ok (.iadd, 1) := by decide +kernel
theorem dX6_hasRoom_7 : decode cX6_hasRoom 7 = .ok (.sipush 400, 3) := by decide +kernel
theorem dX6_hasRoom_10 : decode cX6_hasRoom 10 = .ok (.if_icmp .gt 7, 3) := by decide +kernel
theorem dX6_hasRoom_13 : decode cX6_hasRoom 13 = .ok (.iconst 1, 1) := by decide +kernel
theorem dX6_hasRoom_14 : decode cX6_hasRoom 14 = .ok (.goto 4, 3) := by decide +kernel
theorem dX6_hasRoom_17 : decode cX6_hasRoom 17 = .ok (.iconst 0, 1) := by decide +kernel
theorem dX6_hasRoom_18 : decode cX6_hasRoom 18 = .ok (.ireturn, 1) := by decide +kernel
theorem dX6_append_0 : decode cX6_append 0 = .ok (.bipush 24, 2) := by decide +kernel
theorem dX6_append_2 : decode cX6_append 2 = .ok (.istore_n 2, 1) := by decide +kernel
theorem dX6_append_3 : decode cX6_append 3 = .ok (.iload_n 2, 1) := by decide +kernel
theorem dX6_append_4 : decode cX6_append 4 = .ok (.ifCond .lt 45, 3) := by decide +kernel
theorem dX6_append_7 : decode cX6_append 7 = .ok (.aload_n 0, 1) := by decide +kernel
theorem dX6_append_8 : decode cX6_append 8 = .ok (.getfield 15, 3) := by decide +kernel
theorem dX6_append_11 : decode cX6_append 11 = .ok (.sipush 400, 3) := by decide +kernel
theorem dX6_append_14 : decode cX6_append 14 = .ok (.if_icmp .ge 35, 3) := by decide +kernel
theorem dX6_append_17 : decode cX6_append 17 = .ok (.aload_n 0, 1) := by decide +kernel
theorem dX6_append_18 : decode cX6_append 18 = .ok (.getfield 9, 3) := by decide +kernel
theorem dX6_append_21 : decode cX6_append 21 = .ok (.aload_n 0, 1) := by decide +kernel
theorem dX6_append_22 : decode cX6_append 22 = .ok (.getfield 15, 3) := by decide +kernel
theorem dX6_append_25 : decode cX6_append 25 = .ok (.iload_n 1, 1) := by decide +kernel
theorem dX6_append_26 : decode cX6_append 26 = .ok (.iload_n 2, 1) := by decide +kernel
theorem dX6_append_27 : decode cX6_append 27 = .ok (.ishr, 1) := by decide +kernel
theorem dX6_append_28 : decode cX6_append 28 = .ok (.sipush 255, 3) := by decide +kernel
theorem dX6_append_31 : decode cX6_append 31 = .ok (.iand, 1) := by decide +kernel
theorem dX6_append_32 : decode cX6_append 32 = .ok (.iastore, 1) := by decide +kernel
theorem dX6_append_33 : decode cX6_append 33 = .ok (.aload_n 0, 1) := by decide +kernel
theorem dX6_append_34 : decode cX6_append 34 = .ok (.dup, 1) := by decide +kernel
theorem dX6_append_35 : decode cX6_append 35 = .ok (.getfield 15, 3) := by decide +kernel
theorem dX6_append_38 : decode cX6_append 38 = .ok (.iconst 1, 1) := by decide +kernel
theorem dX6_append_39 : decode cX6_append 39 = .ok (.iadd, 1) := by decide +kernel
theorem dX6_append_40 : decode cX6_append 40 = .ok (.putfield 15, 3) := by decide +kernel
theorem dX6_append_43 : decode cX6_append 43 = .ok (.iinc 2 (-8), 3) := by decide +kernel
theorem dX6_append_46 : decode cX6_append 46 = .ok (.goto (-43), 3) := by decide +kernel
theorem dX6_append_49 : decode cX6_append 49 = .ok (.return_, 1) := by decide +kernel
theorem dX6_startReading_0 : decode cX6_startReading 0 = .ok (.aload_n 0, 1) := by decide +kernel
theorem dX6_startReading_1 : decode cX6_startReading 1 = .ok (.iconst 0, 1) := by decide +kernel
theorem dX6_startReading_2 : decode cX6_startReading 2 = .ok (.putfield 19, 3) := by decide +kernel
theorem dX6_startReading_5 : decode cX6_startReading 5 = .ok (.aload_n 0, 1) := by decide +kernel
theorem dX6_startReading_6 : decode cX6_startReading 6 = .ok (.iconst 0, 1) := by decide +kernel
theorem dX6_startReading_7 : decode cX6_startReading 7 = .ok (.putfield 22, 3) := by decide +kernel
theorem dX6_startReading_10 : decode cX6_startReading 10 = .ok (.aload_n 0, 1) := by decide +kernel
theorem dX6_startReading_11 : decode cX6_startReading 11 = .ok (.iconst 0, 1) := by decide +kernel
theorem dX6_startReading_12 : decode cX6_startReading 12 = .ok (.putfield 25, 3) := by decide +kernel
theorem dX6_startReading_15 : decode cX6_startReading 15 = .ok (.return_, 1) := by decide +kernel
theorem dX6_blame_0 : decode cX6_blame 0 = .ok (.aload_n 0, 1) := by decide +kernel
theorem dX6_blame_1 : decode cX6_blame 1 = .ok (.getfield 25, 3) := by decide +kernel
theorem dX6_blame_4 : decode cX6_blame 4 = .ok (.ifCond .ne 15, 3) := by decide +kernel
theorem dX6_blame_7 : decode cX6_blame 7 = .ok (.aload_n 0, 1) := by decide +kernel
theorem dX6_blame_8 : decode cX6_blame 8 = .ok (.iconst 1, 1) := by decide +kernel
theorem dX6_blame_9 : decode cX6_blame 9 = .ok (.bipush 8, 2) := by decide +kernel
theorem dX6_blame_11 : decode cX6_blame 11 = .ok (.iload_n 1, 1) := by decide +kernel
theorem dX6_blame_12 : decode cX6_blame 12 = .ok (.imul, 1) := by decide +kernel
theorem dX6_blame_13 : decode cX6_blame 13 = .ok (.iadd, 1) := by decide +kernel
theorem dX6_blame_14 : decode cX6_blame 14 = .ok (.iload_n 2, 1) := by decide +kernel
theorem dX6_blame_15 : decode cX6_blame 15 = .ok (.iadd, 1) := by decide +kernel
theorem dX6_blame_16 : decode cX6_blame 16 = .ok (.putfield 25, 3) := by decide +kernel
theorem dX6_blame_19 : decode cX6_blame 19 = .ok (.return_, 1) := by decide +kernel
theorem dX6_isFaulty_0 : decode cX6_isFaulty 0 = .ok (.aload_n 0, 1) := by decide +kernel
theorem dX6_isFaulty_1 : decode cX6_isFaulty 1 = .ok (.getfield 25, 3) := by decide +kernel
theorem dX6_isFaulty_4 : decode cX6_isFaulty 4 = .ok (.ifCond .eq 7, 3) := by decide +kernel
theorem dX6_isFaulty_7 : decode cX6_isFaulty 7 = .ok (.iconst 1, 1) := by decide +kernel
theorem dX6_isFaulty_8 : decode cX6_isFaulty 8 = .ok (.goto 4, 3) := by decide +kernel
theorem dX6_isFaulty_11 : decode cX6_isFaulty 11 = .ok (.iconst 0, 1) := by decide +kernel
theorem dX6_isFaulty_12 : decode cX6_isFaulty 12 = .ok (.ireturn, 1) := by decide +kernel
theorem dX6_look_0 : decode cX6_look 0 = .ok (.aload_n 0, 1) := by decide +kernel
theorem dX6_look_1 : decode cX6_look 1 = .ok (.getfield 19, 3) := by decide +kernel
theorem dX6_look_4 : decode cX6_look 4 = .ok (.aload_n 0, 1) := by decide +kernel
theorem dX6_look_5 : decode cX6_look 5 = .ok (.getfield 15, 3) := by decide +kernel
theorem dX6_look_8 : decode cX6_look 8 = .ok (.if_icmp .ge 15, 3) := by decide +kernel
theorem dX6_look_11 : decode cX6_look 11 = .ok (.aload_n 0, 1) := by decide +kernel
theorem dX6_look_12 : decode cX6_look 12 = .ok (.getfield 9, 3) := by decide +kernel
theorem dX6_look_15 : decode cX6_look 15 = .ok (.aload_n 0, 1) := by decide +kernel
theorem dX6_look_16 : decode cX6_look 16 = .ok (.getfield 19, 3) := by decide +kernel
theorem dX6_look_19 : decode cX6_look 19 = .ok (.iaload, 1) := by decide +kernel
theorem dX6_look_20 : decode cX6_look 20 = .ok (.goto 4, 3) := by decide +kernel
theorem dX6_look_23 : decode cX6_look 23 = .ok (.iconst (-1), 1) := by decide +kernel
theorem dX6_look_24 : decode cX6_look 24 = .ok (.ireturn, 1) := by decide +kernel
theorem dX6_lookBehindBlanks_0 : decode cX6_lookBehindBlanks 0 = .ok (.aload_n 0, 1) := by decide +kernel
theorem dX6_lookBehindBlanks_1 : decode cX6_lookBehindBlanks 1 = .ok (.getfield 19, 3) := by decide +kernel
theorem dX6_lookBehindBlanks_4 : decode cX6_lookBehindBlanks 4 = .ok (.aload_n 0, 1) := by decide +kernel
theorem dX6_lookBehindBlanks_5 : decode cX6_lookBehindBlanks 5 = .ok (.getfield 15, 3) := by decide +kernel
theorem dX6_lookBehindBlanks_8 : decode cX6_lookBehindBlanks 8 = .ok (.if_icmp .ge 30, 3) := by decide +kernel
theorem dX6_lookBehindBlanks_11 : decode cX6_lookBehindBlanks 11 = .ok (.aload_n 0, 1) := by decide +kernel
theorem dX6_lookBehindBlanks_12 : decode cX6_lookBehindBlanks 12 = .ok (.getfield 9, 3) := by decide +kernel
theorem dX6_lookBehindBlanks_15 : decode cX6_lookBehindBlanks 15 = .ok (.aload_n 0, 1) := by decide +kernel
theorem dX6_lookBehindBlanks_16 : decode cX6_lookBehindBlanks 16 = .ok (.getfield 19, 3) := by decide +kernel
theorem dX6_lookBehindBlanks_19 : decode cX6_lookBehindBlanks 19 = .ok (.iaload, 1) := by decide +kernel
theorem dX6_lookBehindBlanks_20 : decode cX6_lookBehindBlanks 20 = .ok (.bipush 32, 2) := by decide +kernel
theorem dX6_lookBehindBlanks_22 : decode cX6_lookBehindBlanks 22 = .ok (.if_icmp .ne 16, 3) := by decide +kernel
theorem dX6_lookBehindBlanks_25 : decode cX6_lookBehindBlanks 25 = .ok (.aload_n 0, 1) := by decide +kernel
theorem dX6_lookBehindBlanks_26 : decode cX6_lookBehindBlanks 26 = .ok (.dup, 1) := by decide +kernel
theorem dX6_lookBehindBlanks_27 : decode cX6_lookBehindBlanks 27 = .ok (.getfield 19, 3) := by decide +kernel
theorem dX6_lookBehindBlanks_30 : decode cX6_lookBehindBlanks 30 = .ok (.iconst 1, 1) := by decide +kernel
theorem dX6_lookBehindBlanks_31 : decode cX6_lookBehindBlanks 31 = .ok (.iadd, 1) := by decide +kernel
theorem dX6_lookBehindBlanks_32 : decode cX6_lookBehindBlanks 32 = .ok (.putfield 19, 3) := by decide +kernel
theorem dX6_lookBehindBlanks_35 : decode cX6_lookBehindBlanks 35 = .ok (.goto (-35), 3) := by decide +kernel
theorem dX6_lookBehindBlanks_38 : decode cX6_lookBehindBlanks 38 = .ok (.aload_n 0, 1) := by decide +kernel
theorem dX6_lookBehindBlanks_39 : decode cX6_lookBehindBlanks 39 = .ok (.aload_n 0, 1) := by decide +kernel
theorem dX6_lookBehindBlanks_40 : decode cX6_lookBehindBlanks 40 = .ok (.getfield 19, 3) := by decide +kernel
theorem dX6_lookBehindBlanks_43 : decode cX6_lookBehindBlanks 43 = .ok (.putfield 22, 3) := by decide +kernel
theorem dX6_lookBehindBlanks_46 : decode cX6_lookBehindBlanks 46 = .ok (.aload_n 0, 1) := by decide +kernel
theorem dX6_lookBehindBlanks_47 : decode cX6_lookBehindBlanks 47 = .ok (.getfield 19, 3) := by decide +kernel
theorem dX6_lookBehindBlanks_50 : decode cX6_lookBehindBlanks 50 = .ok (.aload_n 0, 1) := by decide +kernel
theorem dX6_lookBehindBlanks_51 : decode cX6_lookBehindBlanks 51 = .ok (.getfield 15, 3) := by decide +kernel
theorem dX6_lookBehindBlanks_54 : decode cX6_lookBehindBlanks 54 = .ok (.if_icmp .ge 15, 3) := by decide +kernel
theorem dX6_lookBehindBlanks_57 : decode cX6_lookBehindBlanks 57 = .ok (.aload_n 0, 1) := by decide +kernel
theorem dX6_lookBehindBlanks_58 : decode cX6_lookBehindBlanks 58 = .ok (.getfield 9, 3) := by decide +kernel
theorem dX6_lookBehindBlanks_61 : decode cX6_lookBehindBlanks 61 = .ok (.aload_n 0, 1) := by decide +kernel
theorem dX6_lookBehindBlanks_62 : decode cX6_lookBehindBlanks 62 = .ok (.getfield 19, 3) := by decide +kernel
theorem dX6_lookBehindBlanks_65 : decode cX6_lookBehindBlanks 65 = .ok (.iaload, 1) := by decide +kernel
theorem dX6_lookBehindBlanks_66 : decode cX6_lookBehindBlanks 66 = .ok (.goto 4, 3) := by decide +kernel
theorem dX6_lookBehindBlanks_69 : decode cX6_lookBehindBlanks 69 = .ok (.iconst (-1), 1) := by decide +kernel
theorem dX6_lookBehindBlanks_70 : decode cX6_lookBehindBlanks 70 = .ok (.ireturn, 1) := by decide +kernel
theorem dX6_pass_0 : decode cX6_pass 0 = .ok (.aload_n 0, 1) := by decide +kernel
theorem dX6_pass_1 : decode cX6_pass 1 = .ok (.getfield 19, 3) := by decide +kernel
theorem dX6_pass_4 : decode cX6_pass 4 = .ok (.aload_n 0, 1) := by decide +kernel
theorem dX6_pass_5 : decode cX6_pass 5 = .ok (.getfield 15, 3) := by decide +kernel
theorem dX6_pass_8 : decode cX6_pass 8 = .ok (.if_icmp .ge 13, 3) := by decide +kernel
theorem dX6_pass_11 : decode cX6_pass 11 = .ok (.aload_n 0, 1) := by decide +kernel
theorem dX6_pass_12 : decode cX6_pass 12 = .ok (.dup, 1) := by decide +kernel
theorem dX6_pass_13 : decode cX6_pass 13 = .ok (.getfield 19, 3) := by decide +kernel
theorem dX6_pass_16 : decode cX6_pass 16 = .ok (.iconst 1, 1) := by decide +kernel
theorem dX6_pass_17 : decode cX6_pass 17 = .ok (.iadd, 1) := by decide +kernel
theorem dX6_pass_18 : decode cX6_pass 18 = .ok (.putfield 19, 3) := by decide +kernel
theorem dX6_pass_21 : decode cX6_pass 21 = .ok (.return_, 1) := by decide +kernel
set_option maxRecDepth 20000 in
theorem ggX6_takeByte_X6_lookBehindBlanks : GoodIn wsX6_takeByte wsX6_lookBehindBlanks := goodIn_r _ [5, 6, 7, 8, 9, 14, 15, 16, 17, 18] (by decide +kernel) (by decide +kernel)
set_option maxRecDepth 20000 in
theorem gX6_takeByte_X6_lookBehindBlanks : GoodIn wsX6_takeByte (wsV RX6 28 RX6 yX6_lookBehindBlanks wsX6_lookBehindBlanks) := goodIn_app (goodIn_of _ (by decide +kernel)) ggX6_takeByte_X6_lookBehindBlanks
set_option maxRecDepth 20000 in
theorem ggX6_takeByte_X6_pass : GoodIn wsX6_takeByte wsX6_pass := goodIn_r _ [13, 6, 7, 14, 15, 16, 17, 18] (by decide +kernel) (by decide +kernel)
set_option maxRecDepth 20000 in
theorem gX6_takeByte_X6_pass : GoodIn wsX6_takeByte (wsV RX6 32 RX6 yX6_pass wsX6_pass) := goodIn_app (goodIn_of _ (by decide +kernel)) ggX6_takeByte_X6_pass
theorem dX6_takeByte_0 : decode cX6_takeByte 0 = .ok (.aload_n 0, 1) := by decide +kernel
theorem dX6_takeByte_1 : decode cX6_takeByte 1 = .ok (.invokevirtual 28, 3) := by decide +kernel
theorem dX6_takeByte_4 : decode cX6_takeByte 4 = .ok (.iload_n 1, 1) := by decide +kernel
theorem dX6_takeByte_5 : decode cX6_takeByte 5 = .ok (.if_icmp .eq 5, 3) := by decide +kernel
theorem dX6_takeByte_8 : decode cX6_takeByte 8 = .ok (.iconst 0, 1) := by decide +kernel
theorem dX6_takeByte_9 : decode cX6_takeByte 9 = .ok (.ireturn, 1) := by decide +kernel
theorem dX6_takeByte_10 : decode cX6_takeByte 10 = .ok (.aload_n 0, 1) := by decide +kernel
theorem dX6_takeByte_11 : decode cX6_takeByte 11 = .ok (.invokevirtual 32, 3) := by decide +kernel
theorem dX6_takeByte_14 : decode cX6_takeByte 14 = .ok (.iconst 1, 1) := by decide +kernel
theorem dX6_takeByte_15 : decode cX6_takeByte 15 = .ok (.ireturn, 1) := by decide +kernel
set_option maxRecDepth 20000 in
theorem ggX6_blameHere_X6_blame : GoodIn wsX6_blameHere wsX6_blame := goodIn_r _ [6, 7, 8, 9, 10, 11, 12] (by decide +kernel) (by decide +kernel)
set_option maxRecDepth 20000 in
theorem gX6_blameHere_X6_blame : GoodIn wsX6_blameHere (wsV RX6 35 RX6 yX6_blame wsX6_blame) := goodIn_app (goodIn_of _ (by decide +kernel)) ggX6_blameHere_X6_blame
theorem dX6_blameHere_0 : decode cX6_blameHere 0 = .ok (.aload_n 0, 1) := by decide +kernel
theorem dX6_blameHere_1 : decode cX6_blameHere 1 = .ok (.aload_n 0, 1) := by decide +kernel
theorem dX6_blameHere_2 : decode cX6_blameHere 2 = .ok (.getfield 19, 3) := by decide +kernel
theorem dX6_blameHere_5 : decode cX6_blameHere 5 = .ok (.iconst 0, 1) := by decide +kernel
theorem dX6_blameHere_6 : decode cX6_blameHere 6 = .ok (.invokevirtual 35, 3) := by decide +kernel
theorem dX6_blameHere_9 : decode cX6_blameHere 9 = .ok (.return_, 1) := by decide +kernel
set_option maxRecDepth 20000 in
theorem ggX6_takeSemicolon_X6_isFaulty : GoodIn wsX6_takeSemicolon wsX6_isFaulty := goodIn_r _ [5, 6, 35, 36, 37, 38, 39] (by decide +kernel) (by decide +kernel)
set_option maxRecDepth 20000 in
theorem gX6_takeSemicolon_X6_isFaulty : GoodIn wsX6_takeSemicolon (wsV RX6 39 RX6 yX6_isFaulty wsX6_isFaulty) := goodIn_app (goodIn_of _ (by decide +kernel)) ggX6_takeSemicolon_X6_isFaulty
set_option maxRecDepth 20000 in
theorem ggX6_takeSemicolon_X6_takeByte : GoodIn wsX6_takeSemicolon wsX6_takeByte := goodIn_r _ [10, 11, 12, 13, 4, 14, 15, 16, 17, 18, 19, 20, 21, 22, 35, 36, 37, 38, 39] (by decide +kernel) (by decide +kernel)
set_option maxRecDepth 20000 in
theorem gX6_takeSemicolon_X6_takeByte : GoodIn wsX6_takeSemicolon (wsV RX6 43 RX6 yX6_takeByte wsX6_takeByte) := goodIn_app (goodIn_of _ (by decide +kernel)) ggX6_takeSemicolon_X6_takeByte
set_option maxRecDepth 20000 in
theorem ggX6_takeSemicolon_X6_look : GoodIn wsX6_takeSemicolon wsX6_look := goodIn_r _ [26, 15, 16, 17, 35, 36, 37, 38, 39] (by decide +kernel) (by decide +kernel)
set_option maxRecDepth 20000 in
theorem gX6_takeSemicolon_X6_look : GoodIn wsX6_takeSemicolon (wsV RX6 47 RX6 yX6_look wsX6_look) := goodIn_app (goodIn_of _ (by decide +kernel)) ggX6_takeSemicolon_X6_look
set_option maxRecDepth 20000 in
theorem ggX6_takeSemicolon_X6_blameHere : GoodIn wsX6_takeSemicolon wsX6_blameHere := goodIn_r _ [30, 15, 31, 32, 33, 4, 34, 6, 35, 36, 37, 38, 39] (by decide +kernel) (by decide +kernel)
set_option maxRecDepth 20000 in
theorem gX6_takeSemicolon_X6_blameHere : GoodIn wsX6_takeSemicolon (wsV RX6 50 RX6 yX6_blameHere wsX6_blameHere) := goodIn_app (goodIn_of _ (by decide +kernel)) ggX6_takeSemicolon_X6_blameHere
theorem dX6_takeSemicolon_0 : decode cX6_takeSemicolon 0 = .ok (.aload_n 0, 1) := by decide +kernel
theorem dX6_takeSemicolon_1 : decode cX6_takeSemicolon 1 = .ok (.invokevirtual 39, 3) := by decide +kernel
theorem dX6_takeSemicolon_4 : decode cX6_takeSemicolon 4 = .ok (.ifCond .eq 5, 3) := by decide +kernel
theorem dX6_takeSemicolon_7 : decode cX6_takeSemicolon 7 = .ok (.iconst 0, 1) := by decide +kernel
theorem dX6_takeSemicolon_8 : decode cX6_takeSemicolon 8 = .ok (.ireturn, 1) := by decide +kernel
theorem dX6_takeSemicolon_9 : decode cX6_takeSemicolon 9 = .ok (.aload_n 0, 1) := by decide +kernel
theorem dX6_takeSemicolon_10 : decode cX6_takeSemicolon 10 = .ok (.bipush 59, 2) := by decide +kernel
theorem dX6_takeSemicolon_12 : decode cX6_takeSemicolon 12 = .ok (.invokevirtual 43, 3) := by decide +kernel
theorem dX6_takeSemicolon_15 : decode cX6_takeSemicolon 15 = .ok (.ifCond .eq 5, 3) := by decide +kernel
theorem dX6_takeSemicolon_18 : decode cX6_takeSemicolon 18 = .ok (.iconst 1, 1) := by decide +kernel
theorem dX6_takeSemicolon_19 : decode cX6_takeSemicolon 19 = .ok (.ireturn, 1) := by decide +kernel
theorem dX6_takeSemicolon_20 : decode cX6_takeSemicolon 20 = .ok (.aload_n 0, 1) := by decide +kernel
theorem dX6_takeSemicolon_21 : decode cX6_takeSemicolon 21 = .ok (.invokevirtual 47, 3) := by decide +kernel
theorem dX6_takeSemicolon_24 : decode cX6_takeSemicolon 24 = .ok (.iconst (-1), 1) := by decide +kernel
theorem dX6_takeSemicolon_25 : decode cX6_takeSemicolon 25 = .ok (.if_icmp .eq 7, 3) := by decide +kernel
theorem dX6_takeSemicolon_28 : decode cX6_takeSemicolon 28 = .ok (.aload_n 0, 1) := by decide +kernel
theorem dX6_takeSemicolon_29 : decode cX6_takeSemicolon 29 = .ok (.invokevirtual 50, 3) := by decide +kernel
theorem dX6_takeSemicolon_32 : decode cX6_takeSemicolon 32 = .ok (.iconst 0, 1) := by decide +kernel
theorem dX6_takeSemicolon_33 : decode cX6_takeSemicolon 33 = .ok (.ireturn, 1) := by decide +kernel
theorem dX6_isDigit_0 : decode cX6_isDigit 0 = .ok (.iload_n 0, 1) := by decide +kernel
theorem dX6_isDigit_1 : decode cX6_isDigit 1 = .ok (.bipush 48, 2) := by decide +kernel
theorem dX6_isDigit_3 : decode cX6_isDigit 3 = .ok (.if_icmp .lt 13, 3) := by decide +kernel
theorem dX6_isDigit_6 : decode cX6_isDigit 6 = .ok (.iload_n 0, 1) := by decide +kernel
theorem dX6_isDigit_7 : decode cX6_isDigit 7 = .ok (.bipush 57, 2) := by decide +kernel
theorem dX6_isDigit_9 : decode cX6_isDigit 9 = .ok (.if_icmp .gt 7, 3) := by decide +kernel
theorem dX6_isDigit_12 : decode cX6_isDigit 12 = .ok (.iconst 1, 1) := by decide +kernel
theorem dX6_isDigit_13 : decode cX6_isDigit 13 = .ok (.goto 4, 3) := by decide +kernel
theorem dX6_isDigit_16 : decode cX6_isDigit 16 = .ok (.iconst 0, 1) := by decide +kernel
theorem dX6_isDigit_17 : decode cX6_isDigit 17 = .ok (.ireturn, 1) := by decide +kernel
theorem dX6_endOfWord_0 : decode cX6_endOfWord 0 = .ok (.aload_n 0, 1) := by decide +kernel
theorem dX6_endOfWord_1 : decode cX6_endOfWord 1 = .ok (.getfield 19, 3) := by decide +kernel
theorem dX6_endOfWord_4 : decode cX6_endOfWord 4 = .ok (.istore_n 1, 1) := by decide +kernel
theorem dX6_endOfWord_5 : decode cX6_endOfWord 5 = .ok (.iload_n 1, 1) := by decide +kernel
theorem dX6_endOfWord_6 : decode cX6_endOfWord 6 = .ok (.aload_n 0, 1) := by decide +kernel
theorem dX6_endOfWord_7 : decode cX6_endOfWord 7 = .ok (.getfield 15, 3) := by decide +kernel
theorem dX6_endOfWord_10 : decode cX6_endOfWord 10 = .ok (.if_icmp .ge 31, 3) := by decide +kernel
theorem dX6_endOfWord_13 : decode cX6_endOfWord 13 = .ok (.aload_n 0, 1) := by decide +kernel
theorem dX6_endOfWord_14 : decode cX6_endOfWord 14 = .ok (.getfield 9, 3) := by decide +kernel
theorem dX6_endOfWord_17 : decode cX6_endOfWord 17 = .ok (.iload_n 1, 1) := by decide +kernel
theorem dX6_endOfWord_18 : decode cX6_endOfWord 18 = .ok (.iaload, 1) := by decide +kernel
theorem dX6_endOfWord_19 : decode cX6_endOfWord 19 = .ok (.bipush 97, 2) := by decide +kernel
theorem dX6_endOfWord_21 : decode cX6_endOfWord 21 = .ok (.if_icmp .lt 20, 3) := by decide +kernel
theorem dX6_endOfWord_24 : decode cX6_endOfWord 24 = .ok (.aload_n 0, 1) := by decide +kernel
theorem dX6_endOfWord_25 : decode cX6_endOfWord 25 = .ok (.getfield 9, 3) := by decide +kernel
theorem dX6_endOfWord_28 : decode cX6_endOfWord 28 = .ok (.iload_n 1, 1) := by decide +kernel
theorem dX6_endOfWord_29 : decode cX6_endOfWord 29 = .ok (.iaload, 1) := by decide +kernel
theorem dX6_endOfWord_30 : decode cX6_endOfWord 30 = .ok (.bipush 122, 2) := by decide +kernel
theorem dX6_endOfWord_32 : decode cX6_endOfWord 32 = .ok (.if_icmp .gt 9, 3) := by decide +kernel
theorem dX6_endOfWord_35 : decode cX6_endOfWord 35 = .ok (.iinc 1 1, 3) := by decide +kernel
theorem dX6_endOfWord_38 : decode cX6_endOfWord 38 = .ok (.goto (-33), 3) := by decide +kernel
theorem dX6_endOfWord_41 : decode cX6_endOfWord 41 = .ok (.iload_n 1, 1) := by decide +kernel
theorem dX6_endOfWord_42 : decode cX6_endOfWord 42 = .ok (.ireturn, 1) := by decide +kernel
set_option maxRecDepth 20000 in
theorem ggX6_takeWord_X6_lookBehindBlanks : GoodIn wsX6_takeWord wsX6_lookBehindBlanks := goodIn_r _ [7, 1, 8, 2, 9, 63, 64, 65, 66, 67] (by decide +kernel) (by decide +kernel)
set_option maxRecDepth 20000 in
theorem gX6_takeWord_X6_lookBehindBlanks : GoodIn wsX6_takeWord (wsV RX6 28 RX6 yX6_lookBehindBlanks wsX6_lookBehindBlanks) := goodIn_app (goodIn_of _ (by decide +kernel)) ggX6_takeWord_X6_lookBehindBlanks
set_option maxRecDepth 20000 in
theorem ggX6_takeWord_X6_endOfWord : GoodIn wsX6_takeWord wsX6_endOfWord := goodIn_r _ [13, 1, 8, 2, 63, 64, 65, 66, 67] (by decide +kernel) (by decide +kernel)
set_option maxRecDepth 20000 in
theorem gX6_takeWord_X6_endOfWord : GoodIn wsX6_takeWord (wsV RX6 53 RX6 yX6_endOfWord wsX6_endOfWord) := goodIn_app (goodIn_of _ (by decide +kernel)) ggX6_takeWord_X6_endOfWord
set_option maxRecDepth 20000 in
theorem ggX6_takeWord_J0_length_8abf5 : GoodIn wsX6_takeWord wsJ0_length_8abf5 := goodIn_r _ [18, 19, 20, 21, 22, 17, 23, 24, 25] (by decide +kernel) (by decide +kernel)
set_option maxRecDepth 20000 in
theorem gX6_takeWord_J0_length_8abf5 : GoodIn wsX6_takeWord (wsV RX6 56 RJ0 yJ0_length_8abf5 wsJ0_length_8abf5) := goodIn_app (goodIn_of _ (by decide +kernel)) ggX6_takeWord_J0_length_8abf5
set_option maxRecDepth 20000 in
theorem ggX6_takeWord_J0_charAt_5068e : GoodIn wsX6_takeWord wsJ0_charAt_5068e := goodIn_r _ [29, 19, 30, 31, 32, 17, 33, 24, 25, 34, 35, 36, 37, 38, 39, 40, 41, 42, 43, 44, 45, 46, 47, 48, 49, 50, 51, 52, 53, 54, 55, 56, 57, 58, 59, 60, 61, 62] (by decide +kernel) (by decide +kernel)
set_option maxRecDepth 20000 in
theorem gX6_takeWord_J0_charAt_5068e : GoodIn wsX6_takeWord (wsV RX6 60 RJ0 yJ0_charAt_5068e wsJ0_charAt_5068e) := goodIn_app (goodIn_of _ (by decide +kernel)) ggX6_takeWord_J0_charAt_5068e
theorem dX6_takeWord_0 : decode cX6_takeWord 0 = .ok (.aload_n 0, 1) := by decide +kernel
theorem dX6_takeWord_1 : decode cX6_takeWord 1 = .ok (.invokevirtual 28, 3) := by decide +kernel
theorem dX6_takeWord_4 : decode cX6_takeWord 4 = .ok (.pop, 1) := by decide +kernel
theorem dX6_takeWord_5 : decode cX6_takeWord 5 = .ok (.aload_n 0, 1) := by decide +kernel
theorem dX6_takeWord_6 : decode cX6_takeWord 6 = .ok (.invokevirtual 53, 3) := by decide +kernel
theorem dX6_takeWord_9 : decode cX6_takeWord 9 = .ok (.istore_n 2, 1) := by decide +kernel
theorem dX6_takeWord_10 : decode cX6_takeWord 10 = .ok (.iload_n 2, 1) := by decide +kernel
theorem dX6_takeWord_11 : decode cX6_takeWord 11 = .ok (.aload_n 0, 1) := by decide +kernel
theorem dX6_takeWord_12 : decode cX6_takeWord 12 = .ok (.getfield 19, 3) := by decide +kernel
theorem dX6_takeWord_15 : decode cX6_takeWord 15 = .ok (.isub, 1) := by decide +kernel
theorem dX6_takeWord_16 : decode cX6_takeWord 16 = .ok (.aload_n 1, 1) := by decide +kernel
theorem dX6_takeWord_17 : decode cX6_takeWord 17 = .ok (.invokevirtual 56, 3) := by decide +kernel
theorem dX6_takeWord_20 : decode cX6_takeWord 20 = .ok (.if_icmp .eq 5, 3) := by decide +kernel
theorem dX6_takeWord_23 : decode cX6_takeWord 23 = .ok (.iconst 0, 1) := by decide +kernel
theorem dX6_takeWord_24 : decode cX6_takeWord 24 = .ok (.ireturn, 1) := by decide +kernel
theorem dX6_takeWord_25 : decode cX6_takeWord 25 = .ok (.iconst 0, 1) := by decide +kernel
theorem dX6_takeWord_26 : decode cX6_takeWord 26 = .ok (.istore_n 3, 1) := by decide +kernel
theorem dX6_takeWord_27 : decode cX6_takeWord 27 = .ok (.iload_n 3, 1) := by decide +kernel
theorem dX6_takeWord_28 : decode cX6_takeWord 28 = .ok (.aload_n 1, 1) := by decide +kernel
theorem dX6_takeWord_29 : decode cX6_takeWord 29 = .ok (.invokevirtual 56, 3) := by decide +kernel
theorem dX6_takeWord_32 : decode cX6_takeWord 32 = .ok (.if_icmp .ge 30, 3) := by decide +kernel
theorem dX6_takeWord_35 : decode cX6_takeWord 35 = .ok (.aload_n 0, 1) := by decide +kernel
theorem dX6_takeWord_36 : decode cX6_takeWord 36 = .ok (.getfield 9, 3) := by decide +kernel
theorem dX6_takeWord_39 : decode cX6_takeWord 39 = .ok (.aload_n 0, 1) := by decide +kernel
theorem dX6_takeWord_40 : decode cX6_takeWord 40 = .ok (.getfield 19, 3) := by decide +kernel
theorem dX6_takeWord_43 : decode cX6_takeWord 43 = .ok (.iload_n 3, 1) := by decide +kernel
theorem dX6_takeWord_44 : decode cX6_takeWord 44 = .ok (.iadd, 1) := by decide +kernel
theorem dX6_takeWord_45 : decode cX6_takeWord 45 = .ok (.iaload, 1) := by decide +kernel
theorem dX6_takeWord_46 : decode cX6_takeWord 46 = .ok (.aload_n 1, 1) := by decide +kernel
theorem dX6_takeWord_47 : decode cX6_takeWord 47 = .ok (.iload_n 3, 1) := by decide +kernel
theorem dX6_takeWord_48 : decode cX6_takeWord 48 = .ok (.invokevirtual 60, 3) := by decide +kernel
theorem dX6_takeWord_51 : decode cX6_takeWord 51 = .ok (.if_icmp .eq 5, 3) := by decide +kernel
theorem dX6_takeWord_54 : decode cX6_takeWord 54 = .ok (.iconst 0, 1) := by decide +kernel
theorem dX6_takeWord_55 : decode cX6_takeWord 55 = .ok (.ireturn, 1) := by decide +kernel
theorem dX6_takeWord_56 : decode cX6_takeWord 56 = .ok (.iinc 3 1, 3) := by decide +kernel
theorem dX6_takeWord_59 : decode cX6_takeWord 59 = .ok (.goto (-32), 3) := by decide +kernel
theorem dX6_takeWord_62 : decode cX6_takeWord 62 = .ok (.aload_n 0, 1) := by decide +kernel
theorem dX6_takeWord_63 : decode cX6_takeWord 63 = .ok (.iload_n 2, 1) := by decide +kernel
theorem dX6_takeWord_64 : decode cX6_takeWord 64 = .ok (.putfield 19, 3) := by decide +kernel
theorem dX6_takeWord_67 : decode cX6_takeWord 67 = .ok (.iconst 1, 1) := by decide +kernel
theorem dX6_takeWord_68 : decode cX6_takeWord 68 = .ok (.ireturn, 1) := by decide +kernel
set_option maxRecDepth 20000 in
theorem ggX6_readWord_X6_lookBehindBlanks : GoodIn wsX6_readWord wsX6_lookBehindBlanks := goodIn_r _ [8, 1, 9, 2, 3, 68, 69, 70, 71, 72] (by decide +kernel) (by decide +kernel)
set_option maxRecDepth 20000 in
theorem gX6_readWord_X6_lookBehindBlanks : GoodIn wsX6_readWord (wsV RX6 28 RX6 yX6_lookBehindBlanks wsX6_lookBehindBlanks) := goodIn_app (goodIn_of _ (by decide +kernel)) ggX6_readWord_X6_lookBehindBlanks
set_option maxRecDepth 20000 in
theorem ggX6_readWord_X6_endOfWord : GoodIn wsX6_readWord wsX6_endOfWord := goodIn_r _ [13, 1, 9, 2, 68, 69, 70, 71, 72] (by decide +kernel) (by decide +kernel)
set_option maxRecDepth 20000 in
theorem gX6_readWord_X6_endOfWord : GoodIn wsX6_readWord (wsV RX6 53 RX6 yX6_endOfWord wsX6_endOfWord) := goodIn_app (goodIn_of _ (by decide +kernel)) ggX6_readWord_X6_endOfWord
set_option maxRecDepth 20000 in
theorem ggX6_readWord_J0_length_8abf5 : GoodIn wsX6_readWord wsJ0_length_8abf5 := goodIn_r _ [18, 19, 20, 21, 22, 17, 23, 24, 25] (by decide +kernel) (by decide +kernel)
set_option maxRecDepth 20000 in
theorem gX6_readWord_J0_length_8abf5 : GoodIn wsX6_readWord (wsV RX6 56 RJ0 yJ0_length_8abf5 wsJ0_length_8abf5) := goodIn_app (goodIn_of _ (by decide +kernel)) ggX6_readWord_J0_length_8abf5
set_option maxRecDepth 20000 in
theorem ggX6_readWord_J0_charAt_5068e : GoodIn wsX6_readWord wsJ0_charAt_5068e := goodIn_r _ [29, 19, 30, 31, 32, 17, 33, 24, 25, 34, 35, 36, 37, 38, 39, 40, 41, 42, 43, 44, 45, 46, 47, 48, 49, 50, 51, 52, 53, 54, 55, 56, 57, 58, 59, 60, 61, 62] (by decide +kernel) (by decide +kernel)
set_option maxRecDepth 20000 in
theorem gX6_readWord_J0_charAt_5068e : GoodIn wsX6_readWord (wsV RX6 60 RJ0 yJ0_charAt_5068e wsJ0_charAt_5068e) := goodIn_app (goodIn_of _ (by decide +kernel)) ggX6_readWord_J0_charAt_5068e
set_option maxRecDepth 20000 in
theorem ggX6_readWord_X6_blame : GoodIn wsX6_readWord wsX6_blame := goodIn_r _ [66, 67, 68, 69, 70, 71, 72] (by decide +kernel) (by decide +kernel)
set_option maxRecDepth 20000 in
theorem gX6_readWord_X6_blame : GoodIn wsX6_readWord (wsV RX6 35 RX6 yX6_blame wsX6_blame) := goodIn_app (goodIn_of _ (by decide +kernel)) ggX6_readWord_X6_blame
theorem dX6_readWord_0 : decode cX6_readWord 0 = .ok (.aload_n 0, 1) := by decide +kernel
theorem dX6_readWord_1 : decode cX6_readWord 1 = .ok (.invokevirtual 28, 3) := by decide +kernel
theorem dX6_readWord_4 : decode cX6_readWord 4 = .ok (.pop, 1) := by decide +kernel
theorem dX6_readWord_5 : decode cX6_readWord 5 = .ok (.aload_n 0, 1) := by decide +kernel
theorem dX6_readWord_6 : decode cX6_readWord 6 = .ok (.invokevirtual 53, 3) := by decide +kernel
theorem dX6_readWord_9 : decode cX6_readWord 9 = .ok (.istore_n 2, 1) := by decide +kernel
theorem dX6_readWord_10 : decode cX6_readWord 10 = .ok (.iconst 0, 1) := by decide +kernel
theorem dX6_readWord_11 : decode cX6_readWord 11 = .ok (.istore_n 3, 1) := by decide +kernel
theorem dX6_readWord_12 : decode cX6_readWord 12 = .ok (.aload_n 0, 1) := by decide +kernel
theorem dX6_readWord_13 : decode cX6_readWord 13 = .ok (.getfield 19, 3) := by decide +kernel
theorem dX6_readWord_16 : decode cX6_readWord 16 = .ok (.istore 4, 2) := by decide +kernel
theorem dX6_readWord_18 : decode cX6_readWord 18 = .ok (.iconst 1, 1) := by decide +kernel
theorem dX6_readWord_19 : decode cX6_readWord 19 = .ok (.istore 5, 2) := by decide +kernel
theorem dX6_readWord_21 : decode cX6_readWord 21 = .ok (.iconst 0, 1) := by decide +kernel
theorem dX6_readWord_22 : decode cX6_readWord 22 = .ok (.istore 6, 2) := by decide +kernel
theorem dX6_readWord_24 : decode cX6_readWord 24 = .ok (.iload 6, 2) := by decide +kernel
theorem dX6_readWord_26 : decode cX6_readWord 26 = .ok (.aload_n 1, 1) := by decide +kernel
theorem dX6_readWord_27 : decode cX6_readWord 27 = .ok (.invokevirtual 56, 3) := by decide +kernel
theorem dX6_readWord_30 : decode cX6_readWord 30 = .ok (.if_icmp .ge 90, 3) := by decide +kernel
theorem dX6_readWord_33 : decode cX6_readWord 33 = .ok (.aload_n 1, 1) := by decide +kernel
theorem dX6_readWord_34 : decode cX6_readWord 34 = .ok (.iload 6, 2) := by decide +kernel
theorem dX6_readWord_36 : decode cX6_readWord 36 = .ok (.invokevirtual 60, 3) := by decide +kernel
theorem dX6_readWord_39 : decode cX6_readWord 39 = .ok (.istore 7, 2) := by decide +kernel
theorem dX6_readWord_41 : decode cX6_readWord 41 = .ok (.iload 7, 2) := by decide +kernel
theorem dX6_readWord_43 : decode cX6_readWord 43 = .ok (.bipush 32, 2) := by decide +kernel
theorem dX6_readWord_45 : decode cX6_readWord 45 = .ok (.if_icmp .eq 39, 3) := by decide +kernel
theorem dX6_readWord_48 : decode cX6_readWord 48 = .ok (.iload 5, 2) := by decide +kernel
theorem dX6_readWord_50 : decode cX6_readWord 50 = .ok (.ifCond .eq 25, 3) := by decide +kernel
theorem dX6_readWord_53 : decode cX6_readWord 53 = .ok (.iload 4, 2) := by decide +kernel
theorem dX6_readWord_55 : decode cX6_readWord 55 = .ok (.iload_n 2, 1) := by decide +kernel
theorem dX6_readWord_56 : decode cX6_readWord 56 = .ok (.if_icmp .ge 19, 3) := by decide +kernel
theorem dX6_readWord_59 : decode cX6_readWord 59 = .ok (.aload_n 0, 1) := by decide +kernel
theorem dX6_readWord_60 : decode cX6_readWord 60 = .ok (.getfield 9, 3) := by decide +kernel
theorem dX6_readWord_63 : decode cX6_readWord 63 = .ok (.iload 4, 2) := by decide +kernel
theorem dX6_readWord_65 : decode cX6_readWord 65 = .ok (.iaload, 1) := by decide +kernel
theorem dX6_readWord_66 : decode cX6_readWord 66 = .ok (.iload 7, 2) := by decide +kernel
theorem dX6_readWord_68 : decode cX6_readWord 68 = .ok (.if_icmp .ne 7, 3) := by decide +kernel
theorem dX6_readWord_71 : decode cX6_readWord 71 = .ok (.iconst 1, 1) := by decide +kernel
theorem dX6_readWord_72 : decode cX6_readWord 72 = .ok (.goto 4, 3) := by decide +kernel
theorem dX6_readWord_75 : decode cX6_readWord 75 = .ok (.iconst 0, 1) := by decide +kernel
theorem dX6_readWord_76 : decode cX6_readWord 76 = .ok (.istore 5, 2) := by decide +kernel
theorem dX6_readWord_78 : decode cX6_readWord 78 = .ok (.iinc 4 1, 3) := by decide +kernel
theorem dX6_readWord_81 : decode cX6_readWord 81 = .ok (.goto 33, 3) := by decide +kernel
theorem dX6_readWord_84 : decode cX6_readWord 84 = .ok (.iload 5, 2) := by decide +kernel
theorem dX6_readWord_86 : decode cX6_readWord 86 = .ok (.ifCond .eq 16, 3) := by decide +kernel
theorem dX6_readWord_89 : decode cX6_readWord 89 = .ok (.iload 4, 2) := by decide +kernel
theorem dX6_readWord_91 : decode cX6_readWord 91 = .ok (.iload_n 2, 1) := by decide +kernel
theorem dX6_readWord_92 : decode cX6_readWord 92 = .ok (.if_icmp .ne 10, 3) := by decide +kernel
theorem dX6_readWord_95 : decode cX6_readWord 95 = .ok (.aload_n 0, 1) := by decide +kernel
theorem dX6_readWord_96 : decode cX6_readWord 96 = .ok (.iload_n 2, 1) := by decide +kernel
theorem dX6_readWord_97 : decode cX6_readWord 97 = .ok (.putfield 19, 3) := by decide +kernel
theorem dX6_readWord_100 : decode cX6_readWord 100 = .ok (.iload_n 3, 1) := by decide +kernel
theorem dX6_readWord_101 : decode cX6_readWord 101 = .ok (.ireturn, 1) := by decide +kernel
theorem dX6_readWord_102 : decode cX6_readWord 102 = .ok (.iinc 3 1, 3) := by decide +kernel
theorem dX6_readWord_105 : decode cX6_readWord 105 = .ok (.aload_n 0, 1) := by decide +kernel
theorem dX6_readWord_106 : decode cX6_readWord 106 = .ok (.getfield 19, 3) := by decide +kernel
theorem dX6_readWord_109 : decode cX6_readWord 109 = .ok (.istore 4, 2) := by decide +kernel
theorem dX6_readWord_111 : decode cX6_readWord 111 = .ok (.iconst 1, 1) := by decide +kernel
theorem dX6_readWord_112 : decode cX6_readWord 112 = .ok (.istore 5, 2) := by decide +kernel
theorem dX6_readWord_114 : decode cX6_readWord 114 = .ok (.iinc 6 1, 3) := by decide +kernel
theorem dX6_readWord_117 : decode cX6_readWord 117 = .ok (.goto (-93), 3) := by decide +kernel
theorem dX6_readWord_120 : decode cX6_readWord 120 = .ok (.aload_n 0, 1) := by decide +kernel
theorem dX6_readWord_121 : decode cX6_readWord 121 = .ok (.aload_n 0, 1) := by decide +kernel
theorem dX6_readWord_122 : decode cX6_readWord 122 = .ok (.getfield 22, 3) := by decide +kernel
theorem dX6_readWord_125 : decode cX6_readWord 125 = .ok (.iconst 0, 1) := by decide +kernel
theorem dX6_readWord_126 : decode cX6_readWord 126 = .ok (.invokevirtual 35, 3) := by decide +kernel
theorem dX6_readWord_129 : decode cX6_readWord 129 = .ok (.iconst (-1), 1) := by decide +kernel
theorem dX6_readWord_130 : decode cX6_readWord 130 = .ok (.ireturn, 1) := by decide +kernel
set_option maxRecDepth 20000 in
theorem ggX6_readNumber_X6_isFaulty : GoodIn wsX6_readNumber wsX6_isFaulty := goodIn_r _ [9, 10, 22, 23, 24, 25, 26] (by decide +kernel) (by decide +kernel)
set_option maxRecDepth 20000 in
theorem gX6_readNumber_X6_isFaulty : GoodIn wsX6_readNumber (wsV RX6 39 RX6 yX6_isFaulty wsX6_isFaulty) := goodIn_app (goodIn_of _ (by decide +kernel)) ggX6_readNumber_X6_isFaulty
set_option maxRecDepth 20000 in
theorem ggX6_readNumber_X6_lookBehindBlanks : GoodIn wsX6_readNumber wsX6_lookBehindBlanks := goodIn_r _ [14, 2, 3, 4, 1, 22, 23, 24, 25, 26] (by decide +kernel) (by decide +kernel)
set_option maxRecDepth 20000 in
theorem gX6_readNumber_X6_lookBehindBlanks : GoodIn wsX6_readNumber (wsV RX6 28 RX6 yX6_lookBehindBlanks wsX6_lookBehindBlanks) := goodIn_app (goodIn_of _ (by decide +kernel)) ggX6_readNumber_X6_lookBehindBlanks
set_option maxRecDepth 20000 in
theorem ggX6_readNumber_X6_isDigit : GoodIn wsX6_readNumber wsX6_isDigit := goodIn_r _ [17] (by decide +kernel) (by decide +kernel)
set_option maxRecDepth 20000 in
theorem gX6_readNumber_X6_isDigit : GoodIn wsX6_readNumber (va_wsS RX6 64 yX6_isDigit wsX6_isDigit) := goodIn_app (goodIn_of _ (by decide +kernel)) ggX6_readNumber_X6_isDigit
set_option maxRecDepth 20000 in
theorem ggX6_readNumber_X6_blame : GoodIn wsX6_readNumber wsX6_blame := goodIn_r _ [21, 10, 22, 23, 24, 25, 26] (by decide +kernel) (by decide +kernel)
set_option maxRecDepth 20000 in
theorem gX6_readNumber_X6_blame : GoodIn wsX6_readNumber (wsV RX6 35 RX6 yX6_blame wsX6_blame) := goodIn_app (goodIn_of _ (by decide +kernel)) ggX6_readNumber_X6_blame
theorem dX6_readNumber_0 : decode cX6_readNumber 0 = .ok (.aload_n 0, 1) := by decide +kernel
theorem dX6_readNumber_1 : decode cX6_readNumber 1 = .ok (.invokevirtual 39, 3) := by decide +kernel
theorem dX6_readNumber_4 : decode cX6_readNumber 4 = .ok (.ifCond .eq 5, 3) := by decide +kernel
theorem dX6_readNumber_7 : decode cX6_readNumber 7 = .ok (.iconst (-1), 1) := by decide +kernel
theorem dX6_readNumber_8 : decode cX6_readNumber 8 = .ok (.ireturn, 1) := by decide +kernel
theorem dX6_readNumber_9 : decode cX6_readNumber 9 = .ok (.aload_n 0, 1) := by decide +kernel
theorem dX6_readNumber_10 : decode cX6_readNumber 10 = .ok (.invokevirtual 28, 3) := by decide +kernel
theorem dX6_readNumber_13 : decode cX6_readNumber 13 = .ok (.invokestatic 64, 3) := by decide +kernel
theorem dX6_readNumber_16 : decode cX6_readNumber 16 = .ok (.ifCond .ne 14, 3) := by decide +kernel
theorem dX6_readNumber_19 : decode cX6_readNumber 19 = .ok (.aload_n 0, 1) := by decide +kernel
theorem dX6_readNumber_20 : decode cX6_readNumber 20 = .ok (.aload_n 0, 1) := by decide +kernel
theorem dX6_readNumber_21 : decode cX6_readNumber 21 = .ok (.getfield 22, 3) := by decide +kernel
theorem dX6_readNumber_24 : decode cX6_readNumber 24 = .ok (.iconst 0, 1) := by decide +kernel
theorem dX6_readNumber_25 : decode cX6_readNumber 25 = .ok (.invokevirtual 35, 3) := by decide +kernel
theorem dX6_readNumber_28 : decode cX6_readNumber 28 = .ok (.iconst (-1), 1) := by decide +kernel
theorem dX6_readNumber_29 : decode cX6_readNumber 29 = .ok (.ireturn, 1) := by decide +kernel
theorem dX6_readNumber_30 : decode cX6_readNumber 30 = .ok (.iconst 0, 1) := by decide +kernel
theorem dX6_readNumber_31 : decode cX6_readNumber 31 = .ok (.istore_n 3, 1) := by decide +kernel
theorem dX6_readNumber_32 : decode cX6_readNumber 32 = .ok (.aload_n 0, 1) := by decide +kernel
theorem dX6_readNumber_33 : decode cX6_readNumber 33 = .ok (.getfield 19, 3) := by decide +kernel
theorem dX6_readNumber_36 : decode cX6_readNumber 36 = .ok (.aload_n 0, 1) := by decide +kernel
theorem dX6_readNumber_37 : decode cX6_readNumber 37 = .ok (.getfield 15, 3) := by decide +kernel
theorem dX6_readNumber_40 : decode cX6_readNumber 40 = .ok (.if_icmp .ge 62, 3) := by decide +kernel
theorem dX6_readNumber_43 : decode cX6_readNumber 43 = .ok (.aload_n 0, 1) := by decide +kernel
theorem dX6_readNumber_44 : decode cX6_readNumber 44 = .ok (.getfield 9, 3) := by decide +kernel
theorem dX6_readNumber_47 : decode cX6_readNumber 47 = .ok (.aload_n 0, 1) := by decide +kernel
theorem dX6_readNumber_48 : decode cX6_readNumber 48 = .ok (.getfield 19, 3) := by decide +kernel
theorem dX6_readNumber_51 : decode cX6_readNumber 51 = .ok (.iaload, 1) := by decide +kernel
theorem dX6_readNumber_52 : decode cX6_readNumber 52 = .ok (.invokestatic 64, 3) := by decide +kernel
theorem dX6_readNumber_55 : decode cX6_readNumber 55 = .ok (.ifCond .eq 47, 3) := by decide +kernel
theorem dX6_readNumber_58 : decode cX6_readNumber 58 = .ok (.aload_n 0, 1) := by decide +kernel
theorem dX6_readNumber_59 : decode cX6_readNumber 59 = .ok (.getfield 19, 3) := by decide +kernel
theorem dX6_readNumber_62 : decode cX6_readNumber 62 = .ok (.aload_n 0, 1) := by decide +kernel
theorem dX6_readNumber_63 : decode cX6_readNumber 63 = .ok (.getfield 22, 3) := by decide +kernel
theorem dX6_readNumber_66 : decode cX6_readNumber 66 = .ok (.isub, 1) := by decide +kernel
theorem dX6_readNumber_67 : decode cX6_readNumber 67 = .ok (.iconst 5, 1) := by decide +kernel
theorem dX6_readNumber_68 : decode cX6_readNumber 68 = .ok (.if_icmp .ge 21, 3) := by decide +kernel
theorem dX6_readNumber_71 : decode cX6_readNumber 71 = .ok (.iload_n 3, 1) := by decide +kernel
theorem dX6_readNumber_72 : decode cX6_readNumber 72 = .ok (.bipush 10, 2) := by decide +kernel
theorem dX6_readNumber_74 : decode cX6_readNumber 74 = .ok (.imul, 1) := by decide +kernel
theorem dX6_readNumber_75 : decode cX6_readNumber 75 = .ok (.aload_n 0, 1) := by decide +kernel
theorem dX6_readNumber_76 : decode cX6_readNumber 76 = .ok (.getfield 9, 3) := by decide +kernel
theorem dX6_readNumber_79 : decode cX6_readNumber 79 = .ok (.aload_n 0, 1) := by decide +kernel
theorem dX6_readNumber_80 : decode cX6_readNumber 80 = .ok (.getfield 19, 3) := by decide +kernel
theorem dX6_readNumber_83 : decode cX6_readNumber 83 = .ok (.iaload, 1) := by decide +kernel
theorem dX6_readNumber_84 : decode cX6_readNumber 84 = .ok (.iadd, 1) := by decide +kernel
theorem dX6_readNumber_85 : decode cX6_readNumber 85 = .ok (.bipush 48, 2) := by decide +kernel
theorem dX6_readNumber_87 : decode cX6_readNumber 87 = .ok (.isub, 1) := by decide +kernel
theorem dX6_readNumber_88 : decode cX6_readNumber 88 = .ok (.istore_n 3, 1) := by decide +kernel
theorem dX6_readNumber_89 : decode cX6_readNumber 89 = .ok (.aload_n 0, 1) := by decide +kernel
theorem dX6_readNumber_90 : decode cX6_readNumber 90 = .ok (.dup, 1) := by decide +kernel
theorem dX6_readNumber_91 : decode cX6_readNumber 91 = .ok (.getfield 19, 3) := by decide +kernel
theorem dX6_readNumber_94 : decode cX6_readNumber 94 = .ok (.iconst 1, 1) := by decide +kernel
theorem dX6_readNumber_95 : decode cX6_readNumber 95 = .ok (.iadd, 1) := by decide +kernel
theorem dX6_readNumber_96 : decode cX6_readNumber 96 = .ok (.putfield 19, 3) := by decide +kernel
theorem dX6_readNumber_99 : decode cX6_readNumber 99 = .ok (.goto (-67), 3) := by decide +kernel
theorem dX6_readNumber_102 : decode cX6_readNumber 102 = .ok (.aload_n 0, 1) := by decide +kernel
theorem dX6_readNumber_103 : decode cX6_readNumber 103 = .ok (.getfield 19, 3) := by decide +kernel
theorem dX6_readNumber_106 : decode cX6_readNumber 106 = .ok (.aload_n 0, 1) := by decide +kernel
theorem dX6_readNumber_107 : decode cX6_readNumber 107 = .ok (.getfield 22, 3) := by decide +kernel
theorem dX6_readNumber_110 : decode cX6_readNumber 110 = .ok (.isub, 1) := by decide +kernel
theorem dX6_readNumber_111 : decode cX6_readNumber 111 = .ok (.iconst 5, 1) := by decide +kernel
theorem dX6_readNumber_112 : decode cX6_readNumber 112 = .ok (.if_icmp .gt 13, 3) := by decide +kernel
theorem dX6_readNumber_115 : decode cX6_readNumber 115 = .ok (.iload_n 3, 1) := by decide +kernel
theorem dX6_readNumber_116 : decode cX6_readNumber 116 = .ok (.iload_n 1, 1) := by decide +kernel
theorem dX6_readNumber_117 : decode cX6_readNumber 117 = .ok (.if_icmp .lt 8, 3) := by decide +kernel
theorem dX6_readNumber_120 : decode cX6_readNumber 120 = .ok (.iload_n 3, 1) := by decide +kernel
theorem dX6_readNumber_121 : decode cX6_readNumber 121 = .ok (.iload_n 2, 1) := by decide +kernel
theorem dX6_readNumber_122 : decode cX6_readNumber 122 = .ok (.if_icmp .le 14, 3) := by decide +kernel
theorem dX6_readNumber_125 : decode cX6_readNumber 125 = .ok (.aload_n 0, 1) := by decide +kernel
theorem dX6_readNumber_126 : decode cX6_readNumber 126 = .ok (.aload_n 0, 1) := by decide +kernel
theorem dX6_readNumber_127 : decode cX6_readNumber 127 = .ok (.getfield 22, 3) := by decide +kernel
theorem dX6_readNumber_130 : decode cX6_readNumber 130 = .ok (.iconst 1, 1) := by decide +kernel
theorem dX6_readNumber_131 : decode cX6_readNumber 131 = .ok (.invokevirtual 35, 3) := by decide +kernel
theorem dX6_readNumber_134 : decode cX6_readNumber 134 = .ok (.iconst (-1), 1) := by decide +kernel
theorem dX6_readNumber_135 : decode cX6_readNumber 135 = .ok (.ireturn, 1) := by decide +kernel
theorem dX6_readNumber_136 : decode cX6_readNumber 136 = .ok (.iload_n 3, 1) := by decide +kernel
theorem dX6_readNumber_137 : decode cX6_readNumber 137 = .ok (.ireturn, 1) := by decide +kernel
theorem dX7_init_0 : decode cX7_init 0 = .ok (.aload_n 0, 1) := by decide +kernel
theorem dX7_init_1 : decode cX7_init 1 = .ok (.invokespecial 3, 3) := by decide +kernel
theorem dX7_init_4 : decode cX7_init 4 = .ok (.aload_n 0, 1) := by decide +kernel
theorem dX7_init_5 : decode cX7_init 5 = .ok (.bipush 26, 2) := by decide +kernel
theorem dX7_init_7 : decode cX7_init 7 = .ok (.newarray .int, 2) := by decide +kernel
theorem dX7_init_9 : decode cX7_init 9 = .ok (.putfield 11, 3) := by decide +kernel
theorem dX7_init_12 : decode cX7_init 12 = .ok (.aload_n 0, 1) := by decide +kernel
theorem dX7_init_13 : decode cX7_init 13 = .ok (.bipush 13, 2) := by decide +kernel
theorem dX7_init_15 : decode cX7_init 15 = .ok (.newarray .int, 2) := by decide +kernel
theorem dX7_init_17 : decode cX7_init 17 = .ok (.putfield 15, 3) := by decide +kernel
theorem dX7_init_20 : decode cX7_init 20 = .ok (.aload_n 0, 1) := by decide +kernel
theorem dX7_init_21 : decode cX7_init 21 = .ok (.bipush 91, 2) := by decide +kernel
theorem dX7_init_23 : decode cX7_init 23 = .ok (.newarray .int, 2) := by decide +kernel
theorem dX7_init_25 : decode cX7_init 25 = .ok (.putfield 18, 3) := by decide +kernel
theorem dX7_init_28 : decode cX7_init 28 = .ok (.aload_n 0, 1) := by decide +kernel
theorem dX7_init_29 : decode cX7_init 29 = .ok (.bipush 13, 2) := by decide +kernel
theorem dX7_init_31 : decode cX7_init 31 = .ok (.newarray .int, 2) := by decide +kernel
theorem dX7_init_33 : decode cX7_init 33 = .ok (.putfield 21, 3) := by decide +kernel
theorem dX7_init_36 : decode cX7_init 36 = .ok (.aload_n 0, 1) := by decide +kernel
theorem dX7_init_37 : decode cX7_init 37 = .ok (.bipush 26, 2) := by decide +kernel
theorem dX7_init_39 : decode cX7_init 39 = .ok (.newarray .int, 2) := by decide +kernel
theorem dX7_init_41 : decode cX7_init 41 = .ok (.putfield 24, 3) := by decide +kernel
theorem dX7_init_44 : decode cX7_init 44 = .ok (.aload_n 0, 1) := by decide +kernel
theorem dX7_init_45 : decode cX7_init 45 = .ok (.bipush 8, 2) := by decide +kernel
theorem dX7_init_47 : decode cX7_init 47 = .ok (.newarray .int, 2) := by decide +kernel
theorem dX7_init_49 : decode cX7_init 49 = .ok (.putfield 27, 3) := by decide +kernel
theorem dX7_init_52 : decode cX7_init 52 = .ok (.aload_n 0, 1) := by decide +kernel
theorem dX7_init_53 : decode cX7_init 53 = .ok (.bipush 8, 2) := by decide +kernel
theorem dX7_init_55 : decode cX7_init 55 = .ok (.newarray .int, 2) := by decide +kernel
theorem dX7_init_57 : decode cX7_init 57 = .ok (.putfield 30, 3) := by decide +kernel
theorem dX7_init_60 : decode cX7_init 60 = .ok (.aload_n 0, 1) := by decide +kernel
theorem dX7_init_61 : decode cX7_init 61 = .ok (.bipush 13, 2) := by decide +kernel
theorem dX7_init_63 : decode cX7_init 63 = .ok (.newarray .int, 2) := by decide +kernel
theorem dX7_init_65 : decode cX7_init 65 = .ok (.putfield 33, 3) := by decide +kernel
theorem dX7_init_68 : decode cX7_init 68 = .ok (.return_, 1) := by decide +kernel
theorem dX7_copyFrom_0 : decode cX7_copyFrom 0 = .ok (.aload_n 1, 1) := by decide +kernel
theorem dX7_copyFrom_1 : decode cX7_copyFrom 1 = .ok (.getfield 11, 3) := by decide +kernel
theorem dX7_copyFrom_4 : decode cX7_copyFrom 4 = .ok (.iconst 0, 1) := by decide +kernel
theorem dX7_copyFrom_5 : decode cX7_copyFrom 5 = .ok (.aload_n 0, 1) := by decide +kernel
theorem dX7_copyFrom_6 : decode cX7_copyFrom 6 = .ok (.getfield 11, 3) := by decide +kernel
theorem dX7_copyFrom_9 : decode cX7_copyFrom 9 = .ok (.iconst 0, 1) := by decide +kernel
theorem dX7_copyFrom_10 : decode cX7_copyFrom 10 = .ok (.aload_n 0, 1) := by decide +kernel
theorem dX7_copyFrom_11 : decode cX7_copyFrom 11 = .ok (.getfield 11, 3) := by decide +kernel
theorem dX7_copyFrom_14 : decode cX7_copyFrom 14 = .ok (.arraylength, 1) := by decide +kernel
theorem dX7_copyFrom_15 : decode cX7_copyFrom 15 = .ok (.invokestatic 36, 3) := by decide +kernel
theorem dX7_copyFrom_18 : decode cX7_copyFrom 18 = .ok (.aload_n 1, 1) := by decide +kernel
theorem dX7_copyFrom_19 : decode cX7_copyFrom 19 = .ok (.getfield 15, 3) := by decide +kernel
theorem dX7_copyFrom_22 : decode cX7_copyFrom 22 = .ok (.iconst 0, 1) := by decide +kernel
theorem dX7_copyFrom_23 : decode cX7_copyFrom 23 = .ok (.aload_n 0, 1) := by decide +kernel
theorem dX7_copyFrom_24 : decode cX7_copyFrom 24 = .ok (.getfield 15, 3) := by decide +kernel
theorem dX7_copyFrom_27 : decode cX7_copyFrom 27 = .ok (.iconst 0, 1) := by decide +kernel
theorem dX7_copyFrom_28 : decode cX7_copyFrom 28 = .ok (.aload_n 0, 1) := by decide +kernel
theorem dX7_copyFrom_29 : decode cX7_copyFrom 29 = .ok (.getfield 15, 3) := by decide +kernel
theorem dX7_copyFrom_32 : decode cX7_copyFrom 32 = .ok (.arraylength, 1) := by decide +kernel
theorem dX7_copyFrom_33 : decode cX7_copyFrom 33 = .ok (.invokestatic 36, 3) := by decide +kernel
theorem dX7_copyFrom_36 : decode cX7_copyFrom 36 = .ok (.aload_n 1, 1) := by decide +kernel
theorem dX7_copyFrom_37 : decode cX7_copyFrom 37 = .ok (.getfield 18, 3) := by decide +kernel
theorem dX7_copyFrom_40 : decode cX7_copyFrom 40 = .ok (.iconst 0, 1) := by decide +kernel
theorem dX7_copyFrom_41 : decode cX7_copyFrom 41 = .ok (.aload_n 0, 1) := by decide +kernel
theorem dX7_copyFrom_42 : decode cX7_copyFrom 42 = .ok (.getfield 18, 3) := by decide +kernel
theorem dX7_copyFrom_45 : decode cX7_copyFrom 45 = .ok (.iconst 0, 1) := by decide +kernel
theorem dX7_copyFrom_46 : decode cX7_copyFrom 46 = .ok (.aload_n 0, 1) := by decide +kernel
theorem dX7_copyFrom_47 : decode cX7_copyFrom 47 = .ok (.getfield 18, 3) := by decide +kernel
theorem dX7_copyFrom_50 : decode cX7_copyFrom 50 = .ok (.arraylength, 1) := by decide +kernel
theorem dX7_copyFrom_51 : decode cX7_copyFrom 51 = .ok (.invokestatic 36, 3) := by decide +kernel
theorem dX7_copyFrom_54 : decode cX7_copyFrom 54 = .ok (.aload_n 1, 1) := by decide +kernel
theorem dX7_copyFrom_55 : decode cX7_copyFrom 55 = .ok (.getfield 21, 3) := by decide +kernel
theorem dX7_copyFrom_58 : decode cX7_copyFrom 58 = .ok (.iconst 0, 1) := by decide +kernel
theorem dX7_copyFrom_59 : decode cX7_copyFrom 59 = .ok (.aload_n 0, 1) := by decide +kernel
theorem dX7_copyFrom_60 : decode cX7_copyFrom 60 = .ok (.getfield 21, 3) := by decide +kernel
theorem dX7_copyFrom_63 : decode cX7_copyFrom 63 = .ok (.iconst 0, 1) := by decide +kernel
theorem dX7_copyFrom_64 : decode cX7_copyFrom 64 = .ok (.aload_n 0, 1) := by decide +kernel
theorem dX7_copyFrom_65 : decode cX7_copyFrom 65 = .ok (.getfield 21, 3) := by decide +kernel
theorem dX7_copyFrom_68 : decode cX7_copyFrom 68 = .ok (.arraylength, 1) := by decide +kernel
theorem dX7_copyFrom_69 : decode cX7_copyFrom 69 = .ok (.invokestatic 36, 3) := by decide +kernel
theorem dX7_copyFrom_72 : decode cX7_copyFrom 72 = .ok (.aload_n 1, 1) := by decide +kernel
theorem dX7_copyFrom_73 : decode cX7_copyFrom 73 = .ok (.getfield 24, 3) := by decide +kernel
theorem dX7_copyFrom_76 : decode cX7_copyFrom 76 = .ok (.iconst 0, 1) := by decide +kernel
theorem dX7_copyFrom_77 : decode cX7_copyFrom 77 = .ok (.aload_n 0, 1) := by decide +kernel
theorem dX7_copyFrom_78 : decode cX7_copyFrom 78 = .ok (.getfield 24, 3) := by decide +kernel
theorem dX7_copyFrom_81 : decode cX7_copyFrom 81 = .ok (.iconst 0, 1) := by decide +kernel
theorem dX7_copyFrom_82 : decode cX7_copyFrom 82 = .ok (.aload_n 0, 1) := by decide +kernel
theorem dX7_copyFrom_83 : decode cX7_copyFrom 83 = .ok (.getfield 24, 3) := by decide +kernel
theorem dX7_copyFrom_86 : decode cX7_copyFrom 86 = .ok (.arraylength, 1) := by decide +kernel
theorem dX7_copyFrom_87 : decode cX7_copyFrom 87 = .ok (.invokestatic 36, 3) := by decide +kernel
theorem dX7_copyFrom_90 : decode cX7_copyFrom 90 = .ok (.aload_n 1, 1) := by decide +kernel
theorem dX7_copyFrom_91 : decode cX7_copyFrom 91 = .ok (.getfield 27, 3) := by decide +kernel
theorem dX7_copyFrom_94 : decode cX7_copyFrom 94 = .ok (.iconst 0, 1) := by decide +kernel
theorem dX7_copyFrom_95 : decode cX7_copyFrom 95 = .ok (.aload_n 0, 1) := by decide +kernel
theorem dX7_copyFrom_96 : decode cX7_copyFrom 96 = .ok (.getfield 27, 3) := by decide +kernel
theorem dX7_copyFrom_99 : decode cX7_copyFrom 99 = .ok (.iconst 0, 1) := by decide +kernel
theorem dX7_copyFrom_100 : decode cX7_copyFrom 100 = .ok (.aload_n 0, 1) := by decide +kernel
theorem dX7_copyFrom_101 : decode cX7_copyFrom 101 = .ok (.getfield 27, 3) := by decide +kernel
theorem dX7_copyFrom_104 : decode cX7_copyFrom 104 = .ok (.arraylength, 1) := by decide +kernel
theorem dX7_copyFrom_105 : decode cX7_copyFrom 105 = .ok (.invokestatic 36, 3) := by decide +kernel
theorem dX7_copyFrom_108 : decode cX7_copyFrom 108 = .ok (.aload_n 1, 1) := by decide +kernel
theorem dX7_copyFrom_109 : decode cX7_copyFrom 109 = .ok (.getfield 30, 3) := by decide +kernel
theorem dX7_copyFrom_112 : decode cX7_copyFrom 112 = .ok (.iconst 0, 1) := by decide +kernel
theorem dX7_copyFrom_113 : decode cX7_copyFrom 113 = .ok (.aload_n 0, 1) := by decide +kernel
theorem dX7_copyFrom_114 : decode cX7_copyFrom 114 = .ok (.getfield 30, 3) := by decide +kernel
theorem dX7_copyFrom_117 : decode cX7_copyFrom 117 = .ok (.iconst 0, 1) := by decide +kernel
theorem dX7_copyFrom_118 : decode cX7_copyFrom 118 = .ok (.aload_n 0, 1) := by decide +kernel
theorem dX7_copyFrom_119 : decode cX7_copyFrom 119 = .ok (.getfield 30, 3) := by decide +kernel
theorem dX7_copyFrom_122 : decode cX7_copyFrom 122 = .ok (.arraylength, 1) := by decide +kernel
theorem dX7_copyFrom_123 : decode cX7_copyFrom 123 = .ok (.invokestatic 36, 3) := by decide +kernel
theorem dX7_copyFrom_126 : decode cX7_copyFrom 126 = .ok (.aload_n 1, 1) := by decide +kernel
theorem dX7_copyFrom_127 : decode cX7_copyFrom 127 = .ok (.getfield 33, 3) := by decide +kernel
theorem dX7_copyFrom_130 : decode cX7_copyFrom 130 = .ok (.iconst 0, 1) := by decide +kernel
theorem dX7_copyFrom_131 : decode cX7_copyFrom 131 = .ok (.aload_n 0, 1) := by decide +kernel
theorem dX7_copyFrom_132 : decode cX7_copyFrom 132 = .ok (.getfield 33, 3) := by decide +kernel
theorem dX7_copyFrom_135 : decode cX7_copyFrom 135 = .ok (.iconst 0, 1) := by decide +kernel
theorem dX7_copyFrom_136 : decode cX7_copyFrom 136 = .ok (.aload_n 0, 1) := by decide +kernel
theorem dX7_copyFrom_137 : decode cX7_copyFrom 137 = .ok (.getfield 33, 3) := by decide +kernel
theorem dX7_copyFrom_140 : decode cX7_copyFrom 140 = .ok (.arraylength, 1) := by decide +kernel
theorem dX7_copyFrom_141 : decode cX7_copyFrom 141 = .ok (.invokestatic 36, 3) := by decide +kernel
theorem dX7_copyFrom_144 : decode cX7_copyFrom 144 = .ok (.aload_n 0, 1) := by decide +kernel
theorem dX7_copyFrom_145 : decode cX7_copyFrom 145 = .ok (.aload_n 1, 1) := by decide +kernel
theorem dX7_copyFrom_146 : decode cX7_copyFrom 146 = .ok (.getfield 42, 3) := by decide +kernel
theorem dX7_copyFrom_149 : decode cX7_copyFrom 149 = .ok (.putfield 42, 3) := by decide +kernel
theorem dX7_copyFrom_152 : decode cX7_copyFrom 152 = .ok (.aload_n 0, 1) := by decide +kernel
theorem dX7_copyFrom_153 : decode cX7_copyFrom 153 = .ok (.aload_n 1, 1) := by decide +kernel
theorem dX7_copyFrom_154 : decode cX7_copyFrom 154 = .ok (.getfield 46, 3) := by decide +kernel
theorem dX7_copyFrom_157 : decode cX7_copyFrom 157 = .ok (.putfield 46, 3) := by decide +kernel
theorem dX7_copyFrom_160 : decode cX7_copyFrom 160 = .ok (.aload_n 0, 1) := by decide +kernel
theorem dX7_copyFrom_161 : decode cX7_copyFrom 161 = .ok (.aload_n 1, 1) := by decide +kernel
theorem dX7_copyFrom_162 : decode cX7_copyFrom 162 = .ok (.getfield 49, 3) := by decide +kernel
theorem dX7_copyFrom_165 : decode cX7_copyFrom 165 = .ok (.putfield 49, 3) := by decide +kernel
theorem dX7_copyFrom_168 : decode cX7_copyFrom 168 = .ok (.aload_n 0, 1) := by decide +kernel
theorem dX7_copyFrom_169 : decode cX7_copyFrom 169 = .ok (.aload_n 1, 1) := by decide +kernel
theorem dX7_copyFrom_170 : decode cX7_copyFrom 170 = .ok (.getfield 52, 3) := by decide +kernel
theorem dX7_copyFrom_173 : decode cX7_copyFrom 173 = .ok (.putfield 52, 3) := by decide +kernel
theorem dX7_copyFrom_176 : decode cX7_copyFrom 176 = .ok (.return_, 1) := by decide +kernel
set_option maxRecDepth 20000 in
theorem ggX7_readFrom_X6_startReading : GoodIn wsX7_readFrom wsX6_startReading := goodIn_r _ [10, 11, 12, 13, 240, 241, 242, 243, 244] (by decide +kernel) (by decide +kernel)
set_option maxRecDepth 20000 in
theorem gX7_readFrom_X6_startReading : GoodIn wsX7_readFrom (wsV RX7 55 RX6 yX6_startReading wsX6_startReading) := goodIn_app (goodIn_of _ (by decide +kernel)) ggX7_readFrom_X6_startReading
set_option maxRecDepth 20000 in
theorem ggX7_readFrom_X6_readWord : GoodIn wsX7_readFrom wsX6_readWord := goodIn_r _ [17, 11, 18, 12, 19, 20, 21, 9, 22, 23, 24, 25, 26, 27, 28, 29, 30, 31, 32, 33, 34, 35, 36, 37, 38, 39, 40, 41, 42, 43, 44, 45, 46, 47, 48, 49, 50, 51, 52, 53, 54, 55, 56, 57, 58, 59, 60, 61, 62, 63, 64, 65, 66, 67, 68, 69, 70, 71, 72, 73, 74, 75, 76, 77, 78, 79, 80, 13, 240, 241, 242, 243, 244] (by decide +kernel) (by decide +kernel)
set_option maxRecDepth 20000 in
theorem gX7_readFrom_X6_readWord : GoodIn wsX7_readFrom (wsV RX7 62 RX6 yX6_readWord wsX6_readWord) := goodIn_app (goodIn_of _ (by decide +kernel)) ggX7_readFrom_X6_readWord
set_option maxRecDepth 20000 in
theorem ggX7_readFrom_X7_isTooMany : GoodIn wsX7_readFrom wsX7_isTooMany := goodIn_r _ [85, 2, 3, 4, 228, 229, 230, 231, 232, 233, 234, 235, 236, 237, 238, 239] (by decide +kernel) (by decide +kernel)
set_option maxRecDepth 20000 in
theorem gX7_readFrom_X7_isTooMany : GoodIn wsX7_readFrom (wsV RX7 66 RX7 yX7_isTooMany wsX7_isTooMany) := goodIn_app (goodIn_of _ (by decide +kernel)) ggX7_readFrom_X7_isTooMany
set_option maxRecDepth 20000 in
theorem ggX7_readFrom_X6_blame : GoodIn wsX7_readFrom wsX6_blame := goodIn_r _ [80, 13, 240, 241, 242, 243, 244] (by decide +kernel) (by decide +kernel)
set_option maxRecDepth 20000 in
theorem gX7_readFrom_X6_blame : GoodIn wsX7_readFrom (wsV RX7 73 RX6 yX6_blame wsX6_blame) := goodIn_app (goodIn_of _ (by decide +kernel)) ggX7_readFrom_X6_blame
set_option maxRecDepth 20000 in
theorem ggX7_readFrom_X7_readClause : GoodIn wsX7_readFrom wsX7_readClause := goodIn_r _ [90, 1, 91, 92, 93, 9, 94, 13, 95, 96, 97, 98, 12, 11, 23, 18, 99, 19, 20, 21, 22, 100, 101, 102, 77, 78, 79, 80, 103, 104, 105, 84, 106, 5, 2, 86, 107, 108, 109, 110, 111, 112, 113, 114, 115, 116, 117, 118, 119, 120, 121, 122, 123, 124, 125, 126, 31, 127, 128, 129, 130, 131, 33, 44, 45, 46, 47, 38, 39, 132, 29, 30, 32, 34, 35, 36, 37, 133, 134, 50, 135, 136, 137, 138, 139, 140, 141, 142, 143, 144, 145, 146, 147, 148, 149, 150, 62, 151, 152, 153, 154, 155, 156, 157, 158, 159, 160, 67, 68, 69, 161, 162, 163, 55, 164, 165, 58, 166, 167, 168, 169, 71, 72, 73, 74, 75, 76, 170, 171, 172, 173, 174, 175, 176, 177, 178, 179, 180, 181, 182, 183, 184, 185, 186, 187, 188, 189, 190, 191, 192, 193, 194, 195, 196, 197, 198, 199, 200, 201, 202, 3, 203, 204, 205, 206, 207, 4, 228, 229, 230, 231, 232, 233, 234, 235, 236, 237, 238, 239, 240, 241, 242, 243, 244] (by decide +kernel) (by decide +kernel)
set_option maxRecDepth 20000 in
theorem gX7_readFrom_X7_readClause : GoodIn wsX7_readFrom (wsV RX7 77 RX7 yX7_readClause wsX7_readClause) := goodIn_app (goodIn_of _ (by decide +kernel)) ggX7_readFrom_X7_readClause
set_option maxRecDepth 20000 in
theorem ggX7_readFrom_X6_takeSemicolon : GoodIn wsX7_readFrom wsX6_takeSemicolon := goodIn_r _ [211, 99, 92, 93, 9, 94, 13, 212, 213, 214, 215, 19, 20, 21, 22, 11, 23, 18, 12, 216, 190, 191, 192, 217, 121, 122, 123, 218, 186, 187, 188, 77, 78, 79, 80, 240, 241, 242, 243, 244] (by decide +kernel) (by decide +kernel)
set_option maxRecDepth 20000 in
theorem gX7_readFrom_X6_takeSemicolon : GoodIn wsX7_readFrom (wsV RX7 81 RX6 yX6_takeSemicolon wsX6_takeSemicolon) := goodIn_app (goodIn_of _ (by decide +kernel)) ggX7_readFrom_X6_takeSemicolon
set_option maxRecDepth 20000 in
theorem ggX7_readFrom_X7_findSaints : GoodIn wsX7_readFrom wsX7_findSaints := goodIn_r _ [222, 223, 3, 202, 224, 225, 226, 84, 227, 111, 228, 229, 230, 231, 232, 233, 234, 235, 236, 237, 238, 239] (by decide +kernel) (by decide +kernel)
set_option maxRecDepth 20000 in
theorem gX7_readFrom_X7_findSaints : GoodIn wsX7_readFrom (wsV RX7 85 RX7 yX7_findSaints wsX7_findSaints) := goodIn_app (goodIn_of _ (by decide +kernel)) ggX7_readFrom_X7_findSaints
theorem dX7_readFrom_0 : decode cX7_readFrom 0 = .ok (.aload_n 0, 1) := by decide +kernel
theorem dX7_readFrom_1 : decode cX7_readFrom 1 = .ok (.iconst 0, 1) := by decide +kernel
theorem dX7_readFrom_2 : decode cX7_readFrom 2 = .ok (.putfield 42, 3) := by decide +kernel
theorem dX7_readFrom_5 : decode cX7_readFrom 5 = .ok (.aload_n 0, 1) := by decide +kernel
theorem dX7_readFrom_6 : decode cX7_readFrom 6 = .ok (.iconst 0, 1) := by decide +kernel
theorem dX7_readFrom_7 : decode cX7_readFrom 7 = .ok (.putfield 46, 3) := by decide +kernel
theorem dX7_readFrom_10 : decode cX7_readFrom 10 = .ok (.aload_n 0, 1) := by decide +kernel
theorem dX7_readFrom_11 : decode cX7_readFrom 11 = .ok (.iconst 0, 1) := by decide +kernel
theorem dX7_readFrom_12 : decode cX7_readFrom 12 = .ok (.putfield 49, 3) := by decide +kernel
theorem dX7_readFrom_15 : decode cX7_readFrom 15 = .ok (.aload_n 0, 1) := by decide +kernel
theorem dX7_readFrom_16 : decode cX7_readFrom 16 = .ok (.iconst 0, 1) := by decide +kernel
theorem dX7_readFrom_17 : decode cX7_readFrom 17 = .ok (.putfield 52, 3) := by decide +kernel
theorem dX7_readFrom_20 : decode cX7_readFrom 20 = .ok (.aload_n 1, 1) := by decide +kernel
theorem dX7_readFrom_21 : decode cX7_readFrom 21 = .ok (.invokevirtual 55, 3) := by decide +kernel
theorem dX7_readFrom_24 : decode cX7_readFrom 24 = .ok (.iconst 1, 1) := by decide +kernel
theorem dX7_readFrom_25 : decode cX7_readFrom 25 = .ok (.istore_n 2, 1) := by decide +kernel
theorem dX7_readFrom_26 : decode cX7_readFrom 26 = .ok (.iconst 0, 1) := by decide +kernel
theorem dX7_readFrom_27 : decode cX7_readFrom 27 = .ok (.istore_n 3, 1) := by decide +kernel
theorem dX7_readFrom_28 : decode cX7_readFrom 28 = .ok (.iload_n 2, 1) := by decide +kernel
theorem dX7_readFrom_29 : decode cX7_readFrom 29 = .ok (.ifCond .eq 60, 3) := by decide +kernel
theorem dX7_readFrom_32 : decode cX7_readFrom 32 = .ok (.iload_n 3, 1) := by decide +kernel
theorem dX7_readFrom_33 : decode cX7_readFrom 33 = .ok (.bipush 32, 2) := by decide +kernel
theorem dX7_readFrom_35 : decode cX7_readFrom 35 = .ok (.if_icmp .gt 54, 3) := by decide +kernel
theorem dX7_readFrom_38 : decode cX7_readFrom 38 = .ok (.aload_n 1, 1) := by decide +kernel
theorem dX7_readFrom_39 : decode cX7_readFrom 39 = .ok (.ldc 60, 2) := by decide +kernel
theorem dX7_readFrom_41 : decode cX7_readFrom 41 = .ok (.invokevirtual 62, 3) := by decide +kernel
theorem dX7_readFrom_44 : decode cX7_readFrom 44 = .ok (.istore 4, 2) := by decide +kernel
theorem dX7_readFrom_46 : decode cX7_readFrom 46 = .ok (.iload 4, 2) := by decide +kernel
theorem dX7_readFrom_48 : decode cX7_readFrom 48 = .ok (.iconst (-1), 1) := by decide +kernel
theorem dX7_readFrom_49 : decode cX7_readFrom 49 = .ok (.if_icmp .eq 22, 3) := by decide +kernel
theorem dX7_readFrom_52 : decode cX7_readFrom 52 = .ok (.aload_n 0, 1) := by decide +kernel
theorem dX7_readFrom_53 : decode cX7_readFrom 53 = .ok (.iload 4, 2) := by decide +kernel
theorem dX7_readFrom_55 : decode cX7_readFrom 55 = .ok (.iload_n 3, 1) := by decide +kernel
theorem dX7_readFrom_56 : decode cX7_readFrom 56 = .ok (.invokevirtual 66, 3) := by decide +kernel
theorem dX7_readFrom_59 : decode cX7_readFrom 59 = .ok (.ifCond .eq 12, 3) := by decide +kernel
theorem dX7_readFrom_62 : decode cX7_readFrom 62 = .ok (.aload_n 1, 1) := by decide +kernel
theorem dX7_readFrom_63 : decode cX7_readFrom 63 = .ok (.aload_n 1, 1) := by decide +kernel
theorem dX7_readFrom_64 : decode cX7_readFrom 64 = .ok (.getfield 70, 3) := by decide +kernel
theorem dX7_readFrom_67 : decode cX7_readFrom 67 = .ok (.iconst 4, 1) := by decide +kernel
theorem dX7_readFrom_68 : decode cX7_readFrom 68 = .ok (.invokevirtual 73, 3) := by decide +kernel
theorem dX7_readFrom_71 : decode cX7_readFrom 71 = .ok (.aload_n 0, 1) := by decide +kernel
theorem dX7_readFrom_72 : decode cX7_readFrom 72 = .ok (.aload_n 1, 1) := by decide +kernel
theorem dX7_readFrom_73 : decode cX7_readFrom 73 = .ok (.iload 4, 2) := by decide +kernel
theorem dX7_readFrom_75 : decode cX7_readFrom 75 = .ok (.invokevirtual 77, 3) := by decide +kernel
theorem dX7_readFrom_78 : decode cX7_readFrom 78 = .ok (.aload_n 1, 1) := by decide +kernel
theorem dX7_readFrom_79 : decode cX7_readFrom 79 = .ok (.invokevirtual 81, 3) := by decide +kernel
theorem dX7_readFrom_82 : decode cX7_readFrom 82 = .ok (.istore_n 2, 1) := by decide +kernel
theorem dX7_readFrom_83 : decode cX7_readFrom 83 = .ok (.iinc 3 1, 3) := by decide +kernel
theorem dX7_readFrom_86 : decode cX7_readFrom 86 = .ok (.goto (-58), 3) := by decide +kernel
theorem dX7_readFrom_89 : decode cX7_readFrom 89 = .ok (.iconst 0, 1) := by decide +kernel
theorem dX7_readFrom_90 : decode cX7_readFrom 90 = .ok (.istore_n 3, 1) := by decide +kernel
theorem dX7_readFrom_91 : decode cX7_readFrom 91 = .ok (.iload_n 3, 1) := by decide +kernel
theorem dX7_readFrom_92 : decode cX7_readFrom 92 = .ok (.aload_n 0, 1) := by decide +kernel
theorem dX7_readFrom_93 : decode cX7_readFrom 93 = .ok (.getfield 46, 3) := by decide +kernel
theorem dX7_readFrom_96 : decode cX7_readFrom 96 = .ok (.if_icmp .ge 14, 3) := by decide +kernel
theorem dX7_readFrom_99 : decode cX7_readFrom 99 = .ok (.aload_n 0, 1) := by decide +kernel
theorem dX7_readFrom_100 : decode cX7_readFrom 100 = .ok (.iload_n 3, 1) := by decide +kernel
theorem dX7_readFrom_101 : decode cX7_readFrom 101 = .ok (.invokevirtual 85, 3) := by decide +kernel
theorem dX7_readFrom_104 : decode cX7_readFrom 104 = .ok (.iinc 3 1, 3) := by decide +kernel
theorem dX7_readFrom_107 : decode cX7_readFrom 107 = .ok (.goto (-16), 3) := by decide +kernel
theorem dX7_readFrom_110 : decode cX7_readFrom 110 = .ok (.return_, 1) := by decide +kernel
theorem dX7_isTooMany_0 : decode cX7_isTooMany 0 = .ok (.iload_n 2, 1) := by decide +kernel
theorem dX7_isTooMany_1 : decode cX7_isTooMany 1 = .ok (.bipush 32, 2) := by decide +kernel
theorem dX7_isTooMany_3 : decode cX7_isTooMany 3 = .ok (.if_icmp .ge 24, 3) := by decide +kernel
theorem dX7_isTooMany_6 : decode cX7_isTooMany 6 = .ok (.iload_n 1, 1) := by decide +kernel
theorem dX7_isTooMany_7 : decode cX7_isTooMany 7 = .ok (.ifCond .ne 7, 3) := by decide +kernel
theorem dX7_isTooMany_10 : decode cX7_isTooMany 10 = .ok (.iconst 1, 1) := by decide +kernel
theorem dX7_isTooMany_11 : decode cX7_isTooMany 11 = .ok (.goto 4, 3) := by decide +kernel
theorem dX7_isTooMany_14 : decode cX7_isTooMany 14 = .ok (.iconst 0, 1) := by decide +kernel
theorem dX7_isTooMany_15 : decode cX7_isTooMany 15 = .ok (.iload_n 2, 1) := by decide +kernel
theorem dX7_isTooMany_16 : decode cX7_isTooMany 16 = .ok (.ifCond .ne 7, 3) := by decide +kernel
theorem dX7_isTooMany_19 : decode cX7_isTooMany 19 = .ok (.iconst 1, 1) := by decide +kernel
theorem dX7_isTooMany_20 : decode cX7_isTooMany 20 = .ok (.goto 4, 3) := by decide +kernel
theorem dX7_isTooMany_23 : decode cX7_isTooMany 23 = .ok (.iconst 0, 1) := by decide +kernel
theorem dX7_isTooMany_24 : decode cX7_isTooMany 24 = .ok (.if_icmp .eq 5, 3) := by decide +kernel
theorem dX7_isTooMany_27 : decode cX7_isTooMany 27 = .ok (.iconst 1, 1) := by decide +kernel
theorem dX7_isTooMany_28 : decode cX7_isTooMany 28 = .ok (.ireturn, 1) := by decide +kernel
theorem dX7_isTooMany_29 : decode cX7_isTooMany 29 = .ok (.iload_n 1, 1) := by decide +kernel
theorem dX7_isTooMany_30 : decode cX7_isTooMany 30 = .ok (.tableswitch 58 0 2 #[26, 28, 43], 26) := by decide +kernel
theorem dX7_isTooMany_56 : decode cX7_isTooMany 56 = .ok (.iconst 0, 1) := by decide +kernel
theorem dX7_isTooMany_57 : decode cX7_isTooMany 57 = .ok (.ireturn, 1) := by decide +kernel
theorem dX7_isTooMany_58 : decode cX7_isTooMany 58 = .ok (.aload_n 0, 1) := by decide +kernel
theorem dX7_isTooMany_59 : decode cX7_isTooMany 59 = .ok (.getfield 46, 3) := by decide +kernel
theorem dX7_isTooMany_62 : decode cX7_isTooMany 62 = .ok (.bipush 12, 2) := by decide +kernel
theorem dX7_isTooMany_64 : decode cX7_isTooMany 64 = .ok (.if_icmp .lt 7, 3) := by decide +kernel
theorem dX7_isTooMany_67 : decode cX7_isTooMany 67 = .ok (.iconst 1, 1) := by decide +kernel
theorem dX7_isTooMany_68 : decode cX7_isTooMany 68 = .ok (.goto 4, 3) := by decide +kernel
theorem dX7_isTooMany_71 : decode cX7_isTooMany 71 = .ok (.iconst 0, 1) := by decide +kernel
theorem dX7_isTooMany_72 : decode cX7_isTooMany 72 = .ok (.ireturn, 1) := by decide +kernel
theorem dX7_isTooMany_73 : decode cX7_isTooMany 73 = .ok (.aload_n 0, 1) := by decide +kernel
theorem dX7_isTooMany_74 : decode cX7_isTooMany 74 = .ok (.getfield 49, 3) := by decide +kernel
theorem dX7_isTooMany_77 : decode cX7_isTooMany 77 = .ok (.bipush 8, 2) := by decide +kernel
theorem dX7_isTooMany_79 : decode cX7_isTooMany 79 = .ok (.if_icmp .lt 7, 3) := by decide +kernel
theorem dX7_isTooMany_82 : decode cX7_isTooMany 82 = .ok (.iconst 1, 1) := by decide +kernel
theorem dX7_isTooMany_83 : decode cX7_isTooMany 83 = .ok (.goto 4, 3) := by decide +kernel
theorem dX7_isTooMany_86 : decode cX7_isTooMany 86 = .ok (.iconst 0, 1) := by decide +kernel
theorem dX7_isTooMany_87 : decode cX7_isTooMany 87 = .ok (.ireturn, 1) := by decide +kernel
theorem dX7_isTooMany_88 : decode cX7_isTooMany 88 = .ok (.aload_n 0, 1) := by decide +kernel
theorem dX7_isTooMany_89 : decode cX7_isTooMany 89 = .ok (.getfield 52, 3) := by decide +kernel
theorem dX7_isTooMany_92 : decode cX7_isTooMany 92 = .ok (.iconst 4, 1) := by decide +kernel
theorem dX7_isTooMany_93 : decode cX7_isTooMany 93 = .ok (.if_icmp .lt 7, 3) := by decide +kernel
theorem dX7_isTooMany_96 : decode cX7_isTooMany 96 = .ok (.iconst 1, 1) := by decide +kernel
theorem dX7_isTooMany_97 : decode cX7_isTooMany 97 = .ok (.goto 4, 3) := by decide +kernel
theorem dX7_isTooMany_100 : decode cX7_isTooMany 100 = .ok (.iconst 0, 1) := by decide +kernel
theorem dX7_isTooMany_101 : decode cX7_isTooMany 101 = .ok (.ireturn, 1) := by decide +kernel
set_option maxRecDepth 20000 in
theorem ggX7_readClause_X6_isFaulty : GoodIn wsX7_readClause wsX6_isFaulty := goodIn_r _ [6, 7, 179, 180, 181, 182, 183] (by decide +kernel) (by decide +kernel)
set_option maxRecDepth 20000 in
theorem gX7_readClause_X6_isFaulty : GoodIn wsX7_readClause (wsV RX7 89 RX6 yX6_isFaulty wsX6_isFaulty) := goodIn_app (goodIn_of _ (by decide +kernel)) ggX7_readClause_X6_isFaulty
set_option maxRecDepth 20000 in
theorem ggX7_readClause_X6_readNumber : GoodIn wsX7_readClause wsX6_readNumber := goodIn_r _ [11, 12, 13, 14, 15, 16, 3, 4, 5, 6, 7, 17, 18, 19, 20, 21, 22, 23, 24, 25, 26, 27, 179, 180, 181, 182, 183] (by decide +kernel) (by decide +kernel)
set_option maxRecDepth 20000 in
theorem gX7_readClause_X6_readNumber : GoodIn wsX7_readClause (wsV RX7 92 RX6 yX6_readNumber wsX6_readNumber) := goodIn_app (goodIn_of _ (by decide +kernel)) ggX7_readClause_X6_readNumber
set_option maxRecDepth 20000 in
theorem ggX7_readClause_X7_readStreet : GoodIn wsX7_readClause wsX7_readStreet := goodIn_r _ [32, 1, 33, 34, 8, 9, 10, 5, 11, 12, 13, 14, 15, 16, 3, 4, 6, 7, 17, 18, 19, 20, 21, 22, 23, 24, 25, 26, 27, 35, 2, 36, 37, 38, 31, 39, 40, 41, 42, 43, 44, 45, 46, 47, 48, 49, 50, 51, 52, 53, 54, 55, 56, 57, 58, 59, 60, 61, 62, 63, 64, 65, 66, 67, 68, 69, 70, 71, 72, 73, 74, 75, 76, 77, 78, 79, 80, 81, 82, 83, 84, 85, 86, 87, 88, 89, 90, 91, 92, 93, 94, 95, 96, 97, 98, 99, 100, 101, 102, 103, 104, 105, 106, 107, 108, 109, 110, 111, 112, 113, 114, 115, 116, 117, 118, 119, 120, 121, 122, 123, 124, 125, 126, 127, 128, 129, 130, 131, 132, 133, 134, 135, 136, 137, 138, 139, 140, 141, 142, 143, 144, 145, 146, 147, 148, 149, 150, 151, 152, 153, 154, 167, 168, 169, 170, 171, 172, 173, 174, 175, 176, 177, 178, 179, 180, 181, 182, 183] (by decide +kernel) (by decide +kernel)
set_option maxRecDepth 20000 in
theorem gX7_readClause_X7_readStreet : GoodIn wsX7_readClause (wsV RX7 96 RX7 yX7_readStreet wsX7_readStreet) := goodIn_app (goodIn_of _ (by decide +kernel)) ggX7_readClause_X7_readStreet
set_option maxRecDepth 20000 in
theorem ggX7_readClause_X7_readSaint : GoodIn wsX7_readClause wsX7_readSaint := goodIn_r _ [158, 1, 159, 160, 161, 8, 9, 10, 5, 11, 12, 13, 14, 15, 16, 3, 4, 6, 7, 17, 18, 19, 20, 21, 22, 23, 24, 25, 26, 27, 2, 167, 168, 169, 170, 171, 172, 173, 174, 175, 176, 177, 178, 179, 180, 181, 182, 183] (by decide +kernel) (by decide +kernel)
set_option maxRecDepth 20000 in
theorem gX7_readClause_X7_readSaint : GoodIn wsX7_readClause (wsV RX7 100 RX7 yX7_readSaint wsX7_readSaint) := goodIn_app (goodIn_of _ (by decide +kernel)) ggX7_readClause_X7_readSaint
set_option maxRecDepth 20000 in
theorem ggX7_readClause_X7_readLift : GoodIn wsX7_readClause wsX7_readLift := goodIn_r _ [165, 34, 42, 166, 8, 9, 10, 5, 11, 12, 13, 14, 15, 16, 3, 4, 6, 7, 17, 18, 19, 20, 21, 22, 23, 24, 25, 26, 27, 2, 167, 168, 169, 170, 171, 172, 173, 174, 175, 176, 177, 178, 179, 180, 181, 182, 183] (by decide +kernel) (by decide +kernel)
set_option maxRecDepth 20000 in
theorem gX7_readClause_X7_readLift : GoodIn wsX7_readClause (wsV RX7 103 RX7 yX7_readLift wsX7_readLift) := goodIn_app (goodIn_of _ (by decide +kernel)) ggX7_readClause_X7_readLift
theorem dX7_readClause_0 : decode cX7_readClause 0 = .ok (.aload_n 1, 1) := by decide +kernel
theorem dX7_readClause_1 : decode cX7_readClause 1 = .ok (.invokevirtual 89, 3) := by decide +kernel
theorem dX7_readClause_4 : decode cX7_readClause 4 = .ok (.ifCond .eq 4, 3) := by decide +kernel
theorem dX7_readClause_7 : decode cX7_readClause 7 = .ok (.return_, 1) := by decide +kernel
theorem dX7_readClause_8 : decode cX7_readClause 8 = .ok (.iload_n 2, 1) := by decide +kernel
theorem dX7_readClause_9 : decode cX7_readClause 9 = .ok (.ifCond .ne 17, 3) := by decide +kernel
theorem dX7_readClause_12 : decode cX7_readClause 12 = .ok (.aload_n 0, 1) := by decide +kernel
theorem dX7_readClause_13 : decode cX7_readClause 13 = .ok (.aload_n 1, 1) := by decide +kernel
theorem dX7_readClause_14 : decode cX7_readClause 14 = .ok (.iconst 2, 1) := by decide +kernel
theorem dX7_readClause_15 : decode cX7_readClause 15 = .ok (.bipush 10, 2) := by decide +kernel
theorem dX7_readClause_17 : decode cX7_readClause 17 = .ok (.invokevirtual 92, 3) := by decide +kernel
theorem dX7_readClause_20 : decode cX7_readClause 20 = .ok (.putfield 42, 3) := by decide +kernel
theorem dX7_readClause_23 : decode cX7_readClause 23 = .ok (.goto 34, 3) := by decide +kernel
theorem dX7_readClause_26 : decode cX7_readClause 26 = .ok (.iload_n 2, 1) := by decide +kernel
theorem dX7_readClause_27 : decode cX7_readClause 27 = .ok (.iconst 1, 1) := by decide +kernel
theorem dX7_readClause_28 : decode cX7_readClause 28 = .ok (.if_icmp .ne 11, 3) := by decide +kernel
theorem dX7_readClause_31 : decode cX7_readClause 31 = .ok (.aload_n 0, 1) := by decide +kernel
theorem dX7_readClause_32 : decode cX7_readClause 32 = .ok (.aload_n 1, 1) := by decide +kernel
theorem dX7_readClause_33 : decode cX7_readClause 33 = .ok (.invokevirtual 96, 3) := by decide +kernel
theorem dX7_readClause_36 : decode cX7_readClause 36 = .ok (.goto 21, 3) := by decide +kernel
theorem dX7_readClause_39 : decode cX7_readClause 39 = .ok (.iload_n 2, 1) := by decide +kernel
theorem dX7_readClause_40 : decode cX7_readClause 40 = .ok (.iconst 2, 1) := by decide +kernel
theorem dX7_readClause_41 : decode cX7_readClause 41 = .ok (.if_icmp .ne 11, 3) := by decide +kernel
theorem dX7_readClause_44 : decode cX7_readClause 44 = .ok (.aload_n 0, 1) := by decide +kernel
theorem dX7_readClause_45 : decode cX7_readClause 45 = .ok (.aload_n 1, 1) := by decide +kernel
theorem dX7_readClause_46 : decode cX7_readClause 46 = .ok (.invokevirtual 100, 3) := by decide +kernel
theorem dX7_readClause_49 : decode cX7_readClause 49 = .ok (.goto 8, 3) := by decide +kernel
theorem dX7_readClause_52 : decode cX7_readClause 52 = .ok (.aload_n 0, 1) := by decide +kernel
theorem dX7_readClause_53 : decode cX7_readClause 53 = .ok (.aload_n 1, 1) := by decide +kernel
theorem dX7_readClause_54 : decode cX7_readClause 54 = .ok (.invokevirtual 103, 3) := by decide +kernel
theorem dX7_readClause_57 : decode cX7_readClause 57 = .ok (.return_, 1) := by decide +kernel
set_option maxRecDepth 20000 in
theorem ggX7_readStreet_X6_readNumber : GoodIn wsX7_readStreet wsX6_readNumber := goodIn_r _ [8, 9, 10, 11, 12, 13, 14, 15, 7, 16, 17, 18, 19, 20, 21, 22, 23, 24, 25, 26, 27, 28, 163, 164, 165, 166, 167] (by decide +kernel) (by decide +kernel)
set_option maxRecDepth 20000 in
theorem gX7_readStreet_X6_readNumber : GoodIn wsX7_readStreet (wsV RX7 92 RX6 yX6_readNumber wsX6_readNumber) := goodIn_app (goodIn_of _ (by decide +kernel)) ggX7_readStreet_X6_readNumber
set_option maxRecDepth 20000 in
theorem ggX7_readStreet_X6_blame : GoodIn wsX7_readStreet wsX6_blame := goodIn_r _ [28, 17, 163, 164, 165, 166, 167] (by decide +kernel) (by decide +kernel)
set_option maxRecDepth 20000 in
theorem gX7_readStreet_X6_blame : GoodIn wsX7_readStreet (wsV RX7 73 RX6 yX6_blame wsX6_blame) := goodIn_app (goodIn_of _ (by decide +kernel)) ggX7_readStreet_X6_blame
set_option maxRecDepth 20000 in
theorem ggX7_readStreet_X6_isFaulty : GoodIn wsX7_readStreet wsX6_isFaulty := goodIn_r _ [16, 17, 163, 164, 165, 166, 167] (by decide +kernel) (by decide +kernel)
set_option maxRecDepth 20000 in
theorem gX7_readStreet_X6_isFaulty : GoodIn wsX7_readStreet (wsV RX7 89 RX6 yX6_isFaulty wsX6_isFaulty) := goodIn_app (goodIn_of _ (by decide +kernel)) ggX7_readStreet_X6_isFaulty
set_option maxRecDepth 20000 in
theorem ggX7_readStreet_X7_placeStreet : GoodIn wsX7_readStreet wsX7_placeStreet := goodIn_r _ [35, 36, 37, 38, 39, 151, 152, 153, 154, 155, 156, 157, 158, 159, 160, 161, 162] (by decide +kernel) (by decide +kernel)
set_option maxRecDepth 20000 in
theorem gX7_readStreet_X7_placeStreet : GoodIn wsX7_readStreet (wsV RX7 106 RX7 yX7_placeStreet wsX7_placeStreet) := goodIn_app (goodIn_of _ (by decide +kernel)) ggX7_readStreet_X7_placeStreet
set_option maxRecDepth 20000 in
theorem ggX7_readStreet_X7_readSigns : GoodIn wsX7_readStreet wsX7_readSigns := goodIn_r _ [43, 3, 44, 19, 20, 7, 21, 10, 11, 12, 9, 45, 46, 47, 48, 49, 50, 51, 52, 53, 54, 55, 56, 57, 58, 59, 60, 61, 62, 63, 64, 65, 66, 67, 68, 69, 70, 71, 72, 73, 74, 75, 76, 77, 78, 79, 80, 81, 82, 83, 84, 85, 86, 87, 88, 89, 90, 91, 92, 93, 94, 95, 96, 97, 98, 99, 100, 101, 102, 103, 104, 105, 106, 107, 108, 109, 110, 111, 112, 113, 114, 115, 116, 117, 118, 119, 120, 121, 122, 123, 124, 125, 126, 127, 128, 129, 130, 131, 132, 133, 134, 135, 136, 137, 138, 139, 140, 141, 25, 26, 27, 28, 17, 142, 143, 144, 145, 146, 147, 148, 34, 149, 150, 39, 151, 152, 153, 154, 155, 156, 157, 158, 159, 160, 161, 162, 163, 164, 165, 166, 167] (by decide +kernel) (by decide +kernel)
set_option maxRecDepth 20000 in
theorem gX7_readStreet_X7_readSigns : GoodIn wsX7_readStreet (wsV RX7 110 RX7 yX7_readSigns wsX7_readSigns) := goodIn_app (goodIn_of _ (by decide +kernel)) ggX7_readStreet_X7_readSigns
theorem dX7_readStreet_0 : decode cX7_readStreet 0 = .ok (.aload_n 1, 1) := by decide +kernel
theorem dX7_readStreet_1 : decode cX7_readStreet 1 = .ok (.iconst 0, 1) := by decide +kernel
theorem dX7_readStreet_2 : decode cX7_readStreet 2 = .ok (.aload_n 0, 1) := by decide +kernel
theorem dX7_readStreet_3 : decode cX7_readStreet 3 = .ok (.getfield 42, 3) := by decide +kernel
theorem dX7_readStreet_6 : decode cX7_readStreet 6 = .ok (.iconst 1, 1) := by decide +kernel
theorem dX7_readStreet_7 : decode cX7_readStreet 7 = .ok (.isub, 1) := by decide +kernel
theorem dX7_readStreet_8 : decode cX7_readStreet 8 = .ok (.invokevirtual 92, 3) := by decide +kernel
theorem dX7_readStreet_11 : decode cX7_readStreet 11 = .ok (.istore_n 2, 1) := by decide +kernel
theorem dX7_readStreet_12 : decode cX7_readStreet 12 = .ok (.aload_n 1, 1) := by decide +kernel
theorem dX7_readStreet_13 : decode cX7_readStreet 13 = .ok (.iconst 0, 1) := by decide +kernel
theorem dX7_readStreet_14 : decode cX7_readStreet 14 = .ok (.aload_n 0, 1) := by decide +kernel
theorem dX7_readStreet_15 : decode cX7_readStreet 15 = .ok (.getfield 42, 3) := by decide +kernel
theorem dX7_readStreet_18 : decode cX7_readStreet 18 = .ok (.iconst 1, 1) := by decide +kernel
theorem dX7_readStreet_19 : decode cX7_readStreet 19 = .ok (.isub, 1) := by decide +kernel
theorem dX7_readStreet_20 : decode cX7_readStreet 20 = .ok (.invokevirtual 92, 3) := by decide +kernel
theorem dX7_readStreet_23 : decode cX7_readStreet 23 = .ok (.istore_n 3, 1) := by decide +kernel
theorem dX7_readStreet_24 : decode cX7_readStreet 24 = .ok (.iload_n 3, 1) := by decide +kernel
theorem dX7_readStreet_25 : decode cX7_readStreet 25 = .ok (.iload_n 2, 1) := by decide +kernel
theorem dX7_readStreet_26 : decode cX7_readStreet 26 = .ok (.if_icmp .ne 12, 3) := by decide +kernel
theorem dX7_readStreet_29 : decode cX7_readStreet 29 = .ok (.aload_n 1, 1) := by decide +kernel
theorem dX7_readStreet_30 : decode cX7_readStreet 30 = .ok (.aload_n 1, 1) := by decide +kernel
theorem dX7_readStreet_31 : decode cX7_readStreet 31 = .ok (.getfield 70, 3) := by decide +kernel
theorem dX7_readStreet_34 : decode cX7_readStreet 34 = .ok (.iconst 1, 1) := by decide +kernel
theorem dX7_readStreet_35 : decode cX7_readStreet 35 = .ok (.invokevirtual 73, 3) := by decide +kernel
theorem dX7_readStreet_38 : decode cX7_readStreet 38 = .ok (.aload_n 1, 1) := by decide +kernel
theorem dX7_readStreet_39 : decode cX7_readStreet 39 = .ok (.iconst 1, 1) := by decide +kernel
theorem dX7_readStreet_40 : decode cX7_readStreet 40 = .ok (.bipush 9, 2) := by decide +kernel
theorem dX7_readStreet_42 : decode cX7_readStreet 42 = .ok (.invokevirtual 92, 3) := by decide +kernel
theorem dX7_readStreet_45 : decode cX7_readStreet 45 = .ok (.istore 4, 2) := by decide +kernel
theorem dX7_readStreet_47 : decode cX7_readStreet 47 = .ok (.aload_n 1, 1) := by decide +kernel
theorem dX7_readStreet_48 : decode cX7_readStreet 48 = .ok (.invokevirtual 89, 3) := by decide +kernel
theorem dX7_readStreet_51 : decode cX7_readStreet 51 = .ok (.ifCond .eq 4, 3) := by decide +kernel
theorem dX7_readStreet_54 : decode cX7_readStreet 54 = .ok (.return_, 1) := by decide +kernel
theorem dX7_readStreet_55 : decode cX7_readStreet 55 = .ok (.aload_n 0, 1) := by decide +kernel
theorem dX7_readStreet_56 : decode cX7_readStreet 56 = .ok (.aload_n 0, 1) := by decide +kernel
theorem dX7_readStreet_57 : decode cX7_readStreet 57 = .ok (.getfield 46, 3) := by decide +kernel
theorem dX7_readStreet_60 : decode cX7_readStreet 60 = .ok (.iload_n 2, 1) := by decide +kernel
theorem dX7_readStreet_61 : decode cX7_readStreet 61 = .ok (.iload_n 3, 1) := by decide +kernel
theorem dX7_readStreet_62 : decode cX7_readStreet 62 = .ok (.iload 4, 2) := by decide +kernel
theorem dX7_readStreet_64 : decode cX7_readStreet 64 = .ok (.invokevirtual 106, 3) := by decide +kernel
theorem dX7_readStreet_67 : decode cX7_readStreet 67 = .ok (.aload_n 0, 1) := by decide +kernel
theorem dX7_readStreet_68 : decode cX7_readStreet 68 = .ok (.aload_n 1, 1) := by decide +kernel
theorem dX7_readStreet_69 : decode cX7_readStreet 69 = .ok (.invokevirtual 110, 3) := by decide +kernel
theorem dX7_readStreet_72 : decode cX7_readStreet 72 = .ok (.aload_n 0, 1) := by decide +kernel
theorem dX7_readStreet_73 : decode cX7_readStreet 73 = .ok (.dup, 1) := by decide +kernel
theorem dX7_readStreet_74 : decode cX7_readStreet 74 = .ok (.getfield 46, 3) := by decide +kernel
theorem dX7_readStreet_77 : decode cX7_readStreet 77 = .ok (.iconst 1, 1) := by decide +kernel
theorem dX7_readStreet_78 : decode cX7_readStreet 78 = .ok (.iadd, 1) := by decide +kernel
theorem dX7_readStreet_79 : decode cX7_readStreet 79 = .ok (.putfield 46, 3) := by decide +kernel
theorem dX7_readStreet_82 : decode cX7_readStreet 82 = .ok (.return_, 1) := by decide +kernel
theorem dX7_placeStreet_0 : decode cX7_placeStreet 0 = .ok (.aload_n 0, 1) := by decide +kernel
theorem dX7_placeStreet_1 : decode cX7_placeStreet 1 = .ok (.getfield 11, 3) := by decide +kernel
theorem dX7_placeStreet_4 : decode cX7_placeStreet 4 = .ok (.iconst 2, 1) := by decide +kernel
theorem dX7_placeStreet_5 : decode cX7_placeStreet 5 = .ok (.iload_n 1, 1) := by decide +kernel
theorem dX7_placeStreet_6 : decode cX7_placeStreet 6 = .ok (.imul, 1) := by decide +kernel
theorem dX7_placeStreet_7 : decode cX7_placeStreet 7 = .ok (.iload_n 2, 1) := by decide +kernel
theorem dX7_placeStreet_8 : decode cX7_placeStreet 8 = .ok (.iastore, 1) := by decide +kernel
theorem dX7_placeStreet_9 : decode cX7_placeStreet 9 = .ok (.aload_n 0, 1) := by decide +kernel
theorem dX7_placeStreet_10 : decode cX7_placeStreet 10 = .ok (.getfield 11, 3) := by decide +kernel
theorem dX7_placeStreet_13 : decode cX7_placeStreet 13 = .ok (.iconst 2, 1) := by decide +kernel
theorem dX7_placeStreet_14 : decode cX7_placeStreet 14 = .ok (.iload_n 1, 1) := by decide +kernel
theorem dX7_placeStreet_15 : decode cX7_placeStreet 15 = .ok (.imul, 1) := by decide +kernel
theorem dX7_placeStreet_16 : decode cX7_placeStreet 16 = .ok (.iconst 1, 1) := by decide +kernel
theorem dX7_placeStreet_17 : decode cX7_placeStreet 17 = .ok (.iadd, 1) := by decide +kernel
theorem dX7_placeStreet_18 : decode cX7_placeStreet 18 = .ok (.iload_n 3, 1) := by decide +kernel
theorem dX7_placeStreet_19 : decode cX7_placeStreet 19 = .ok (.iastore, 1) := by decide +kernel
theorem dX7_placeStreet_20 : decode cX7_placeStreet 20 = .ok (.aload_n 0, 1) := by decide +kernel
theorem dX7_placeStreet_21 : decode cX7_placeStreet 21 = .ok (.getfield 15, 3) := by decide +kernel
theorem dX7_placeStreet_24 : decode cX7_placeStreet 24 = .ok (.iload_n 1, 1) := by decide +kernel
theorem dX7_placeStreet_25 : decode cX7_placeStreet 25 = .ok (.iload 4, 2) := by decide +kernel
theorem dX7_placeStreet_27 : decode cX7_placeStreet 27 = .ok (.iastore, 1) := by decide +kernel
theorem dX7_placeStreet_28 : decode cX7_placeStreet 28 = .ok (.aload_n 0, 1) := by decide +kernel
theorem dX7_placeStreet_29 : decode cX7_placeStreet 29 = .ok (.getfield 21, 3) := by decide +kernel
theorem dX7_placeStreet_32 : decode cX7_placeStreet 32 = .ok (.iload_n 1, 1) := by decide +kernel
theorem dX7_placeStreet_33 : decode cX7_placeStreet 33 = .ok (.iconst 0, 1) := by decide +kernel
theorem dX7_placeStreet_34 : decode cX7_placeStreet 34 = .ok (.iastore, 1) := by decide +kernel
theorem dX7_placeStreet_35 : decode cX7_placeStreet 35 = .ok (.aload_n 0, 1) := by decide +kernel
theorem dX7_placeStreet_36 : decode cX7_placeStreet 36 = .ok (.getfield 24, 3) := by decide +kernel
theorem dX7_placeStreet_39 : decode cX7_placeStreet 39 = .ok (.iconst 2, 1) := by decide +kernel
theorem dX7_placeStreet_40 : decode cX7_placeStreet 40 = .ok (.iload_n 1, 1) := by decide +kernel
theorem dX7_placeStreet_41 : decode cX7_placeStreet 41 = .ok (.imul, 1) := by decide +kernel
theorem dX7_placeStreet_42 : decode cX7_placeStreet 42 = .ok (.iconst 0, 1) := by decide +kernel
theorem dX7_placeStreet_43 : decode cX7_placeStreet 43 = .ok (.iastore, 1) := by decide +kernel
theorem dX7_placeStreet_44 : decode cX7_placeStreet 44 = .ok (.aload_n 0, 1) := by decide +kernel
theorem dX7_placeStreet_45 : decode cX7_placeStreet 45 = .ok (.getfield 24, 3) := by decide +kernel
theorem dX7_placeStreet_48 : decode cX7_placeStreet 48 = .ok (.iconst 2, 1) := by decide +kernel
theorem dX7_placeStreet_49 : decode cX7_placeStreet 49 = .ok (.iload_n 1, 1) := by decide +kernel
theorem dX7_placeStreet_50 : decode cX7_placeStreet 50 = .ok (.imul, 1) := by decide +kernel
theorem dX7_placeStreet_51 : decode cX7_placeStreet 51 = .ok (.iconst 1, 1) := by decide +kernel
theorem dX7_placeStreet_52 : decode cX7_placeStreet 52 = .ok (.iadd, 1) := by decide +kernel
theorem dX7_placeStreet_53 : decode cX7_placeStreet 53 = .ok (.iconst 0, 1) := by decide +kernel
theorem dX7_placeStreet_54 : decode cX7_placeStreet 54 = .ok (.iastore, 1) := by decide +kernel
theorem dX7_placeStreet_55 : decode cX7_placeStreet 55 = .ok (.return_, 1) := by decide +kernel
set_option maxRecDepth 20000 in
theorem ggX7_readSigns_X6_lookBehindBlanks : GoodIn wsX7_readSigns wsX6_lookBehindBlanks := goodIn_r _ [6, 7, 8, 9, 10, 136, 137, 138, 139, 140] (by decide +kernel) (by decide +kernel)
set_option maxRecDepth 20000 in
theorem gX7_readSigns_X6_lookBehindBlanks : GoodIn wsX7_readSigns (wsV RX7 113 RX6 yX6_lookBehindBlanks wsX6_lookBehindBlanks) := goodIn_app (goodIn_of _ (by decide +kernel)) ggX7_readSigns_X6_lookBehindBlanks
set_option maxRecDepth 20000 in
theorem ggX7_readSigns_X6_look : GoodIn wsX7_readSigns wsX6_look := goodIn_r _ [14, 7, 8, 9, 136, 137, 138, 139, 140] (by decide +kernel) (by decide +kernel)
set_option maxRecDepth 20000 in
theorem gX7_readSigns_X6_look : GoodIn wsX7_readSigns (wsV RX7 117 RX6 yX6_look wsX6_look) := goodIn_app (goodIn_of _ (by decide +kernel)) ggX7_readSigns_X6_look
set_option maxRecDepth 20000 in
theorem ggX7_readSigns_J0_indexOf_0f7a4 : GoodIn wsX7_readSigns wsJ0_indexOf_0f7a4 := goodIn_r _ [19, 20, 21, 22, 18, 23, 24, 25, 26, 27, 28, 29, 30, 31, 32, 33, 34, 35, 36, 37, 38, 39, 40, 41, 42, 43, 44, 45, 46, 47, 48, 49, 50, 51, 52, 53, 54, 55, 56, 57, 58, 59, 60, 61, 62, 63, 64, 65, 66, 67, 68, 69, 70, 71, 72, 73, 74, 75, 76, 77, 78, 79, 80, 81, 82, 83, 84, 85, 86, 87, 88, 89, 90, 91, 92, 93, 94, 95, 96, 97, 98, 99, 100, 101, 102, 103] (by decide +kernel) (by decide +kernel)
set_option maxRecDepth 20000 in
theorem gX7_readSigns_J0_indexOf_0f7a4 : GoodIn wsX7_readSigns (wsV RX7 122 RJ0 yJ0_indexOf_0f7a4 wsJ0_indexOf_0f7a4) := goodIn_app (goodIn_of _ (by decide +kernel)) ggX7_readSigns_J0_indexOf_0f7a4
set_option maxRecDepth 20000 in
theorem ggX7_readSigns_X6_blameHere : GoodIn wsX7_readSigns wsX6_blameHere := goodIn_r _ [107, 7, 108, 109, 110, 5, 111, 112, 136, 137, 138, 139, 140] (by decide +kernel) (by decide +kernel)
set_option maxRecDepth 20000 in
theorem gX7_readSigns_X6_blameHere : GoodIn wsX7_readSigns (wsV RX7 128 RX6 yX6_blameHere wsX6_blameHere) := goodIn_app (goodIn_of _ (by decide +kernel)) ggX7_readSigns_X6_blameHere
set_option maxRecDepth 20000 in
theorem ggX7_readSigns_X6_pass : GoodIn wsX7_readSigns wsX6_pass := goodIn_r _ [116, 7, 8, 136, 137, 138, 139, 140] (by decide +kernel) (by decide +kernel)
set_option maxRecDepth 20000 in
theorem gX7_readSigns_X6_pass : GoodIn wsX7_readSigns (wsV RX7 131 RX6 yX6_pass wsX6_pass) := goodIn_app (goodIn_of _ (by decide +kernel)) ggX7_readSigns_X6_pass
set_option maxRecDepth 20000 in
theorem ggX7_readSigns_X7_placeSign : GoodIn wsX7_readSigns wsX7_placeSign := goodIn_r _ [121, 122, 123, 124, 125, 126, 127, 128, 129, 130, 131, 132, 133, 134, 135] (by decide +kernel) (by decide +kernel)
set_option maxRecDepth 20000 in
theorem gX7_readSigns_X7_placeSign : GoodIn wsX7_readSigns (wsV RX7 134 RX7 yX7_placeSign wsX7_placeSign) := goodIn_app (goodIn_of _ (by decide +kernel)) ggX7_readSigns_X7_placeSign
theorem dX7_readSigns_0 : decode cX7_readSigns 0 = .ok (.aload_n 1, 1) := by decide +kernel
theorem dX7_readSigns_1 : decode cX7_readSigns 1 = .ok (.invokevirtual 113, 3) := by decide +kernel
theorem dX7_readSigns_4 : decode cX7_readSigns 4 = .ok (.pop, 1) := by decide +kernel
theorem dX7_readSigns_5 : decode cX7_readSigns 5 = .ok (.iconst 0, 1) := by decide +kernel
theorem dX7_readSigns_6 : decode cX7_readSigns 6 = .ok (.istore_n 2, 1) := by decide +kernel
theorem dX7_readSigns_7 : decode cX7_readSigns 7 = .ok (.iload_n 2, 1) := by decide +kernel
theorem dX7_readSigns_8 : decode cX7_readSigns 8 = .ok (.bipush 7, 2) := by decide +kernel
theorem dX7_readSigns_10 : decode cX7_readSigns 10 = .ok (.if_icmp .ge 57, 3) := by decide +kernel
theorem dX7_readSigns_13 : decode cX7_readSigns 13 = .ok (.aload_n 1, 1) := by decide +kernel
theorem dX7_readSigns_14 : decode cX7_readSigns 14 = .ok (.invokevirtual 117, 3) := by decide +kernel
theorem dX7_readSigns_17 : decode cX7_readSigns 17 = .ok (.istore_n 3, 1) := by decide +kernel
theorem dX7_readSigns_18 : decode cX7_readSigns 18 = .ok (.iload_n 3, 1) := by decide +kernel
theorem dX7_readSigns_19 : decode cX7_readSigns 19 = .ok (.iconst (-1), 1) := by decide +kernel
theorem dX7_readSigns_20 : decode cX7_readSigns 20 = .ok (.if_icmp .ne 7, 3) := by decide +kernel
theorem dX7_readSigns_23 : decode cX7_readSigns 23 = .ok (.iconst (-1), 1) := by decide +kernel
theorem dX7_readSigns_24 : decode cX7_readSigns 24 = .ok (.goto 10, 3) := by decide +kernel
theorem dX7_readSigns_27 : decode cX7_readSigns 27 = .ok (.ldc 120, 2) := by decide +kernel
theorem dX7_readSigns_29 : decode cX7_readSigns 29 = .ok (.iload_n 3, 1) := by decide +kernel
theorem dX7_readSigns_30 : decode cX7_readSigns 30 = .ok (.i2c, 1) := by decide +kernel
theorem dX7_readSigns_31 : decode cX7_readSigns 31 = .ok (.invokevirtual 122, 3) := by decide +kernel
theorem dX7_readSigns_34 : decode cX7_readSigns 34 = .ok (.istore 4, 2) := by decide +kernel
theorem dX7_readSigns_36 : decode cX7_readSigns 36 = .ok (.iload 4, 2) := by decide +kernel
theorem dX7_readSigns_38 : decode cX7_readSigns 38 = .ok (.ifCond .ge 8, 3) := by decide +kernel
theorem dX7_readSigns_41 : decode cX7_readSigns 41 = .ok (.aload_n 1, 1) := by decide +kernel
theorem dX7_readSigns_42 : decode cX7_readSigns 42 = .ok (.invokevirtual 128, 3) := by decide +kernel
theorem dX7_readSigns_45 : decode cX7_readSigns 45 = .ok (.return_, 1) := by decide +kernel
theorem dX7_readSigns_46 : decode cX7_readSigns 46 = .ok (.aload_n 1, 1) := by decide +kernel
theorem dX7_readSigns_47 : decode cX7_readSigns 47 = .ok (.invokevirtual 131, 3) := by decide +kernel
theorem dX7_readSigns_50 : decode cX7_readSigns 50 = .ok (.aload_n 0, 1) := by decide +kernel
theorem dX7_readSigns_51 : decode cX7_readSigns 51 = .ok (.aload_n 0, 1) := by decide +kernel
theorem dX7_readSigns_52 : decode cX7_readSigns 52 = .ok (.getfield 46, 3) := by decide +kernel
theorem dX7_readSigns_55 : decode cX7_readSigns 55 = .ok (.iload_n 2, 1) := by decide +kernel
theorem dX7_readSigns_56 : decode cX7_readSigns 56 = .ok (.iload 4, 2) := by decide +kernel
theorem dX7_readSigns_58 : decode cX7_readSigns 58 = .ok (.invokevirtual 134, 3) := by decide +kernel
theorem dX7_readSigns_61 : decode cX7_readSigns 61 = .ok (.iinc 2 1, 3) := by decide +kernel
theorem dX7_readSigns_64 : decode cX7_readSigns 64 = .ok (.goto (-57), 3) := by decide +kernel
theorem dX7_readSigns_67 : decode cX7_readSigns 67 = .ok (.return_, 1) := by decide +kernel
theorem dX7_placeSign_0 : decode cX7_placeSign 0 = .ok (.aload_n 0, 1) := by decide +kernel
theorem dX7_placeSign_1 : decode cX7_placeSign 1 = .ok (.getfield 18, 3) := by decide +kernel
theorem dX7_placeSign_4 : decode cX7_placeSign 4 = .ok (.bipush 7, 2) := by decide +kernel
theorem dX7_placeSign_6 : decode cX7_placeSign 6 = .ok (.iload_n 1, 1) := by decide +kernel
theorem dX7_placeSign_7 : decode cX7_placeSign 7 = .ok (.imul, 1) := by decide +kernel
theorem dX7_placeSign_8 : decode cX7_placeSign 8 = .ok (.iload_n 2, 1) := by decide +kernel
theorem dX7_placeSign_9 : decode cX7_placeSign 9 = .ok (.iadd, 1) := by decide +kernel
theorem dX7_placeSign_10 : decode cX7_placeSign 10 = .ok (.iload_n 3, 1) := by decide +kernel
theorem dX7_placeSign_11 : decode cX7_placeSign 11 = .ok (.iastore, 1) := by decide +kernel
theorem dX7_placeSign_12 : decode cX7_placeSign 12 = .ok (.aload_n 0, 1) := by decide +kernel
theorem dX7_placeSign_13 : decode cX7_placeSign 13 = .ok (.getfield 24, 3) := by decide +kernel
theorem dX7_placeSign_16 : decode cX7_placeSign 16 = .ok (.iconst 2, 1) := by decide +kernel
theorem dX7_placeSign_17 : decode cX7_placeSign 17 = .ok (.iload_n 1, 1) := by decide +kernel
theorem dX7_placeSign_18 : decode cX7_placeSign 18 = .ok (.imul, 1) := by decide +kernel
theorem dX7_placeSign_19 : decode cX7_placeSign 19 = .ok (.dup2, 1) := by decide +kernel
theorem dX7_placeSign_20 : decode cX7_placeSign 20 = .ok (.iaload, 1) := by decide +kernel
theorem dX7_placeSign_21 : decode cX7_placeSign 21 = .ok (.iload_n 3, 1) := by decide +kernel
theorem dX7_placeSign_22 : decode cX7_placeSign 22 = .ok (.iconst 1, 1) := by decide +kernel
theorem dX7_placeSign_23 : decode cX7_placeSign 23 = .ok (.iand, 1) := by decide +kernel
theorem dX7_placeSign_24 : decode cX7_placeSign 24 = .ok (.iload_n 2, 1) := by decide +kernel
theorem dX7_placeSign_25 : decode cX7_placeSign 25 = .ok (.ishl, 1) := by decide +kernel
theorem dX7_placeSign_26 : decode cX7_placeSign 26 = .ok (.ior, 1) := by decide +kernel
theorem dX7_placeSign_27 : decode cX7_placeSign 27 = .ok (.iastore, 1) := by decide +kernel
theorem dX7_placeSign_28 : decode cX7_placeSign 28 = .ok (.aload_n 0, 1) := by decide +kernel
theorem dX7_placeSign_29 : decode cX7_placeSign 29 = .ok (.getfield 24, 3) := by decide +kernel
theorem dX7_placeSign_32 : decode cX7_placeSign 32 = .ok (.iconst 2, 1) := by decide +kernel
theorem dX7_placeSign_33 : decode cX7_placeSign 33 = .ok (.iload_n 1, 1) := by decide +kernel
theorem dX7_placeSign_34 : decode cX7_placeSign 34 = .ok (.imul, 1) := by decide +kernel
theorem dX7_placeSign_35 : decode cX7_placeSign 35 = .ok (.iconst 1, 1) := by decide +kernel
theorem dX7_placeSign_36 : decode cX7_placeSign 36 = .ok (.iadd, 1) := by decide +kernel
theorem dX7_placeSign_37 : decode cX7_placeSign 37 = .ok (.dup2, 1) := by decide +kernel
theorem dX7_placeSign_38 : decode cX7_placeSign 38 = .ok (.iaload, 1) := by decide +kernel
theorem dX7_placeSign_39 : decode cX7_placeSign 39 = .ok (.iload_n 3, 1) := by decide +kernel
theorem dX7_placeSign_40 : decode cX7_placeSign 40 = .ok (.iconst 1, 1) := by decide +kernel
theorem dX7_placeSign_41 : decode cX7_placeSign 41 = .ok (.ishr, 1) := by decide +kernel
theorem dX7_placeSign_42 : decode cX7_placeSign 42 = .ok (.iload_n 2, 1) := by decide +kernel
theorem dX7_placeSign_43 : decode cX7_placeSign 43 = .ok (.ishl, 1) := by decide +kernel
theorem dX7_placeSign_44 : decode cX7_placeSign 44 = .ok (.ior, 1) := by decide +kernel
theorem dX7_placeSign_45 : decode cX7_placeSign 45 = .ok (.iastore, 1) := by decide +kernel
theorem dX7_placeSign_46 : decode cX7_placeSign 46 = .ok (.return_, 1) := by decide +kernel
set_option maxRecDepth 20000 in
theorem ggX7_readSaint_X6_readNumber : GoodIn wsX7_readSaint wsX6_readNumber := goodIn_r _ [9, 10, 11, 12, 13, 14, 15, 16, 8, 17, 18, 19, 20, 21, 22, 23, 24, 25, 26, 27, 28, 29, 43, 44, 45, 46, 47] (by decide +kernel) (by decide +kernel)
set_option maxRecDepth 20000 in
theorem gX7_readSaint_X6_readNumber : GoodIn wsX7_readSaint (wsV RX7 92 RX6 yX6_readNumber wsX6_readNumber) := goodIn_app (goodIn_of _ (by decide +kernel)) ggX7_readSaint_X6_readNumber
set_option maxRecDepth 20000 in
theorem ggX7_readSaint_X6_isFaulty : GoodIn wsX7_readSaint wsX6_isFaulty := goodIn_r _ [17, 18, 43, 44, 45, 46, 47] (by decide +kernel) (by decide +kernel)
set_option maxRecDepth 20000 in
theorem gX7_readSaint_X6_isFaulty : GoodIn wsX7_readSaint (wsV RX7 89 RX6 yX6_isFaulty wsX6_isFaulty) := goodIn_app (goodIn_of _ (by decide +kernel)) ggX7_readSaint_X6_isFaulty
theorem dX7_readSaint_0 : decode cX7_readSaint 0 = .ok (.aload_n 1, 1) := by decide +kernel
theorem dX7_readSaint_1 : decode cX7_readSaint 1 = .ok (.iconst 0, 1) := by decide +kernel
theorem dX7_readSaint_2 : decode cX7_readSaint 2 = .ok (.aload_n 0, 1) := by decide +kernel
theorem dX7_readSaint_3 : decode cX7_readSaint 3 = .ok (.getfield 42, 3) := by decide +kernel
theorem dX7_readSaint_6 : decode cX7_readSaint 6 = .ok (.iconst 1, 1) := by decide +kernel
theorem dX7_readSaint_7 : decode cX7_readSaint 7 = .ok (.isub, 1) := by decide +kernel
theorem dX7_readSaint_8 : decode cX7_readSaint 8 = .ok (.invokevirtual 92, 3) := by decide +kernel
theorem dX7_readSaint_11 : decode cX7_readSaint 11 = .ok (.istore_n 2, 1) := by decide +kernel
theorem dX7_readSaint_12 : decode cX7_readSaint 12 = .ok (.aload_n 1, 1) := by decide +kernel
theorem dX7_readSaint_13 : decode cX7_readSaint 13 = .ok (.iconst 0, 1) := by decide +kernel
theorem dX7_readSaint_14 : decode cX7_readSaint 14 = .ok (.sipush 359, 3) := by decide +kernel
theorem dX7_readSaint_17 : decode cX7_readSaint 17 = .ok (.invokevirtual 92, 3) := by decide +kernel
theorem dX7_readSaint_20 : decode cX7_readSaint 20 = .ok (.istore_n 3, 1) := by decide +kernel
theorem dX7_readSaint_21 : decode cX7_readSaint 21 = .ok (.aload_n 1, 1) := by decide +kernel
theorem dX7_readSaint_22 : decode cX7_readSaint 22 = .ok (.invokevirtual 89, 3) := by decide +kernel
theorem dX7_readSaint_25 : decode cX7_readSaint 25 = .ok (.ifCond .eq 4, 3) := by decide +kernel
theorem dX7_readSaint_28 : decode cX7_readSaint 28 = .ok (.return_, 1) := by decide +kernel
theorem dX7_readSaint_29 : decode cX7_readSaint 29 = .ok (.aload_n 0, 1) := by decide +kernel
theorem dX7_readSaint_30 : decode cX7_readSaint 30 = .ok (.getfield 27, 3) := by decide +kernel
theorem dX7_readSaint_33 : decode cX7_readSaint 33 = .ok (.aload_n 0, 1) := by decide +kernel
theorem dX7_readSaint_34 : decode cX7_readSaint 34 = .ok (.getfield 49, 3) := by decide +kernel
theorem dX7_readSaint_37 : decode cX7_readSaint 37 = .ok (.iload_n 2, 1) := by decide +kernel
theorem dX7_readSaint_38 : decode cX7_readSaint 38 = .ok (.iastore, 1) := by decide +kernel
theorem dX7_readSaint_39 : decode cX7_readSaint 39 = .ok (.aload_n 0, 1) := by decide +kernel
theorem dX7_readSaint_40 : decode cX7_readSaint 40 = .ok (.getfield 30, 3) := by decide +kernel
theorem dX7_readSaint_43 : decode cX7_readSaint 43 = .ok (.aload_n 0, 1) := by decide +kernel
theorem dX7_readSaint_44 : decode cX7_readSaint 44 = .ok (.getfield 49, 3) := by decide +kernel
theorem dX7_readSaint_47 : decode cX7_readSaint 47 = .ok (.iload_n 3, 1) := by decide +kernel
theorem dX7_readSaint_48 : decode cX7_readSaint 48 = .ok (.iastore, 1) := by decide +kernel
theorem dX7_readSaint_49 : decode cX7_readSaint 49 = .ok (.aload_n 0, 1) := by decide +kernel
theorem dX7_readSaint_50 : decode cX7_readSaint 50 = .ok (.dup, 1) := by decide +kernel
theorem dX7_readSaint_51 : decode cX7_readSaint 51 = .ok (.getfield 49, 3) := by decide +kernel
theorem dX7_readSaint_54 : decode cX7_readSaint 54 = .ok (.iconst 1, 1) := by decide +kernel
theorem dX7_readSaint_55 : decode cX7_readSaint 55 = .ok (.iadd, 1) := by decide +kernel
theorem dX7_readSaint_56 : decode cX7_readSaint 56 = .ok (.putfield 49, 3) := by decide +kernel
theorem dX7_readSaint_59 : decode cX7_readSaint 59 = .ok (.return_, 1) := by decide +kernel
set_option maxRecDepth 20000 in
theorem ggX7_readLift_X6_readNumber : GoodIn wsX7_readLift wsX6_readNumber := goodIn_r _ [8, 9, 10, 11, 12, 13, 14, 15, 7, 16, 17, 18, 19, 20, 21, 22, 23, 24, 25, 26, 27, 28, 42, 43, 44, 45, 46] (by decide +kernel) (by decide +kernel)
set_option maxRecDepth 20000 in
theorem gX7_readLift_X6_readNumber : GoodIn wsX7_readLift (wsV RX7 92 RX6 yX6_readNumber wsX6_readNumber) := goodIn_app (goodIn_of _ (by decide +kernel)) ggX7_readLift_X6_readNumber
set_option maxRecDepth 20000 in
theorem ggX7_readLift_X6_isFaulty : GoodIn wsX7_readLift wsX6_isFaulty := goodIn_r _ [16, 17, 42, 43, 44, 45, 46] (by decide +kernel) (by decide +kernel)
set_option maxRecDepth 20000 in
theorem gX7_readLift_X6_isFaulty : GoodIn wsX7_readLift (wsV RX7 89 RX6 yX6_isFaulty wsX6_isFaulty) := goodIn_app (goodIn_of _ (by decide +kernel)) ggX7_readLift_X6_isFaulty
theorem dX7_readLift_0 : decode cX7_readLift 0 = .ok (.aload_n 1, 1) := by decide +kernel
theorem dX7_readLift_1 : decode cX7_readLift 1 = .ok (.iconst 0, 1) := by decide +kernel
theorem dX7_readLift_2 : decode cX7_readLift 2 = .ok (.aload_n 0, 1) := by decide +kernel
theorem dX7_readLift_3 : decode cX7_readLift 3 = .ok (.getfield 46, 3) := by decide +kernel
theorem dX7_readLift_6 : decode cX7_readLift 6 = .ok (.iconst 1, 1) := by decide +kernel
theorem dX7_readLift_7 : decode cX7_readLift 7 = .ok (.isub, 1) := by decide +kernel
theorem dX7_readLift_8 : decode cX7_readLift 8 = .ok (.invokevirtual 92, 3) := by decide +kernel
theorem dX7_readLift_11 : decode cX7_readLift 11 = .ok (.istore_n 2, 1) := by decide +kernel
theorem dX7_readLift_12 : decode cX7_readLift 12 = .ok (.aload_n 1, 1) := by decide +kernel
theorem dX7_readLift_13 : decode cX7_readLift 13 = .ok (.iconst 0, 1) := by decide +kernel
theorem dX7_readLift_14 : decode cX7_readLift 14 = .ok (.bipush 23, 2) := by decide +kernel
theorem dX7_readLift_16 : decode cX7_readLift 16 = .ok (.invokevirtual 92, 3) := by decide +kernel
theorem dX7_readLift_19 : decode cX7_readLift 19 = .ok (.istore_n 3, 1) := by decide +kernel
theorem dX7_readLift_20 : decode cX7_readLift 20 = .ok (.aload_n 1, 1) := by decide +kernel
theorem dX7_readLift_21 : decode cX7_readLift 21 = .ok (.iload_n 3, 1) := by decide +kernel
theorem dX7_readLift_22 : decode cX7_readLift 22 = .ok (.iconst 1, 1) := by decide +kernel
theorem dX7_readLift_23 : decode cX7_readLift 23 = .ok (.iadd, 1) := by decide +kernel
theorem dX7_readLift_24 : decode cX7_readLift 24 = .ok (.bipush 24, 2) := by decide +kernel
theorem dX7_readLift_26 : decode cX7_readLift 26 = .ok (.invokevirtual 92, 3) := by decide +kernel
theorem dX7_readLift_29 : decode cX7_readLift 29 = .ok (.istore 4, 2) := by decide +kernel
theorem dX7_readLift_31 : decode cX7_readLift 31 = .ok (.aload_n 1, 1) := by decide +kernel
theorem dX7_readLift_32 : decode cX7_readLift 32 = .ok (.invokevirtual 89, 3) := by decide +kernel
theorem dX7_readLift_35 : decode cX7_readLift 35 = .ok (.ifCond .eq 4, 3) := by decide +kernel
theorem dX7_readLift_38 : decode cX7_readLift 38 = .ok (.return_, 1) := by decide +kernel
theorem dX7_readLift_39 : decode cX7_readLift 39 = .ok (.aload_n 0, 1) := by decide +kernel
theorem dX7_readLift_40 : decode cX7_readLift 40 = .ok (.getfield 21, 3) := by decide +kernel
theorem dX7_readLift_43 : decode cX7_readLift 43 = .ok (.iload_n 2, 1) := by decide +kernel
theorem dX7_readLift_44 : decode cX7_readLift 44 = .ok (.dup2, 1) := by decide +kernel
theorem dX7_readLift_45 : decode cX7_readLift 45 = .ok (.iaload, 1) := by decide +kernel
theorem dX7_readLift_46 : decode cX7_readLift 46 = .ok (.iconst 1, 1) := by decide +kernel
theorem dX7_readLift_47 : decode cX7_readLift 47 = .ok (.iload 4, 2) := by decide +kernel
theorem dX7_readLift_49 : decode cX7_readLift 49 = .ok (.ishl, 1) := by decide +kernel
theorem dX7_readLift_50 : decode cX7_readLift 50 = .ok (.iconst 1, 1) := by decide +kernel
theorem dX7_readLift_51 : decode cX7_readLift 51 = .ok (.iload_n 3, 1) := by decide +kernel
theorem dX7_readLift_52 : decode cX7_readLift 52 = .ok (.ishl, 1) := by decide +kernel
theorem dX7_readLift_53 : decode cX7_readLift 53 = .ok (.isub, 1) := by decide +kernel
theorem dX7_readLift_54 : decode cX7_readLift 54 = .ok (.ior, 1) := by decide +kernel
theorem dX7_readLift_55 : decode cX7_readLift 55 = .ok (.iastore, 1) := by decide +kernel
theorem dX7_readLift_56 : decode cX7_readLift 56 = .ok (.aload_n 0, 1) := by decide +kernel
theorem dX7_readLift_57 : decode cX7_readLift 57 = .ok (.dup, 1) := by decide +kernel
theorem dX7_readLift_58 : decode cX7_readLift 58 = .ok (.getfield 52, 3) := by decide +kernel
theorem dX7_readLift_61 : decode cX7_readLift 61 = .ok (.iconst 1, 1) := by decide +kernel
theorem dX7_readLift_62 : decode cX7_readLift 62 = .ok (.iadd, 1) := by decide +kernel
theorem dX7_readLift_63 : decode cX7_readLift 63 = .ok (.putfield 52, 3) := by decide +kernel
theorem dX7_readLift_66 : decode cX7_readLift 66 = .ok (.return_, 1) := by decide +kernel
set_option maxRecDepth 20000 in
theorem ggX7_tryStreet_X7_placeStreet : GoodIn wsX7_tryStreet wsX7_placeStreet := goodIn_r _ [6, 7, 8, 9, 10, 27, 28, 29, 30, 31, 32, 33, 34, 35, 36, 37, 38] (by decide +kernel) (by decide +kernel)
set_option maxRecDepth 20000 in
theorem gX7_tryStreet_X7_placeStreet : GoodIn wsX7_tryStreet (wsV RX7 106 RX7 yX7_placeStreet wsX7_placeStreet) := goodIn_app (goodIn_of _ (by decide +kernel)) ggX7_tryStreet_X7_placeStreet
set_option maxRecDepth 20000 in
theorem ggX7_tryStreet_X7_placeSign : GoodIn wsX7_tryStreet wsX7_placeSign := goodIn_r _ [14, 15, 10, 27, 28, 29, 30, 31, 32, 33, 34, 35, 36, 37, 38] (by decide +kernel) (by decide +kernel)
set_option maxRecDepth 20000 in
theorem gX7_tryStreet_X7_placeSign : GoodIn wsX7_tryStreet (wsV RX7 134 RX7 yX7_placeSign wsX7_placeSign) := goodIn_app (goodIn_of _ (by decide +kernel)) ggX7_tryStreet_X7_placeSign
set_option maxRecDepth 20000 in
theorem ggX7_tryStreet_X7_findSaints : GoodIn wsX7_tryStreet wsX7_findSaints := goodIn_r _ [19, 20, 21, 22, 23, 24, 25, 5, 26, 7, 27, 28, 29, 30, 31, 32, 33, 34, 35, 36, 37, 38] (by decide +kernel) (by decide +kernel)
set_option maxRecDepth 20000 in
theorem gX7_tryStreet_X7_findSaints : GoodIn wsX7_tryStreet (wsV RX7 85 RX7 yX7_findSaints wsX7_findSaints) := goodIn_app (goodIn_of _ (by decide +kernel)) ggX7_tryStreet_X7_findSaints
theorem dX7_tryStreet_0 : decode cX7_tryStreet 0 = .ok (.aload_n 0, 1) := by decide +kernel
theorem dX7_tryStreet_1 : decode cX7_tryStreet 1 = .ok (.aload_n 0, 1) := by decide +kernel
theorem dX7_tryStreet_2 : decode cX7_tryStreet 2 = .ok (.getfield 46, 3) := by decide +kernel
theorem dX7_tryStreet_5 : decode cX7_tryStreet 5 = .ok (.iload_n 1, 1) := by decide +kernel
theorem dX7_tryStreet_6 : decode cX7_tryStreet 6 = .ok (.iload_n 2, 1) := by decide +kernel
theorem dX7_tryStreet_7 : decode cX7_tryStreet 7 = .ok (.iload_n 3, 1) := by decide +kernel
theorem dX7_tryStreet_8 : decode cX7_tryStreet 8 = .ok (.invokevirtual 106, 3) := by decide +kernel
theorem dX7_tryStreet_11 : decode cX7_tryStreet 11 = .ok (.iconst 0, 1) := by decide +kernel
theorem dX7_tryStreet_12 : decode cX7_tryStreet 12 = .ok (.istore 4, 2) := by decide +kernel
theorem dX7_tryStreet_14 : decode cX7_tryStreet 14 = .ok (.iload 4, 2) := by decide +kernel
theorem dX7_tryStreet_16 : decode cX7_tryStreet 16 = .ok (.bipush 7, 2) := by decide +kernel
theorem dX7_tryStreet_18 : decode cX7_tryStreet 18 = .ok (.if_icmp .ge 20, 3) := by decide +kernel
theorem dX7_tryStreet_21 : decode cX7_tryStreet 21 = .ok (.aload_n 0, 1) := by decide +kernel
theorem dX7_tryStreet_22 : decode cX7_tryStreet 22 = .ok (.aload_n 0, 1) := by decide +kernel
theorem dX7_tryStreet_23 : decode cX7_tryStreet 23 = .ok (.getfield 46, 3) := by decide +kernel
theorem dX7_tryStreet_26 : decode cX7_tryStreet 26 = .ok (.iload 4, 2) := by decide +kernel
theorem dX7_tryStreet_28 : decode cX7_tryStreet 28 = .ok (.iconst 3, 1) := by decide +kernel
theorem dX7_tryStreet_29 : decode cX7_tryStreet 29 = .ok (.invokevirtual 134, 3) := by decide +kernel
theorem dX7_tryStreet_32 : decode cX7_tryStreet 32 = .ok (.iinc 4 1, 3) := by decide +kernel
theorem dX7_tryStreet_35 : decode cX7_tryStreet 35 = .ok (.goto (-21), 3) := by decide +kernel
theorem dX7_tryStreet_38 : decode cX7_tryStreet 38 = .ok (.aload_n 0, 1) := by decide +kernel
theorem dX7_tryStreet_39 : decode cX7_tryStreet 39 = .ok (.aload_n 0, 1) := by decide +kernel
theorem dX7_tryStreet_40 : decode cX7_tryStreet 40 = .ok (.getfield 46, 3) := by decide +kernel
theorem dX7_tryStreet_43 : decode cX7_tryStreet 43 = .ok (.invokevirtual 85, 3) := by decide +kernel
theorem dX7_tryStreet_46 : decode cX7_tryStreet 46 = .ok (.return_, 1) := by decide +kernel
theorem dX7_hasStreet_0 : decode cX7_hasStreet 0 = .ok (.iload_n 1, 1) := by decide +kernel
theorem dX7_hasStreet_1 : decode cX7_hasStreet 1 = .ok (.ifCond .lt 15, 3) := by decide +kernel
theorem dX7_hasStreet_4 : decode cX7_hasStreet 4 = .ok (.iload_n 1, 1) := by decide +kernel
theorem dX7_hasStreet_5 : decode cX7_hasStreet 5 = .ok (.aload_n 0, 1) := by decide +kernel
theorem dX7_hasStreet_6 : decode cX7_hasStreet 6 = .ok (.getfield 46, 3) := by decide +kernel
theorem dX7_hasStreet_9 : decode cX7_hasStreet 9 = .ok (.if_icmp .ge 7, 3) := by decide +kernel
theorem dX7_hasStreet_12 : decode cX7_hasStreet 12 = .ok (.iconst 1, 1) := by decide +kernel
theorem dX7_hasStreet_13 : decode cX7_hasStreet 13 = .ok (.goto 4, 3) := by decide +kernel
theorem dX7_hasStreet_16 : decode cX7_hasStreet 16 = .ok (.iconst 0, 1) := by decide +kernel
theorem dX7_hasStreet_17 : decode cX7_hasStreet 17 = .ok (.ireturn, 1) := by decide +kernel
theorem dX7_signOn_0 : decode cX7_signOn 0 = .ok (.aload_n 0, 1) := by decide +kernel
theorem dX7_signOn_1 : decode cX7_signOn 1 = .ok (.getfield 18, 3) := by decide +kernel
theorem dX7_signOn_4 : decode cX7_signOn 4 = .ok (.bipush 7, 2) := by decide +kernel
theorem dX7_signOn_6 : decode cX7_signOn 6 = .ok (.iload_n 1, 1) := by decide +kernel
theorem dX7_signOn_7 : decode cX7_signOn 7 = .ok (.imul, 1) := by decide +kernel
theorem dX7_signOn_8 : decode cX7_signOn 8 = .ok (.iload_n 2, 1) := by decide +kernel
theorem dX7_signOn_9 : decode cX7_signOn 9 = .ok (.iadd, 1) := by decide +kernel
theorem dX7_signOn_10 : decode cX7_signOn 10 = .ok (.iaload, 1) := by decide +kernel
theorem dX7_signOn_11 : decode cX7_signOn 11 = .ok (.ireturn, 1) := by decide +kernel
theorem dX7_sideOf_0 : decode cX7_sideOf 0 = .ok (.aload_n 0, 1) := by decide +kernel
theorem dX7_sideOf_1 : decode cX7_sideOf 1 = .ok (.getfield 11, 3) := by decide +kernel
theorem dX7_sideOf_4 : decode cX7_sideOf 4 = .ok (.iconst 2, 1) := by decide +kernel
theorem dX7_sideOf_5 : decode cX7_sideOf 5 = .ok (.iload_n 1, 1) := by decide +kernel
theorem dX7_sideOf_6 : decode cX7_sideOf 6 = .ok (.imul, 1) := by decide +kernel
theorem dX7_sideOf_7 : decode cX7_sideOf 7 = .ok (.iaload, 1) := by decide +kernel
theorem dX7_sideOf_8 : decode cX7_sideOf 8 = .ok (.iload_n 2, 1) := by decide +kernel
theorem dX7_sideOf_9 : decode cX7_sideOf 9 = .ok (.if_icmp .ne 5, 3) := by decide +kernel
theorem dX7_sideOf_12 : decode cX7_sideOf 12 = .ok (.iconst 0, 1) := by decide +kernel
theorem dX7_sideOf_13 : decode cX7_sideOf 13 = .ok (.ireturn, 1) := by decide +kernel
theorem dX7_sideOf_14 : decode cX7_sideOf 14 = .ok (.aload_n 0, 1) := by decide +kernel
theorem dX7_sideOf_15 : decode cX7_sideOf 15 = .ok (.getfield 11, 3) := by decide +kernel
theorem dX7_sideOf_18 : decode cX7_sideOf 18 = .ok (.iconst 2, 1) := by decide +kernel
theorem dX7_sideOf_19 : decode cX7_sideOf 19 = .ok (.iload_n 1, 1) := by decide +kernel
theorem dX7_sideOf_20 : decode cX7_sideOf 20 = .ok (.imul, 1) := by decide +kernel
theorem dX7_sideOf_21 : decode cX7_sideOf 21 = .ok (.iconst 1, 1) := by decide +kernel
theorem dX7_sideOf_22 : decode cX7_sideOf 22 = .ok (.iadd, 1) := by decide +kernel
theorem dX7_sideOf_23 : decode cX7_sideOf 23 = .ok (.iaload, 1) := by decide +kernel
theorem dX7_sideOf_24 : decode cX7_sideOf 24 = .ok (.iload_n 2, 1) := by decide +kernel
theorem dX7_sideOf_25 : decode cX7_sideOf 25 = .ok (.if_icmp .ne 7, 3) := by decide +kernel
theorem dX7_sideOf_28 : decode cX7_sideOf 28 = .ok (.iconst 1, 1) := by decide +kernel
theorem dX7_sideOf_29 : decode cX7_sideOf 29 = .ok (.goto 4, 3) := by decide +kernel
theorem dX7_sideOf_32 : decode cX7_sideOf 32 = .ok (.iconst (-1), 1) := by decide +kernel
theorem dX7_sideOf_33 : decode cX7_sideOf 33 = .ok (.ireturn, 1) := by decide +kernel
theorem dX7_cornerAcross_0 : decode cX7_cornerAcross 0 = .ok (.aload_n 0, 1) := by decide +kernel
theorem dX7_cornerAcross_1 : decode cX7_cornerAcross 1 = .ok (.getfield 11, 3) := by decide +kernel
theorem dX7_cornerAcross_4 : decode cX7_cornerAcross 4 = .ok (.iconst 2, 1) := by decide +kernel
theorem dX7_cornerAcross_5 : decode cX7_cornerAcross 5 = .ok (.iload_n 1, 1) := by decide +kernel
theorem dX7_cornerAcross_6 : decode cX7_cornerAcross 6 = .ok (.imul, 1) := by decide +kernel
theorem dX7_cornerAcross_7 : decode cX7_cornerAcross 7 = .ok (.iconst 1, 1) := by decide +kernel
theorem dX7_cornerAcross_8 : decode cX7_cornerAcross 8 = .ok (.iadd, 1) := by decide +kernel
theorem dX7_cornerAcross_9 : decode cX7_cornerAcross 9 = .ok (.iload_n 2, 1) := by decide +kernel
theorem dX7_cornerAcross_10 : decode cX7_cornerAcross 10 = .ok (.isub, 1) := by decide +kernel
theorem dX7_cornerAcross_11 : decode cX7_cornerAcross 11 = .ok (.iaload, 1) := by decide +kernel
theorem dX7_cornerAcross_12 : decode cX7_cornerAcross 12 = .ok (.ireturn, 1) := by decide +kernel
set_option maxRecDepth 20000 in
theorem ggX7_findSaints_X7_sideOf : GoodIn wsX7_findSaints wsX7_sideOf := goodIn_r _ [8, 9, 10, 11, 12, 13, 14, 15, 16, 17, 18, 19, 20, 21] (by decide +kernel) (by decide +kernel)
set_option maxRecDepth 20000 in
theorem gX7_findSaints_X7_sideOf : GoodIn wsX7_findSaints (wsV RX7 138 RX7 yX7_sideOf wsX7_sideOf) := goodIn_app (goodIn_of _ (by decide +kernel)) ggX7_findSaints_X7_sideOf
theorem dX7_findSaints_0 : decode cX7_findSaints 0 = .ok (.aload_n 0, 1) := by decide +kernel
theorem dX7_findSaints_1 : decode cX7_findSaints 1 = .ok (.getfield 33, 3) := by decide +kernel
theorem dX7_findSaints_4 : decode cX7_findSaints 4 = .ok (.iload_n 1, 1) := by decide +kernel
theorem dX7_findSaints_5 : decode cX7_findSaints 5 = .ok (.iconst 0, 1) := by decide +kernel
theorem dX7_findSaints_6 : decode cX7_findSaints 6 = .ok (.iastore, 1) := by decide +kernel
theorem dX7_findSaints_7 : decode cX7_findSaints 7 = .ok (.iconst 0, 1) := by decide +kernel
theorem dX7_findSaints_8 : decode cX7_findSaints 8 = .ok (.istore_n 2, 1) := by decide +kernel
theorem dX7_findSaints_9 : decode cX7_findSaints 9 = .ok (.iload_n 2, 1) := by decide +kernel
theorem dX7_findSaints_10 : decode cX7_findSaints 10 = .ok (.aload_n 0, 1) := by decide +kernel
theorem dX7_findSaints_11 : decode cX7_findSaints 11 = .ok (.getfield 49, 3) := by decide +kernel
theorem dX7_findSaints_14 : decode cX7_findSaints 14 = .ok (.if_icmp .ge 36, 3) := by decide +kernel
theorem dX7_findSaints_17 : decode cX7_findSaints 17 = .ok (.aload_n 0, 1) := by decide +kernel
theorem dX7_findSaints_18 : decode cX7_findSaints 18 = .ok (.iload_n 1, 1) := by decide +kernel
theorem dX7_findSaints_19 : decode cX7_findSaints 19 = .ok (.aload_n 0, 1) := by decide +kernel
theorem dX7_findSaints_20 : decode cX7_findSaints 20 = .ok (.getfield 27, 3) := by decide +kernel
theorem dX7_findSaints_23 : decode cX7_findSaints 23 = .ok (.iload_n 2, 1) := by decide +kernel
theorem dX7_findSaints_24 : decode cX7_findSaints 24 = .ok (.iaload, 1) := by decide +kernel
theorem dX7_findSaints_25 : decode cX7_findSaints 25 = .ok (.invokevirtual 138, 3) := by decide +kernel
theorem dX7_findSaints_28 : decode cX7_findSaints 28 = .ok (.iconst (-1), 1) := by decide +kernel
theorem dX7_findSaints_29 : decode cX7_findSaints 29 = .ok (.if_icmp .eq 15, 3) := by decide +kernel
theorem dX7_findSaints_32 : decode cX7_findSaints 32 = .ok (.aload_n 0, 1) := by decide +kernel
theorem dX7_findSaints_33 : decode cX7_findSaints 33 = .ok (.getfield 33, 3) := by decide +kernel
theorem dX7_findSaints_36 : decode cX7_findSaints 36 = .ok (.iload_n 1, 1) := by decide +kernel
theorem dX7_findSaints_37 : decode cX7_findSaints 37 = .ok (.dup2, 1) := by decide +kernel
theorem dX7_findSaints_38 : decode cX7_findSaints 38 = .ok (.iaload, 1) := by decide +kernel
theorem dX7_findSaints_39 : decode cX7_findSaints 39 = .ok (.iconst 1, 1) := by decide +kernel
theorem dX7_findSaints_40 : decode cX7_findSaints 40 = .ok (.iload_n 2, 1) := by decide +kernel
theorem dX7_findSaints_41 : decode cX7_findSaints 41 = .ok (.ishl, 1) := by decide +kernel
theorem dX7_findSaints_42 : decode cX7_findSaints 42 = .ok (.ior, 1) := by decide +kernel
theorem dX7_findSaints_43 : decode cX7_findSaints 43 = .ok (.iastore, 1) := by decide +kernel
theorem dX7_findSaints_44 : decode cX7_findSaints 44 = .ok (.iinc 2 1, 3) := by decide +kernel
theorem dX7_findSaints_47 : decode cX7_findSaints 47 = .ok (.goto (-38), 3) := by decide +kernel
theorem dX7_findSaints_50 : decode cX7_findSaints 50 = .ok (.return_, 1) := by decide +kernel
theorem dX7_openHours_0 : decode cX7_openHours 0 = .ok (.aload_n 0, 1) := by decide +kernel
theorem dX7_openHours_1 : decode cX7_openHours 1 = .ok (.getfield 24, 3) := by decide +kernel
theorem dX7_openHours_4 : decode cX7_openHours 4 = .ok (.iconst 2, 1) := by decide +kernel
theorem dX7_openHours_5 : decode cX7_openHours 5 = .ok (.iload_n 1, 1) := by decide +kernel
theorem dX7_openHours_6 : decode cX7_openHours 6 = .ok (.imul, 1) := by decide +kernel
theorem dX7_openHours_7 : decode cX7_openHours 7 = .ok (.iload_n 2, 1) := by decide +kernel
theorem dX7_openHours_8 : decode cX7_openHours 8 = .ok (.iadd, 1) := by decide +kernel
theorem dX7_openHours_9 : decode cX7_openHours 9 = .ok (.iaload, 1) := by decide +kernel
theorem dX7_openHours_10 : decode cX7_openHours 10 = .ok (.lload_n 3, 1) := by decide +kernel
theorem dX7_openHours_11 : decode cX7_openHours 11 = .ok (.ldc2_w 141, 3) := by decide +kernel
theorem dX7_openHours_14 : decode cX7_openHours 14 = .ok (.lrem, 1) := by decide +kernel
theorem dX7_openHours_15 : decode cX7_openHours 15 = .ok (.l2i, 1) := by decide +kernel
theorem dX7_openHours_16 : decode cX7_openHours 16 = .ok (.ishr, 1) := by decide +kernel
theorem dX7_openHours_17 : decode cX7_openHours 17 = .ok (.iconst 1, 1) := by decide +kernel
theorem dX7_openHours_18 : decode cX7_openHours 18 = .ok (.iand, 1) := by decide +kernel
theorem dX7_openHours_19 : decode cX7_openHours 19 = .ok (.ifCond .ne 5, 3) := by decide +kernel
theorem dX7_openHours_22 : decode cX7_openHours 22 = .ok (.iconst 0, 1) := by decide +kernel
theorem dX7_openHours_23 : decode cX7_openHours 23 = .ok (.ireturn, 1) := by decide +kernel
theorem dX7_openHours_24 : decode cX7_openHours 24 = .ok (.iload 5, 2) := by decide +kernel
theorem dX7_openHours_26 : decode cX7_openHours 26 = .ok (.ifCond .eq 12, 3) := by decide +kernel
theorem dX7_openHours_29 : decode cX7_openHours 29 = .ok (.aload_n 0, 1) := by decide +kernel
theorem dX7_openHours_30 : decode cX7_openHours 30 = .ok (.getfield 33, 3) := by decide +kernel
theorem dX7_openHours_33 : decode cX7_openHours 33 = .ok (.iload_n 1, 1) := by decide +kernel
theorem dX7_openHours_34 : decode cX7_openHours 34 = .ok (.iaload, 1) := by decide +kernel
theorem dX7_openHours_35 : decode cX7_openHours 35 = .ok (.goto 4, 3) := by decide +kernel
theorem dX7_openHours_38 : decode cX7_openHours 38 = .ok (.iconst 0, 1) := by decide +kernel
theorem dX7_openHours_39 : decode cX7_openHours 39 = .ok (.istore 6, 2) := by decide +kernel
theorem dX7_openHours_41 : decode cX7_openHours 41 = .ok (.iconst 0, 1) := by decide +kernel
theorem dX7_openHours_42 : decode cX7_openHours 42 = .ok (.istore 7, 2) := by decide +kernel
theorem dX7_openHours_44 : decode cX7_openHours 44 = .ok (.iload 6, 2) := by decide +kernel
theorem dX7_openHours_46 : decode cX7_openHours 46 = .ok (.ifCond .eq 47, 3) := by decide +kernel
theorem dX7_openHours_49 : decode cX7_openHours 49 = .ok (.iload 7, 2) := by decide +kernel
theorem dX7_openHours_51 : decode cX7_openHours 51 = .ok (.bipush 8, 2) := by decide +kernel
theorem dX7_openHours_53 : decode cX7_openHours 53 = .ok (.if_icmp .ge 40, 3) := by decide +kernel
theorem dX7_openHours_56 : decode cX7_openHours 56 = .ok (.iload 6, 2) := by decide +kernel
theorem dX7_openHours_58 : decode cX7_openHours 58 = .ok (.iconst 1, 1) := by decide +kernel
theorem dX7_openHours_59 : decode cX7_openHours 59 = .ok (.iand, 1) := by decide +kernel
theorem dX7_openHours_60 : decode cX7_openHours 60 = .ok (.ifCond .eq 21, 3) := by decide +kernel
theorem dX7_openHours_63 : decode cX7_openHours 63 = .ok (.aload_n 0, 1) := by decide +kernel
theorem dX7_openHours_64 : decode cX7_openHours 64 = .ok (.getfield 30, 3) := by decide +kernel
theorem dX7_openHours_67 : decode cX7_openHours 67 = .ok (.iload 7, 2) := by decide +kernel
theorem dX7_openHours_69 : decode cX7_openHours 69 = .ok (.iaload, 1) := by decide +kernel
theorem dX7_openHours_70 : decode cX7_openHours 70 = .ok (.lload_n 3, 1) := by decide +kernel
theorem dX7_openHours_71 : decode cX7_openHours 71 = .ok (.ldc2_w 143, 3) := by decide +kernel
theorem dX7_openHours_74 : decode cX7_openHours 74 = .ok (.lrem, 1) := by decide +kernel
theorem dX7_openHours_75 : decode cX7_openHours 75 = .ok (.l2i, 1) := by decide +kernel
theorem dX7_openHours_76 : decode cX7_openHours 76 = .ok (.if_icmp .ne 5, 3) := by decide +kernel
theorem dX7_openHours_79 : decode cX7_openHours 79 = .ok (.iconst 0, 1) := by decide +kernel
theorem dX7_openHours_80 : decode cX7_openHours 80 = .ok (.ireturn, 1) := by decide +kernel
theorem dX7_openHours_81 : decode cX7_openHours 81 = .ok (.iload 6, 2) := by decide +kernel
theorem dX7_openHours_83 : decode cX7_openHours 83 = .ok (.iconst 1, 1) := by decide +kernel
theorem dX7_openHours_84 : decode cX7_openHours 84 = .ok (.ishr, 1) := by decide +kernel
theorem dX7_openHours_85 : decode cX7_openHours 85 = .ok (.istore 6, 2) := by decide +kernel
theorem dX7_openHours_87 : decode cX7_openHours 87 = .ok (.iinc 7 1, 3) := by decide +kernel
theorem dX7_openHours_90 : decode cX7_openHours 90 = .ok (.goto (-46), 3) := by decide +kernel
theorem dX7_openHours_93 : decode cX7_openHours 93 = .ok (.ldc 145, 2) := by decide +kernel
theorem dX7_openHours_95 : decode cX7_openHours 95 = .ok (.aload_n 0, 1) := by decide +kernel
theorem dX7_openHours_96 : decode cX7_openHours 96 = .ok (.getfield 21, 3) := by decide +kernel
theorem dX7_openHours_99 : decode cX7_openHours 99 = .ok (.iload_n 1, 1) := by decide +kernel
theorem dX7_openHours_100 : decode cX7_openHours 100 = .ok (.iaload, 1) := by decide +kernel
theorem dX7_openHours_101 : decode cX7_openHours 101 = .ok (.iconst (-1), 1) := by decide +kernel
theorem dX7_openHours_102 : decode cX7_openHours 102 = .ok (.ixor, 1) := by decide +kernel
theorem dX7_openHours_103 : decode cX7_openHours 103 = .ok (.iand, 1) := by decide +kernel
theorem dX7_openHours_104 : decode cX7_openHours 104 = .ok (.ireturn, 1) := by decide +kernel
set_option maxRecDepth 20000 in
theorem ggX7_isOpen_X7_openHours : GoodIn wsX7_isOpen wsX7_openHours := goodIn_r _ [6, 7, 8, 9, 10, 11, 12, 13, 14, 15, 16, 17, 18, 19, 20, 21, 22, 23, 24, 25] (by decide +kernel) (by decide +kernel)
set_option maxRecDepth 20000 in
theorem gX7_isOpen_X7_openHours : GoodIn wsX7_isOpen (wsV RX7 148 RX7 yX7_openHours wsX7_openHours) := goodIn_app (goodIn_of _ (by decide +kernel)) ggX7_isOpen_X7_openHours
theorem dX7_isOpen_0 : decode cX7_isOpen 0 = .ok (.aload_n 0, 1) := by decide +kernel
theorem dX7_isOpen_1 : decode cX7_isOpen 1 = .ok (.iload_n 1, 1) := by decide +kernel
theorem dX7_isOpen_2 : decode cX7_isOpen 2 = .ok (.iload_n 2, 1) := by decide +kernel
theorem dX7_isOpen_3 : decode cX7_isOpen 3 = .ok (.lload_n 3, 1) := by decide +kernel
theorem dX7_isOpen_4 : decode cX7_isOpen 4 = .ok (.ldc2_w 146, 3) := by decide +kernel
theorem dX7_isOpen_7 : decode cX7_isOpen 7 = .ok (.ldiv, 1) := by decide +kernel
theorem dX7_isOpen_8 : decode cX7_isOpen 8 = .ok (.iload 5, 2) := by decide +kernel
theorem dX7_isOpen_10 : decode cX7_isOpen 10 = .ok (.invokevirtual 148, 3) := by decide +kernel
theorem dX7_isOpen_13 : decode cX7_isOpen 13 = .ok (.istore 6, 2) := by decide +kernel
theorem dX7_isOpen_15 : decode cX7_isOpen 15 = .ok (.iload 6, 2) := by decide +kernel
theorem dX7_isOpen_17 : decode cX7_isOpen 17 = .ok (.lload_n 3, 1) := by decide +kernel
theorem dX7_isOpen_18 : decode cX7_isOpen 18 = .ok (.ldc2_w 146, 3) := by decide +kernel
theorem dX7_isOpen_21 : decode cX7_isOpen 21 = .ok (.lrem, 1) := by decide +kernel
theorem dX7_isOpen_22 : decode cX7_isOpen 22 = .ok (.l2i, 1) := by decide +kernel
theorem dX7_isOpen_23 : decode cX7_isOpen 23 = .ok (.ishr, 1) := by decide +kernel
theorem dX7_isOpen_24 : decode cX7_isOpen 24 = .ok (.iconst 1, 1) := by decide +kernel
theorem dX7_isOpen_25 : decode cX7_isOpen 25 = .ok (.iand, 1) := by decide +kernel
theorem dX7_isOpen_26 : decode cX7_isOpen 26 = .ok (.ifCond .eq 7, 3) := by decide +kernel
theorem dX7_isOpen_29 : decode cX7_isOpen 29 = .ok (.iconst 1, 1) := by decide +kernel
theorem dX7_isOpen_30 : decode cX7_isOpen 30 = .ok (.goto 4, 3) := by decide +kernel
theorem dX7_isOpen_33 : decode cX7_isOpen 33 = .ok (.iconst 0, 1) := by decide +kernel
theorem dX7_isOpen_34 : decode cX7_isOpen 34 = .ok (.ireturn, 1) := by decide +kernel
theorem dX7_isNeverOpen_0 : decode cX7_isNeverOpen 0 = .ok (.aload_n 0, 1) := by decide +kernel
theorem dX7_isNeverOpen_1 : decode cX7_isNeverOpen 1 = .ok (.getfield 24, 3) := by decide +kernel
theorem dX7_isNeverOpen_4 : decode cX7_isNeverOpen 4 = .ok (.iconst 2, 1) := by decide +kernel
theorem dX7_isNeverOpen_5 : decode cX7_isNeverOpen 5 = .ok (.iload_n 1, 1) := by decide +kernel
theorem dX7_isNeverOpen_6 : decode cX7_isNeverOpen 6 = .ok (.imul, 1) := by decide +kernel
theorem dX7_isNeverOpen_7 : decode cX7_isNeverOpen 7 = .ok (.iload_n 2, 1) := by decide +kernel
theorem dX7_isNeverOpen_8 : decode cX7_isNeverOpen 8 = .ok (.iadd, 1) := by decide +kernel
theorem dX7_isNeverOpen_9 : decode cX7_isNeverOpen 9 = .ok (.iaload, 1) := by decide +kernel
theorem dX7_isNeverOpen_10 : decode cX7_isNeverOpen 10 = .ok (.ifCond .eq 14, 3) := by decide +kernel
theorem dX7_isNeverOpen_13 : decode cX7_isNeverOpen 13 = .ok (.aload_n 0, 1) := by decide +kernel
theorem dX7_isNeverOpen_14 : decode cX7_isNeverOpen 14 = .ok (.getfield 21, 3) := by decide +kernel
theorem dX7_isNeverOpen_17 : decode cX7_isNeverOpen 17 = .ok (.iload_n 1, 1) := by decide +kernel
theorem dX7_isNeverOpen_18 : decode cX7_isNeverOpen 18 = .ok (.iaload, 1) := by decide +kernel
theorem dX7_isNeverOpen_19 : decode cX7_isNeverOpen 19 = .ok (.ldc 145, 2) := by decide +kernel
theorem dX7_isNeverOpen_21 : decode cX7_isNeverOpen 21 = .ok (.if_icmp .ne 7, 3) := by decide +kernel
theorem dX7_isNeverOpen_24 : decode cX7_isNeverOpen 24 = .ok (.iconst 1, 1) := by decide +kernel
theorem dX7_isNeverOpen_25 : decode cX7_isNeverOpen 25 = .ok (.goto 4, 3) := by decide +kernel
theorem dX7_isNeverOpen_28 : decode cX7_isNeverOpen 28 = .ok (.iconst 0, 1) := by decide +kernel
theorem dX7_isNeverOpen_29 : decode cX7_isNeverOpen 29 = .ok (.ireturn, 1) := by decide +kernel
set_option maxRecDepth 20000 in
theorem ggX7_firstOpen_X7_isNeverOpen : GoodIn wsX7_firstOpen wsX7_isNeverOpen := goodIn_r _ [5, 6, 7, 8, 17, 18, 19, 20, 21, 22, 23, 24, 25, 26, 27, 28] (by decide +kernel) (by decide +kernel)
set_option maxRecDepth 20000 in
theorem gX7_firstOpen_X7_isNeverOpen : GoodIn wsX7_firstOpen (wsV RX7 152 RX7 yX7_isNeverOpen wsX7_isNeverOpen) := goodIn_app (goodIn_of _ (by decide +kernel)) ggX7_firstOpen_X7_isNeverOpen
set_option maxRecDepth 20000 in
theorem ggX7_firstOpen_X7_openHours : GoodIn wsX7_firstOpen wsX7_openHours := goodIn_r _ [12, 6, 13, 14, 15, 16, 8, 7, 17, 18, 19, 20, 21, 22, 23, 24, 25, 26, 27, 28] (by decide +kernel) (by decide +kernel)
set_option maxRecDepth 20000 in
theorem gX7_firstOpen_X7_openHours : GoodIn wsX7_firstOpen (wsV RX7 148 RX7 yX7_openHours wsX7_openHours) := goodIn_app (goodIn_of _ (by decide +kernel)) ggX7_firstOpen_X7_openHours
theorem dX7_firstOpen_0 : decode cX7_firstOpen 0 = .ok (.aload_n 0, 1) := by decide +kernel
theorem dX7_firstOpen_1 : decode cX7_firstOpen 1 = .ok (.iload_n 1, 1) := by decide +kernel
theorem dX7_firstOpen_2 : decode cX7_firstOpen 2 = .ok (.iload_n 2, 1) := by decide +kernel
theorem dX7_firstOpen_3 : decode cX7_firstOpen 3 = .ok (.invokevirtual 152, 3) := by decide +kernel
theorem dX7_firstOpen_6 : decode cX7_firstOpen 6 = .ok (.ifCond .eq 5, 3) := by decide +kernel
theorem dX7_firstOpen_9 : decode cX7_firstOpen 9 = .ok (.iconst (-1), 1) := by decide +kernel
theorem dX7_firstOpen_10 : decode cX7_firstOpen 10 = .ok (.ireturn, 1) := by decide +kernel
theorem dX7_firstOpen_11 : decode cX7_firstOpen 11 = .ok (.iconst (-1), 1) := by decide +kernel
theorem dX7_firstOpen_12 : decode cX7_firstOpen 12 = .ok (.iload_n 3, 1) := by decide +kernel
theorem dX7_firstOpen_13 : decode cX7_firstOpen 13 = .ok (.bipush 24, 2) := by decide +kernel
theorem dX7_firstOpen_15 : decode cX7_firstOpen 15 = .ok (.irem, 1) := by decide +kernel
theorem dX7_firstOpen_16 : decode cX7_firstOpen 16 = .ok (.ishl, 1) := by decide +kernel
theorem dX7_firstOpen_17 : decode cX7_firstOpen 17 = .ok (.istore 5, 2) := by decide +kernel
theorem dX7_firstOpen_19 : decode cX7_firstOpen 19 = .ok (.iload_n 3, 1) := by decide +kernel
theorem dX7_firstOpen_20 : decode cX7_firstOpen 20 = .ok (.bipush 24, 2) := by decide +kernel
theorem dX7_firstOpen_22 : decode cX7_firstOpen 22 = .ok (.idiv, 1) := by decide +kernel
theorem dX7_firstOpen_23 : decode cX7_firstOpen 23 = .ok (.istore 6, 2) := by decide +kernel
theorem dX7_firstOpen_25 : decode cX7_firstOpen 25 = .ok (.iload 6, 2) := by decide +kernel
theorem dX7_firstOpen_27 : decode cX7_firstOpen 27 = .ok (.bipush 24, 2) := by decide +kernel
theorem dX7_firstOpen_29 : decode cX7_firstOpen 29 = .ok (.imul, 1) := by decide +kernel
theorem dX7_firstOpen_30 : decode cX7_firstOpen 30 = .ok (.iload 4, 2) := by decide +kernel
theorem dX7_firstOpen_32 : decode cX7_firstOpen 32 = .ok (.if_icmp .gt 82, 3) := by decide +kernel
theorem dX7_firstOpen_35 : decode cX7_firstOpen 35 = .ok (.aload_n 0, 1) := by decide +kernel
theorem dX7_firstOpen_36 : decode cX7_firstOpen 36 = .ok (.iload_n 1, 1) := by decide +kernel
theorem dX7_firstOpen_37 : decode cX7_firstOpen 37 = .ok (.iload_n 2, 1) := by decide +kernel
theorem dX7_firstOpen_38 : decode cX7_firstOpen 38 = .ok (.iload 6, 2) := by decide +kernel
theorem dX7_firstOpen_40 : decode cX7_firstOpen 40 = .ok (.i2l, 1) := by decide +kernel
theorem dX7_firstOpen_41 : decode cX7_firstOpen 41 = .ok (.iconst 1, 1) := by decide +kernel
theorem dX7_firstOpen_42 : decode cX7_firstOpen 42 = .ok (.invokevirtual 148, 3) := by decide +kernel
theorem dX7_firstOpen_45 : decode cX7_firstOpen 45 = .ok (.iload 5, 2) := by decide +kernel
theorem dX7_firstOpen_47 : decode cX7_firstOpen 47 = .ok (.iand, 1) := by decide +kernel
theorem dX7_firstOpen_48 : decode cX7_firstOpen 48 = .ok (.istore 7, 2) := by decide +kernel
theorem dX7_firstOpen_50 : decode cX7_firstOpen 50 = .ok (.iconst (-1), 1) := by decide +kernel
theorem dX7_firstOpen_51 : decode cX7_firstOpen 51 = .ok (.istore 5, 2) := by decide +kernel
theorem dX7_firstOpen_53 : decode cX7_firstOpen 53 = .ok (.iconst 0, 1) := by decide +kernel
theorem dX7_firstOpen_54 : decode cX7_firstOpen 54 = .ok (.istore 8, 2) := by decide +kernel
theorem dX7_firstOpen_56 : decode cX7_firstOpen 56 = .ok (.iload 7, 2) := by decide +kernel
theorem dX7_firstOpen_58 : decode cX7_firstOpen 58 = .ok (.ifCond .eq 50, 3) := by decide +kernel
theorem dX7_firstOpen_61 : decode cX7_firstOpen 61 = .ok (.iload 8, 2) := by decide +kernel
theorem dX7_firstOpen_63 : decode cX7_firstOpen 63 = .ok (.bipush 24, 2) := by decide +kernel
theorem dX7_firstOpen_65 : decode cX7_firstOpen 65 = .ok (.if_icmp .ge 43, 3) := by decide +kernel
theorem dX7_firstOpen_68 : decode cX7_firstOpen 68 = .ok (.iload 7, 2) := by decide +kernel
theorem dX7_firstOpen_70 : decode cX7_firstOpen 70 = .ok (.iload 8, 2) := by decide +kernel
theorem dX7_firstOpen_72 : decode cX7_firstOpen 72 = .ok (.ishr, 1) := by decide +kernel
theorem dX7_firstOpen_73 : decode cX7_firstOpen 73 = .ok (.iconst 1, 1) := by decide +kernel
theorem dX7_firstOpen_74 : decode cX7_firstOpen 74 = .ok (.iand, 1) := by decide +kernel
theorem dX7_firstOpen_75 : decode cX7_firstOpen 75 = .ok (.ifCond .eq 27, 3) := by decide +kernel
theorem dX7_firstOpen_78 : decode cX7_firstOpen 78 = .ok (.iload 6, 2) := by decide +kernel
theorem dX7_firstOpen_80 : decode cX7_firstOpen 80 = .ok (.bipush 24, 2) := by decide +kernel
theorem dX7_firstOpen_82 : decode cX7_firstOpen 82 = .ok (.imul, 1) := by decide +kernel
theorem dX7_firstOpen_83 : decode cX7_firstOpen 83 = .ok (.iload 8, 2) := by decide +kernel
theorem dX7_firstOpen_85 : decode cX7_firstOpen 85 = .ok (.iadd, 1) := by decide +kernel
theorem dX7_firstOpen_86 : decode cX7_firstOpen 86 = .ok (.istore 9, 2) := by decide +kernel
theorem dX7_firstOpen_88 : decode cX7_firstOpen 88 = .ok (.iload 9, 2) := by decide +kernel
theorem dX7_firstOpen_90 : decode cX7_firstOpen 90 = .ok (.iload 4, 2) := by decide +kernel
theorem dX7_firstOpen_92 : decode cX7_firstOpen 92 = .ok (.if_icmp .gt 8, 3) := by decide +kernel
theorem dX7_firstOpen_95 : decode cX7_firstOpen 95 = .ok (.iload 9, 2) := by decide +kernel
theorem dX7_firstOpen_97 : decode cX7_firstOpen 97 = .ok (.goto 4, 3) := by decide +kernel
theorem dX7_firstOpen_100 : decode cX7_firstOpen 100 = .ok (.iconst (-1), 1) := by decide +kernel
theorem dX7_firstOpen_101 : decode cX7_firstOpen 101 = .ok (.ireturn, 1) := by decide +kernel
theorem dX7_firstOpen_102 : decode cX7_firstOpen 102 = .ok (.iinc 8 1, 3) := by decide +kernel
theorem dX7_firstOpen_105 : decode cX7_firstOpen 105 = .ok (.goto (-49), 3) := by decide +kernel
theorem dX7_firstOpen_108 : decode cX7_firstOpen 108 = .ok (.iinc 6 1, 3) := by decide +kernel
theorem dX7_firstOpen_111 : decode cX7_firstOpen 111 = .ok (.goto (-86), 3) := by decide +kernel
theorem dX7_firstOpen_114 : decode cX7_firstOpen 114 = .ok (.iconst (-1), 1) := by decide +kernel
theorem dX7_firstOpen_115 : decode cX7_firstOpen 115 = .ok (.ireturn, 1) := by decide +kernel
set_option maxRecDepth 20000 in
theorem ggX7_lastOpen_X7_isNeverOpen : GoodIn wsX7_lastOpen wsX7_isNeverOpen := goodIn_r _ [5, 6, 7, 8, 17, 18, 19, 20, 21, 22, 23, 24, 25, 26, 27, 28] (by decide +kernel) (by decide +kernel)
set_option maxRecDepth 20000 in
theorem gX7_lastOpen_X7_isNeverOpen : GoodIn wsX7_lastOpen (wsV RX7 152 RX7 yX7_isNeverOpen wsX7_isNeverOpen) := goodIn_app (goodIn_of _ (by decide +kernel)) ggX7_lastOpen_X7_isNeverOpen
set_option maxRecDepth 20000 in
theorem ggX7_lastOpen_X7_openHours : GoodIn wsX7_lastOpen wsX7_openHours := goodIn_r _ [12, 6, 13, 14, 15, 16, 8, 7, 17, 18, 19, 20, 21, 22, 23, 24, 25, 26, 27, 28] (by decide +kernel) (by decide +kernel)
set_option maxRecDepth 20000 in
theorem gX7_lastOpen_X7_openHours : GoodIn wsX7_lastOpen (wsV RX7 148 RX7 yX7_openHours wsX7_openHours) := goodIn_app (goodIn_of _ (by decide +kernel)) ggX7_lastOpen_X7_openHours
theorem dX7_lastOpen_0 : decode cX7_lastOpen 0 = .ok (.iload 4, 2) := by decide +kernel
theorem dX7_lastOpen_2 : decode cX7_lastOpen 2 = .ok (.iload_n 3, 1) := by decide +kernel
theorem dX7_lastOpen_3 : decode cX7_lastOpen 3 = .ok (.if_icmp .lt 12, 3) := by decide +kernel
theorem dX7_lastOpen_6 : decode cX7_lastOpen 6 = .ok (.aload_n 0, 1) := by decide +kernel
theorem dX7_lastOpen_7 : decode cX7_lastOpen 7 = .ok (.iload_n 1, 1) := by decide +kernel
theorem dX7_lastOpen_8 : decode cX7_lastOpen 8 = .ok (.iload_n 2, 1) := by decide +kernel
theorem dX7_lastOpen_9 : decode cX7_lastOpen 9 = .ok (.invokevirtual 152, 3) := by decide +kernel
theorem dX7_lastOpen_12 : decode cX7_lastOpen 12 = .ok (.ifCond .eq 5, 3) := by decide +kernel
theorem dX7_lastOpen_15 : decode cX7_lastOpen 15 = .ok (.iconst (-1), 1) := by decide +kernel
theorem dX7_lastOpen_16 : decode cX7_lastOpen 16 = .ok (.ireturn, 1) := by decide +kernel
theorem dX7_lastOpen_17 : decode cX7_lastOpen 17 = .ok (.iconst 2, 1) := by decide +kernel
theorem dX7_lastOpen_18 : decode cX7_lastOpen 18 = .ok (.iload 4, 2) := by decide +kernel
theorem dX7_lastOpen_20 : decode cX7_lastOpen 20 = .ok (.bipush 24, 2) := by decide +kernel
theorem dX7_lastOpen_22 : decode cX7_lastOpen 22 = .ok (.irem, 1) := by decide +kernel
theorem dX7_lastOpen_23 : decode cX7_lastOpen 23 = .ok (.ishl, 1) := by decide +kernel
theorem dX7_lastOpen_24 : decode cX7_lastOpen 24 = .ok (.iconst 1, 1) := by decide +kernel
theorem dX7_lastOpen_25 : decode cX7_lastOpen 25 = .ok (.isub, 1) := by decide +kernel
theorem dX7_lastOpen_26 : decode cX7_lastOpen 26 = .ok (.istore 5, 2) := by decide +kernel
theorem dX7_lastOpen_28 : decode cX7_lastOpen 28 = .ok (.iload 4, 2) := by decide +kernel
theorem dX7_lastOpen_30 : decode cX7_lastOpen 30 = .ok (.bipush 24, 2) := by decide +kernel
theorem dX7_lastOpen_32 : decode cX7_lastOpen 32 = .ok (.idiv, 1) := by decide +kernel
theorem dX7_lastOpen_33 : decode cX7_lastOpen 33 = .ok (.istore 6, 2) := by decide +kernel
theorem dX7_lastOpen_35 : decode cX7_lastOpen 35 = .ok (.iload 6, 2) := by decide +kernel
theorem dX7_lastOpen_37 : decode cX7_lastOpen 37 = .ok (.iload_n 3, 1) := by decide +kernel
theorem dX7_lastOpen_38 : decode cX7_lastOpen 38 = .ok (.bipush 24, 2) := by decide +kernel
theorem dX7_lastOpen_40 : decode cX7_lastOpen 40 = .ok (.idiv, 1) := by decide +kernel
theorem dX7_lastOpen_41 : decode cX7_lastOpen 41 = .ok (.if_icmp .lt 80, 3) := by decide +kernel
theorem dX7_lastOpen_44 : decode cX7_lastOpen 44 = .ok (.aload_n 0, 1) := by decide +kernel
theorem dX7_lastOpen_45 : decode cX7_lastOpen 45 = .ok (.iload_n 1, 1) := by decide +kernel
theorem dX7_lastOpen_46 : decode cX7_lastOpen 46 = .ok (.iload_n 2, 1) := by decide +kernel
theorem dX7_lastOpen_47 : decode cX7_lastOpen 47 = .ok (.iload 6, 2) := by decide +kernel
theorem dX7_lastOpen_49 : decode cX7_lastOpen 49 = .ok (.i2l, 1) := by decide +kernel
theorem dX7_lastOpen_50 : decode cX7_lastOpen 50 = .ok (.iconst 1, 1) := by decide +kernel
theorem dX7_lastOpen_51 : decode cX7_lastOpen 51 = .ok (.invokevirtual 148, 3) := by decide +kernel
theorem dX7_lastOpen_54 : decode cX7_lastOpen 54 = .ok (.iload 5, 2) := by decide +kernel
theorem dX7_lastOpen_56 : decode cX7_lastOpen 56 = .ok (.iand, 1) := by decide +kernel
theorem dX7_lastOpen_57 : decode cX7_lastOpen 57 = .ok (.istore 7, 2) := by decide +kernel
theorem dX7_lastOpen_59 : decode cX7_lastOpen 59 = .ok (.iconst (-1), 1) := by decide +kernel
theorem dX7_lastOpen_60 : decode cX7_lastOpen 60 = .ok (.istore 5, 2) := by decide +kernel
theorem dX7_lastOpen_62 : decode cX7_lastOpen 62 = .ok (.bipush 23, 2) := by decide +kernel
theorem dX7_lastOpen_64 : decode cX7_lastOpen 64 = .ok (.istore 8, 2) := by decide +kernel
theorem dX7_lastOpen_66 : decode cX7_lastOpen 66 = .ok (.iload 7, 2) := by decide +kernel
theorem dX7_lastOpen_68 : decode cX7_lastOpen 68 = .ok (.ifCond .eq 47, 3) := by decide +kernel
theorem dX7_lastOpen_71 : decode cX7_lastOpen 71 = .ok (.iload 8, 2) := by decide +kernel
theorem dX7_lastOpen_73 : decode cX7_lastOpen 73 = .ok (.ifCond .lt 42, 3) := by decide +kernel
theorem dX7_lastOpen_76 : decode cX7_lastOpen 76 = .ok (.iload 7, 2) := by decide +kernel
theorem dX7_lastOpen_78 : decode cX7_lastOpen 78 = .ok (.iload 8, 2) := by decide +kernel
theorem dX7_lastOpen_80 : decode cX7_lastOpen 80 = .ok (.ishr, 1) := by decide +kernel
theorem dX7_lastOpen_81 : decode cX7_lastOpen 81 = .ok (.iconst 1, 1) := by decide +kernel
theorem dX7_lastOpen_82 : decode cX7_lastOpen 82 = .ok (.iand, 1) := by decide +kernel
theorem dX7_lastOpen_83 : decode cX7_lastOpen 83 = .ok (.ifCond .eq 26, 3) := by decide +kernel
theorem dX7_lastOpen_86 : decode cX7_lastOpen 86 = .ok (.iload 6, 2) := by decide +kernel
theorem dX7_lastOpen_88 : decode cX7_lastOpen 88 = .ok (.bipush 24, 2) := by decide +kernel
theorem dX7_lastOpen_90 : decode cX7_lastOpen 90 = .ok (.imul, 1) := by decide +kernel
theorem dX7_lastOpen_91 : decode cX7_lastOpen 91 = .ok (.iload 8, 2) := by decide +kernel
theorem dX7_lastOpen_93 : decode cX7_lastOpen 93 = .ok (.iadd, 1) := by decide +kernel
theorem dX7_lastOpen_94 : decode cX7_lastOpen 94 = .ok (.istore 9, 2) := by decide +kernel
theorem dX7_lastOpen_96 : decode cX7_lastOpen 96 = .ok (.iload 9, 2) := by decide +kernel
theorem dX7_lastOpen_98 : decode cX7_lastOpen 98 = .ok (.iload_n 3, 1) := by decide +kernel
theorem dX7_lastOpen_99 : decode cX7_lastOpen 99 = .ok (.if_icmp .lt 8, 3) := by decide +kernel
theorem dX7_lastOpen_102 : decode cX7_lastOpen 102 = .ok (.iload 9, 2) := by decide +kernel
theorem dX7_lastOpen_104 : decode cX7_lastOpen 104 = .ok (.goto 4, 3) := by decide +kernel
theorem dX7_lastOpen_107 : decode cX7_lastOpen 107 = .ok (.iconst (-1), 1) := by decide +kernel
theorem dX7_lastOpen_108 : decode cX7_lastOpen 108 = .ok (.ireturn, 1) := by decide +kernel
theorem dX7_lastOpen_109 : decode cX7_lastOpen 109 = .ok (.iinc 8 (-1), 3) := by decide +kernel
theorem dX7_lastOpen_112 : decode cX7_lastOpen 112 = .ok (.goto (-46), 3) := by decide +kernel
theorem dX7_lastOpen_115 : decode cX7_lastOpen 115 = .ok (.iinc 6 (-1), 3) := by decide +kernel
theorem dX7_lastOpen_118 : decode cX7_lastOpen 118 = .ok (.goto (-83), 3) := by decide +kernel
theorem dX7_lastOpen_121 : decode cX7_lastOpen 121 = .ok (.iconst (-1), 1) := by decide +kernel
theorem dX7_lastOpen_122 : decode cX7_lastOpen 122 = .ok (.ireturn, 1) := by decide +kernel
set_option maxRecDepth 20000 in
theorem ggX7_daysWith_X7_signOn : GoodIn wsX7_daysWith wsX7_signOn := goodIn_r _ [5, 6, 7, 8, 9, 10, 11, 12, 13, 14, 15, 16, 17, 18] (by decide +kernel) (by decide +kernel)
set_option maxRecDepth 20000 in
theorem gX7_daysWith_X7_signOn : GoodIn wsX7_daysWith (wsV RX7 155 RX7 yX7_signOn wsX7_signOn) := goodIn_app (goodIn_of _ (by decide +kernel)) ggX7_daysWith_X7_signOn
theorem dX7_daysWith_0 : decode cX7_daysWith 0 = .ok (.iconst 0, 1) := by decide +kernel
theorem dX7_daysWith_1 : decode cX7_daysWith 1 = .ok (.istore_n 3, 1) := by decide +kernel
theorem dX7_daysWith_2 : decode cX7_daysWith 2 = .ok (.iconst 0, 1) := by decide +kernel
theorem dX7_daysWith_3 : decode cX7_daysWith 3 = .ok (.istore 4, 2) := by decide +kernel
theorem dX7_daysWith_5 : decode cX7_daysWith 5 = .ok (.iload 4, 2) := by decide +kernel
theorem dX7_daysWith_7 : decode cX7_daysWith 7 = .ok (.bipush 7, 2) := by decide +kernel
theorem dX7_daysWith_9 : decode cX7_daysWith 9 = .ok (.if_icmp .ge 23, 3) := by decide +kernel
theorem dX7_daysWith_12 : decode cX7_daysWith 12 = .ok (.aload_n 0, 1) := by decide +kernel
theorem dX7_daysWith_13 : decode cX7_daysWith 13 = .ok (.iload_n 1, 1) := by decide +kernel
theorem dX7_daysWith_14 : decode cX7_daysWith 14 = .ok (.iload 4, 2) := by decide +kernel
theorem dX7_daysWith_16 : decode cX7_daysWith 16 = .ok (.invokevirtual 155, 3) := by decide +kernel
theorem dX7_daysWith_19 : decode cX7_daysWith 19 = .ok (.iload_n 2, 1) := by decide +kernel
theorem dX7_daysWith_20 : decode cX7_daysWith 20 = .ok (.if_icmp .ne 6, 3) := by decide +kernel
theorem dX7_daysWith_23 : decode cX7_daysWith 23 = .ok (.iinc 3 1, 3) := by decide +kernel
theorem dX7_daysWith_26 : decode cX7_daysWith 26 = .ok (.iinc 4 1, 3) := by decide +kernel
theorem dX7_daysWith_29 : decode cX7_daysWith 29 = .ok (.goto (-24), 3) := by decide +kernel
theorem dX7_daysWith_32 : decode cX7_daysWith 32 = .ok (.iload_n 3, 1) := by decide +kernel
theorem dX7_daysWith_33 : decode cX7_daysWith 33 = .ok (.ireturn, 1) := by decide +kernel
set_option maxRecDepth 20000 in
theorem ggX7_commonSign_X7_daysWith : GoodIn wsX7_commonSign wsX7_daysWith := goodIn_r _ [5, 6, 7, 8, 4, 9, 10, 11, 12, 13, 14, 15, 16, 17, 18, 19, 20, 21, 22] (by decide +kernel) (by decide +kernel)
set_option maxRecDepth 20000 in
theorem gX7_commonSign_X7_daysWith : GoodIn wsX7_commonSign (wsV RX7 158 RX7 yX7_daysWith wsX7_daysWith) := goodIn_app (goodIn_of _ (by decide +kernel)) ggX7_commonSign_X7_daysWith
theorem dX7_commonSign_0 : decode cX7_commonSign 0 = .ok (.iconst 0, 1) := by decide +kernel
theorem dX7_commonSign_1 : decode cX7_commonSign 1 = .ok (.istore_n 2, 1) := by decide +kernel
theorem dX7_commonSign_2 : decode cX7_commonSign 2 = .ok (.iconst 1, 1) := by decide +kernel
theorem dX7_commonSign_3 : decode cX7_commonSign 3 = .ok (.istore_n 3, 1) := by decide +kernel
theorem dX7_commonSign_4 : decode cX7_commonSign 4 = .ok (.iload_n 3, 1) := by decide +kernel
theorem dX7_commonSign_5 : decode cX7_commonSign 5 = .ok (.iconst 3, 1) := by decide +kernel
theorem dX7_commonSign_6 : decode cX7_commonSign 6 = .ok (.if_icmp .gt 26, 3) := by decide +kernel
theorem dX7_commonSign_9 : decode cX7_commonSign 9 = .ok (.aload_n 0, 1) := by decide +kernel
theorem dX7_commonSign_10 : decode cX7_commonSign 10 = .ok (.iload_n 1, 1) := by decide +kernel
theorem dX7_commonSign_11 : decode cX7_commonSign 11 = .ok (.iload_n 3, 1) := by decide +kernel
theorem dX7_commonSign_12 : decode cX7_commonSign 12 = .ok (.invokevirtual 158, 3) := by decide +kernel
theorem dX7_commonSign_15 : decode cX7_commonSign 15 = .ok (.aload_n 0, 1) := by decide +kernel
theorem dX7_commonSign_16 : decode cX7_commonSign 16 = .ok (.iload_n 1, 1) := by decide +kernel
theorem dX7_commonSign_17 : decode cX7_commonSign 17 = .ok (.iload_n 2, 1) := by decide +kernel
theorem dX7_commonSign_18 : decode cX7_commonSign 18 = .ok (.invokevirtual 158, 3) := by decide +kernel
theorem dX7_commonSign_21 : decode cX7_commonSign 21 = .ok (.if_icmp .le 5, 3) := by decide +kernel
theorem dX7_commonSign_24 : decode cX7_commonSign 24 = .ok (.iload_n 3, 1) := by decide +kernel
theorem dX7_commonSign_25 : decode cX7_commonSign 25 = .ok (.istore_n 2, 1) := by decide +kernel
theorem dX7_commonSign_26 : decode cX7_commonSign 26 = .ok (.iinc 3 1, 3) := by decide +kernel
theorem dX7_commonSign_29 : decode cX7_commonSign 29 = .ok (.goto (-25), 3) := by decide +kernel
theorem dX7_commonSign_32 : decode cX7_commonSign 32 = .ok (.iload_n 2, 1) := by decide +kernel
theorem dX7_commonSign_33 : decode cX7_commonSign 33 = .ok (.ireturn, 1) := by decide +kernel
set_option maxRecDepth 20000 in
theorem ggX7_commonSignWrong_X7_commonSign : GoodIn wsX7_commonSignWrong wsX7_commonSign := goodIn_r _ [5, 6, 7, 8, 4, 9, 10, 11, 12, 13, 14, 15, 16, 17, 18, 19, 20, 21, 22, 23, 24, 25, 26] (by decide +kernel) (by decide +kernel)
set_option maxRecDepth 20000 in
theorem gX7_commonSignWrong_X7_commonSign : GoodIn wsX7_commonSignWrong (wsV RX7 161 RX7 yX7_commonSign wsX7_commonSign) := goodIn_app (goodIn_of _ (by decide +kernel)) ggX7_commonSignWrong_X7_commonSign
set_option maxRecDepth 20000 in
theorem ggX7_commonSignWrong_X7_daysWith : GoodIn wsX7_commonSignWrong wsX7_daysWith := goodIn_r _ [9, 10, 11, 12, 4, 13, 14, 15, 16, 17, 18, 19, 20, 21, 22, 23, 24, 25, 26] (by decide +kernel) (by decide +kernel)
set_option maxRecDepth 20000 in
theorem gX7_commonSignWrong_X7_daysWith : GoodIn wsX7_commonSignWrong (wsV RX7 158 RX7 yX7_daysWith wsX7_daysWith) := goodIn_app (goodIn_of _ (by decide +kernel)) ggX7_commonSignWrong_X7_daysWith
set_option maxRecDepth 20000 in
theorem ggX7_commonSignWrong_X7_signOn : GoodIn wsX7_commonSignWrong wsX7_signOn := goodIn_r _ [13, 14, 15, 16, 17, 18, 19, 20, 21, 22, 23, 24, 25, 26] (by decide +kernel) (by decide +kernel)
set_option maxRecDepth 20000 in
theorem gX7_commonSignWrong_X7_signOn : GoodIn wsX7_commonSignWrong (wsV RX7 155 RX7 yX7_signOn wsX7_signOn) := goodIn_app (goodIn_of _ (by decide +kernel)) ggX7_commonSignWrong_X7_signOn
theorem dX7_commonSignWrong_0 : decode cX7_commonSignWrong 0 = .ok (.aload_n 0, 1) := by decide +kernel
theorem dX7_commonSignWrong_1 : decode cX7_commonSignWrong 1 = .ok (.iload_n 1, 1) := by decide +kernel
theorem dX7_commonSignWrong_2 : decode cX7_commonSignWrong 2 = .ok (.invokevirtual 161, 3) := by decide +kernel
theorem dX7_commonSignWrong_5 : decode cX7_commonSignWrong 5 = .ok (.istore_n 3, 1) := by decide +kernel
theorem dX7_commonSignWrong_6 : decode cX7_commonSignWrong 6 = .ok (.iload_n 2, 1) := by decide +kernel
theorem dX7_commonSignWrong_7 : decode cX7_commonSignWrong 7 = .ok (.bipush 7, 2) := by decide +kernel
theorem dX7_commonSignWrong_9 : decode cX7_commonSignWrong 9 = .ok (.if_icmp .ne 13, 3) := by decide +kernel
theorem dX7_commonSignWrong_12 : decode cX7_commonSignWrong 12 = .ok (.bipush 7, 2) := by decide +kernel
theorem dX7_commonSignWrong_14 : decode cX7_commonSignWrong 14 = .ok (.aload_n 0, 1) := by decide +kernel
theorem dX7_commonSignWrong_15 : decode cX7_commonSignWrong 15 = .ok (.iload_n 1, 1) := by decide +kernel
theorem dX7_commonSignWrong_16 : decode cX7_commonSignWrong 16 = .ok (.iload_n 3, 1) := by decide +kernel
theorem dX7_commonSignWrong_17 : decode cX7_commonSignWrong 17 = .ok (.invokevirtual 158, 3) := by decide +kernel
theorem dX7_commonSignWrong_20 : decode cX7_commonSignWrong 20 = .ok (.isub, 1) := by decide +kernel
theorem dX7_commonSignWrong_21 : decode cX7_commonSignWrong 21 = .ok (.ireturn, 1) := by decide +kernel
theorem dX7_commonSignWrong_22 : decode cX7_commonSignWrong 22 = .ok (.aload_n 0, 1) := by decide +kernel
theorem dX7_commonSignWrong_23 : decode cX7_commonSignWrong 23 = .ok (.iload_n 1, 1) := by decide +kernel
theorem dX7_commonSignWrong_24 : decode cX7_commonSignWrong 24 = .ok (.iload_n 2, 1) := by decide +kernel
theorem dX7_commonSignWrong_25 : decode cX7_commonSignWrong 25 = .ok (.invokevirtual 155, 3) := by decide +kernel
theorem dX7_commonSignWrong_28 : decode cX7_commonSignWrong 28 = .ok (.iload_n 3, 1) := by decide +kernel
theorem dX7_commonSignWrong_29 : decode cX7_commonSignWrong 29 = .ok (.if_icmp .ne 7, 3) := by decide +kernel
theorem dX7_commonSignWrong_32 : decode cX7_commonSignWrong 32 = .ok (.iconst 0, 1) := by decide +kernel
theorem dX7_commonSignWrong_33 : decode cX7_commonSignWrong 33 = .ok (.goto 4, 3) := by decide +kernel
theorem dX7_commonSignWrong_36 : decode cX7_commonSignWrong 36 = .ok (.iconst 1, 1) := by decide +kernel
theorem dX7_commonSignWrong_37 : decode cX7_commonSignWrong 37 = .ok (.ireturn, 1) := by decide +kernel
set_option maxRecDepth 20000 in
theorem ggX8_init_X9_init : GoodIn wsX8_init wsX9_init := goodIn_r _ [16, 17, 2, 3] (by decide +kernel) (by decide +kernel)
set_option maxRecDepth 20000 in
theorem gX8_init_X9_init : GoodIn wsX8_init (wsX9_init) := ggX8_init_X9_init
theorem dX8_init_0 : decode cX8_init 0 = .ok (.aload_n 0, 1) := by decide +kernel
theorem dX8_init_1 : decode cX8_init 1 = .ok (.invokespecial 3, 3) := by decide +kernel
theorem dX8_init_4 : decode cX8_init 4 = .ok (.aload_n 0, 1) := by decide +kernel
theorem dX8_init_5 : decode cX8_init 5 = .ok (.new 9, 3) := by decide +kernel
theorem dX8_init_8 : decode cX8_init 8 = .ok (.dup, 1) := by decide +kernel
theorem dX8_init_9 : decode cX8_init 9 = .ok (.invokespecial 11, 3) := by decide +kernel
theorem dX8_init_12 : decode cX8_init 12 = .ok (.putfield 12, 3) := by decide +kernel
theorem dX8_init_15 : decode cX8_init 15 = .ok (.aload_n 0, 1) := by decide +kernel
theorem dX8_init_16 : decode cX8_init 16 = .ok (.sipush 301, 3) := by decide +kernel
theorem dX8_init_19 : decode cX8_init 19 = .ok (.newarray .int, 2) := by decide +kernel
theorem dX8_init_21 : decode cX8_init 21 = .ok (.putfield 18, 3) := by decide +kernel
theorem dX8_init_24 : decode cX8_init 24 = .ok (.aload_n 0, 1) := by decide +kernel
theorem dX8_init_25 : decode cX8_init 25 = .ok (.sipush 2420, 3) := by decide +kernel
theorem dX8_init_28 : decode cX8_init 28 = .ok (.newarray .int, 2) := by decide +kernel
theorem dX8_init_30 : decode cX8_init 30 = .ok (.putfield 22, 3) := by decide +kernel
theorem dX8_init_33 : decode cX8_init 33 = .ok (.aload_n 0, 1) := by decide +kernel
theorem dX8_init_34 : decode cX8_init 34 = .ok (.aload_n 1, 1) := by decide +kernel
theorem dX8_init_35 : decode cX8_init 35 = .ok (.putfield 25, 3) := by decide +kernel
theorem dX8_init_38 : decode cX8_init 38 = .ok (.aload_n 0, 1) := by decide +kernel
theorem dX8_init_39 : decode cX8_init 39 = .ok (.aload_n 2, 1) := by decide +kernel
theorem dX8_init_40 : decode cX8_init 40 = .ok (.putfield 29, 3) := by decide +kernel
theorem dX8_init_43 : decode cX8_init 43 = .ok (.aload_n 0, 1) := by decide +kernel
theorem dX8_init_44 : decode cX8_init 44 = .ok (.aload_n 3, 1) := by decide +kernel
theorem dX8_init_45 : decode cX8_init 45 = .ok (.putfield 33, 3) := by decide +kernel
theorem dX8_init_48 : decode cX8_init 48 = .ok (.return_, 1) := by decide +kernel
set_option maxRecDepth 20000 in
theorem ggX8_tellComing_X9_copyFrom : GoodIn wsX8_tellComing wsX9_copyFrom := goodIn_r _ [9, 10, 11, 12, 13, 14, 15, 16, 17, 18, 19, 20, 21, 8, 22, 23, 192, 193, 194, 195, 196, 197, 198, 199, 200] (by decide +kernel) (by decide +kernel)
set_option maxRecDepth 20000 in
theorem gX8_tellComing_X9_copyFrom : GoodIn wsX8_tellComing (wsV RX8 37 RX9 yX9_copyFrom wsX9_copyFrom) := goodIn_app (goodIn_of _ (by decide +kernel)) ggX8_tellComing_X9_copyFrom
set_option maxRecDepth 20000 in
theorem ggX8_tellComing_X1_takeSteps : GoodIn wsX8_tellComing wsX1_takeSteps := goodIn_r _ [28, 29, 30, 31, 27, 32, 33, 34, 35, 36, 37, 38, 39, 40, 41, 42, 43, 44, 45, 8, 46, 10, 11, 47, 48, 49, 50, 51, 52, 53, 54, 55, 56, 57, 58, 59, 60, 61, 62, 63, 64, 65, 66, 67, 18, 68, 69, 70, 71, 14, 72, 73, 74, 75, 76, 77, 78, 79, 80, 81, 82, 83, 84, 85, 86, 87, 88, 89, 90, 91, 92, 93, 94, 95, 96, 97, 98, 99, 100, 101, 102, 103, 104, 105, 106, 107, 108, 109, 110, 111, 112, 113, 114, 115, 116, 117, 118, 119, 120, 121, 122, 123, 124, 125, 126, 127, 128, 129, 130, 131, 132, 133, 134, 135, 136, 137, 138, 139, 140, 141, 142, 143, 144, 145, 146, 147, 148, 149, 150, 151, 152, 153, 154, 155, 156, 157, 158, 159, 160, 161, 162, 163, 164, 165, 166, 167, 168, 169, 170, 171, 172, 173, 174, 175, 176, 177, 178, 179, 180, 181, 182, 192, 193, 194, 195, 196, 197, 198, 199, 200, 201, 202, 203, 204, 205, 206, 207, 208, 209, 210, 211, 212, 213, 214, 215, 216, 217, 218, 219, 220, 221, 222, 223, 224, 225, 226, 227, 228, 229, 230, 231, 232, 233, 234, 235, 236, 237, 238, 239, 240, 241, 242, 243, 244, 245, 246] (by decide +kernel) (by decide +kernel)
set_option maxRecDepth 20000 in
theorem gX8_tellComing_X1_takeSteps : GoodIn wsX8_tellComing (wsV RX8 41 RX1 yX1_takeSteps wsX1_takeSteps) := goodIn_app (goodIn_of _ (by decide +kernel)) ggX8_tellComing_X1_takeSteps
set_option maxRecDepth 20000 in
theorem ggX8_tellComing_X9_isAtGoal : GoodIn wsX8_tellComing wsX9_isAtGoal := goodIn_r _ [46, 10, 11, 192, 193, 194, 195, 196, 197, 198, 199, 200] (by decide +kernel) (by decide +kernel)
set_option maxRecDepth 20000 in
theorem gX8_tellComing_X9_isAtGoal : GoodIn wsX8_tellComing (wsV RX8 47 RX9 yX9_isAtGoal wsX9_isAtGoal) := goodIn_app (goodIn_of _ (by decide +kernel)) ggX8_tellComing_X9_isAtGoal
theorem dX8_tellComing_0 : decode cX8_tellComing 0 = .ok (.aload_n 0, 1) := by decide +kernel
theorem dX8_tellComing_1 : decode cX8_tellComing 1 = .ok (.getfield 12, 3) := by decide +kernel
theorem dX8_tellComing_4 : decode cX8_tellComing 4 = .ok (.aload_n 1, 1) := by decide +kernel
theorem dX8_tellComing_5 : decode cX8_tellComing 5 = .ok (.invokevirtual 37, 3) := by decide +kernel
theorem dX8_tellComing_8 : decode cX8_tellComing 8 = .ok (.aload_n 0, 1) := by decide +kernel
theorem dX8_tellComing_9 : decode cX8_tellComing 9 = .ok (.getfield 33, 3) := by decide +kernel
theorem dX8_tellComing_12 : decode cX8_tellComing 12 = .ok (.aload_n 0, 1) := by decide +kernel
theorem dX8_tellComing_13 : decode cX8_tellComing 13 = .ok (.getfield 12, 3) := by decide +kernel
theorem dX8_tellComing_16 : decode cX8_tellComing 16 = .ok (.iload_n 2, 1) := by decide +kernel
theorem dX8_tellComing_17 : decode cX8_tellComing 17 = .ok (.invokevirtual 41, 3) := by decide +kernel
theorem dX8_tellComing_20 : decode cX8_tellComing 20 = .ok (.istore 4, 2) := by decide +kernel
theorem dX8_tellComing_22 : decode cX8_tellComing 22 = .ok (.iload_n 3, 1) := by decide +kernel
theorem dX8_tellComing_23 : decode cX8_tellComing 23 = .ok (.ifCond .ne 27, 3) := by decide +kernel
theorem dX8_tellComing_26 : decode cX8_tellComing 26 = .ok (.aload_n 0, 1) := by decide +kernel
theorem dX8_tellComing_27 : decode cX8_tellComing 27 = .ok (.getfield 12, 3) := by decide +kernel
theorem dX8_tellComing_30 : decode cX8_tellComing 30 = .ok (.invokevirtual 47, 3) := by decide +kernel
theorem dX8_tellComing_33 : decode cX8_tellComing 33 = .ok (.ifCond .eq 14, 3) := by decide +kernel
theorem dX8_tellComing_36 : decode cX8_tellComing 36 = .ok (.aload_n 0, 1) := by decide +kernel
theorem dX8_tellComing_37 : decode cX8_tellComing 37 = .ok (.getfield 12, 3) := by decide +kernel
theorem dX8_tellComing_40 : decode cX8_tellComing 40 = .ok (.getfield 51, 3) := by decide +kernel
theorem dX8_tellComing_43 : decode cX8_tellComing 43 = .ok (.l2i, 1) := by decide +kernel
theorem dX8_tellComing_44 : decode cX8_tellComing 44 = .ok (.goto 5, 3) := by decide +kernel
theorem dX8_tellComing_47 : decode cX8_tellComing 47 = .ok (.bipush (-2), 2) := by decide +kernel
theorem dX8_tellComing_49 : decode cX8_tellComing 49 = .ok (.ireturn, 1) := by decide +kernel
theorem dX8_tellComing_50 : decode cX8_tellComing 50 = .ok (.iload_n 3, 1) := by decide +kernel
theorem dX8_tellComing_51 : decode cX8_tellComing 51 = .ok (.iconst 1, 1) := by decide +kernel
theorem dX8_tellComing_52 : decode cX8_tellComing 52 = .ok (.if_icmp .ne 8, 3) := by decide +kernel
theorem dX8_tellComing_55 : decode cX8_tellComing 55 = .ok (.iload 4, 2) := by decide +kernel
theorem dX8_tellComing_57 : decode cX8_tellComing 57 = .ok (.goto 15, 3) := by decide +kernel
theorem dX8_tellComing_60 : decode cX8_tellComing 60 = .ok (.aload_n 0, 1) := by decide +kernel
theorem dX8_tellComing_61 : decode cX8_tellComing 61 = .ok (.getfield 12, 3) := by decide +kernel
theorem dX8_tellComing_64 : decode cX8_tellComing 64 = .ok (.getfield 55, 3) := by decide +kernel
theorem dX8_tellComing_67 : decode cX8_tellComing 67 = .ok (.aload_n 1, 1) := by decide +kernel
theorem dX8_tellComing_68 : decode cX8_tellComing 68 = .ok (.getfield 55, 3) := by decide +kernel
theorem dX8_tellComing_71 : decode cX8_tellComing 71 = .ok (.isub, 1) := by decide +kernel
theorem dX8_tellComing_72 : decode cX8_tellComing 72 = .ok (.ireturn, 1) := by decide +kernel
set_option maxRecDepth 20000 in
theorem ggX8_tellCircle_X9_copyFrom : GoodIn wsX8_tellCircle wsX9_copyFrom := goodIn_r _ [8, 9, 10, 11, 12, 13, 14, 15, 16, 17, 18, 19, 20, 7, 21, 22, 211, 212, 213, 214, 215, 216, 217, 218, 219] (by decide +kernel) (by decide +kernel)
set_option maxRecDepth 20000 in
theorem gX8_tellCircle_X9_copyFrom : GoodIn wsX8_tellCircle (wsV RX8 37 RX9 yX9_copyFrom wsX9_copyFrom) := goodIn_app (goodIn_of _ (by decide +kernel)) ggX8_tellCircle_X9_copyFrom
set_option maxRecDepth 20000 in
theorem ggX8_tellCircle_X8_findCircle : GoodIn wsX8_tellCircle wsX8_findCircle := goodIn_r _ [27, 28, 2, 1, 29, 30, 31, 26, 32, 33, 34, 35, 36, 37, 38, 39, 40, 41, 42, 43, 44, 45, 46, 47, 48, 49, 50, 51, 52, 53, 54, 7, 55, 9, 10, 56, 57, 58, 59, 60, 61, 62, 63, 64, 65, 66, 67, 68, 69, 70, 71, 72, 73, 74, 75, 76, 17, 77, 78, 79, 80, 13, 81, 82, 83, 84, 85, 86, 87, 88, 89, 90, 91, 92, 93, 94, 95, 96, 97, 98, 99, 100, 101, 102, 103, 104, 105, 106, 107, 108, 109, 110, 111, 112, 113, 114, 115, 116, 117, 118, 119, 120, 121, 122, 123, 124, 125, 126, 127, 128, 129, 130, 131, 132, 133, 134, 135, 136, 137, 138, 139, 140, 141, 142, 143, 144, 145, 146, 147, 148, 149, 150, 151, 152, 153, 154, 155, 156, 157, 158, 159, 160, 161, 162, 163, 164, 165, 166, 167, 168, 169, 170, 171, 172, 173, 174, 175, 176, 177, 178, 179, 180, 181, 182, 183, 184, 185, 186, 187, 188, 189, 190, 191, 192, 193, 194, 195, 196, 197, 198, 199, 200, 211, 212, 213, 214, 215, 216, 217, 218, 219, 201, 202, 203, 204, 205, 206, 207, 208, 209, 210, 220, 221, 222, 223, 224, 225, 226, 227, 228, 229, 230, 231, 232, 233, 234, 235, 236, 237, 238, 239, 240, 241, 242, 243, 244, 245, 246, 247, 248, 249, 250, 251, 252, 253, 254, 255] (by decide +kernel) (by decide +kernel)
set_option maxRecDepth 20000 in
theorem gX8_tellCircle_X8_findCircle : GoodIn wsX8_tellCircle (wsV RX8 63 RX8 yX8_findCircle wsX8_findCircle) := goodIn_app (goodIn_of _ (by decide +kernel)) ggX8_tellCircle_X8_findCircle
theorem dX8_tellCircle_0 : decode cX8_tellCircle 0 = .ok (.aload_n 0, 1) := by decide +kernel
theorem dX8_tellCircle_1 : decode cX8_tellCircle 1 = .ok (.getfield 12, 3) := by decide +kernel
theorem dX8_tellCircle_4 : decode cX8_tellCircle 4 = .ok (.aload_n 1, 1) := by decide +kernel
theorem dX8_tellCircle_5 : decode cX8_tellCircle 5 = .ok (.invokevirtual 37, 3) := by decide +kernel
theorem dX8_tellCircle_8 : decode cX8_tellCircle 8 = .ok (.aload_n 0, 1) := by decide +kernel
theorem dX8_tellCircle_9 : decode cX8_tellCircle 9 = .ok (.getfield 33, 3) := by decide +kernel
theorem dX8_tellCircle_12 : decode cX8_tellCircle 12 = .ok (.iconst 1, 1) := by decide +kernel
theorem dX8_tellCircle_13 : decode cX8_tellCircle 13 = .ok (.putfield 59, 3) := by decide +kernel
theorem dX8_tellCircle_16 : decode cX8_tellCircle 16 = .ok (.aload_n 0, 1) := by decide +kernel
theorem dX8_tellCircle_17 : decode cX8_tellCircle 17 = .ok (.iload_n 2, 1) := by decide +kernel
theorem dX8_tellCircle_18 : decode cX8_tellCircle 18 = .ok (.invokevirtual 63, 3) := by decide +kernel
theorem dX8_tellCircle_21 : decode cX8_tellCircle 21 = .ok (.istore_n 3, 1) := by decide +kernel
theorem dX8_tellCircle_22 : decode cX8_tellCircle 22 = .ok (.aload_n 0, 1) := by decide +kernel
theorem dX8_tellCircle_23 : decode cX8_tellCircle 23 = .ok (.getfield 33, 3) := by decide +kernel
theorem dX8_tellCircle_26 : decode cX8_tellCircle 26 = .ok (.iconst 0, 1) := by decide +kernel
theorem dX8_tellCircle_27 : decode cX8_tellCircle 27 = .ok (.putfield 59, 3) := by decide +kernel
theorem dX8_tellCircle_30 : decode cX8_tellCircle 30 = .ok (.iload_n 3, 1) := by decide +kernel
theorem dX8_tellCircle_31 : decode cX8_tellCircle 31 = .ok (.ireturn, 1) := by decide +kernel
set_option maxRecDepth 20000 in
theorem ggX8_findCircle_X8_ghostKey : GoodIn wsX8_findCircle wsX8_ghostKey := goodIn_r _ [8, 3, 9, 10, 11, 12, 174, 175, 176, 177, 178, 179, 180, 181, 182, 183, 184, 185, 186, 187, 188, 189, 190] (by decide +kernel) (by decide +kernel)
set_option maxRecDepth 20000 in
theorem gX8_findCircle_X8_ghostKey : GoodIn wsX8_findCircle (wsV RX8 67 RX8 yX8_ghostKey wsX8_ghostKey) := goodIn_app (goodIn_of _ (by decide +kernel)) ggX8_findCircle_X8_ghostKey
set_option maxRecDepth 20000 in
theorem ggX8_findCircle_X1_takeStep : GoodIn wsX8_findCircle wsX1_takeStep := goodIn_r _ [17, 18, 19, 20, 21, 22, 23, 24, 25, 26, 27, 28, 29, 30, 31, 32, 33, 34, 35, 36, 37, 16, 38, 39, 40, 41, 42, 43, 44, 45, 46, 47, 48, 49, 50, 51, 52, 53, 54, 55, 56, 57, 58, 59, 60, 61, 62, 63, 64, 65, 66, 67, 68, 69, 70, 71, 72, 73, 74, 75, 76, 77, 78, 79, 80, 81, 82, 83, 84, 85, 86, 87, 88, 89, 90, 91, 92, 93, 94, 95, 96, 97, 98, 99, 100, 101, 102, 103, 104, 105, 106, 107, 108, 109, 110, 111, 112, 113, 114, 115, 116, 117, 118, 119, 120, 121, 122, 123, 124, 125, 126, 127, 128, 129, 130, 131, 132, 133, 134, 135, 136, 137, 138, 139, 140, 141, 142, 143, 144, 145, 146, 147, 148, 149, 150, 151, 152, 153, 154, 155, 156, 157, 158, 159, 160, 161, 162, 163, 164, 165, 166, 167, 168, 169, 170, 171, 172, 182, 183, 184, 185, 186, 187, 188, 189, 190, 191, 192, 193, 194, 195, 196, 197, 198, 199, 200, 201, 202, 203, 204, 205, 206, 207, 208, 209, 210, 211, 212, 213, 214, 215, 216, 217, 218, 219, 220, 221, 222, 223, 224, 225, 226, 227, 228, 229, 230, 231, 232, 233, 234, 235, 236] (by decide +kernel) (by decide +kernel)
set_option maxRecDepth 20000 in
theorem gX8_findCircle_X1_takeStep : GoodIn wsX8_findCircle (wsV RX8 71 RX1 yX1_takeStep wsX1_takeStep) := goodIn_app (goodIn_of _ (by decide +kernel)) ggX8_findCircle_X1_takeStep
set_option maxRecDepth 20000 in
theorem ggX8_findCircle_X9_isAtGoal : GoodIn wsX8_findCircle wsX9_isAtGoal := goodIn_r _ [32, 33, 34, 182, 183, 184, 185, 186, 187, 188, 189, 190] (by decide +kernel) (by decide +kernel)
set_option maxRecDepth 20000 in
theorem gX8_findCircle_X9_isAtGoal : GoodIn wsX8_findCircle (wsV RX8 47 RX9 yX9_isAtGoal wsX9_isAtGoal) := goodIn_app (goodIn_of _ (by decide +kernel)) ggX8_findCircle_X9_isAtGoal
theorem dX8_findCircle_0 : decode cX8_findCircle 0 = .ok (.aload_n 0, 1) := by decide +kernel
theorem dX8_findCircle_1 : decode cX8_findCircle 1 = .ok (.getfield 18, 3) := by decide +kernel
theorem dX8_findCircle_4 : decode cX8_findCircle 4 = .ok (.iconst 0, 1) := by decide +kernel
theorem dX8_findCircle_5 : decode cX8_findCircle 5 = .ok (.aload_n 0, 1) := by decide +kernel
theorem dX8_findCircle_6 : decode cX8_findCircle 6 = .ok (.invokevirtual 67, 3) := by decide +kernel
theorem dX8_findCircle_9 : decode cX8_findCircle 9 = .ok (.iastore, 1) := by decide +kernel
theorem dX8_findCircle_10 : decode cX8_findCircle 10 = .ok (.iconst 1, 1) := by decide +kernel
theorem dX8_findCircle_11 : decode cX8_findCircle 11 = .ok (.istore_n 2, 1) := by decide +kernel
theorem dX8_findCircle_12 : decode cX8_findCircle 12 = .ok (.iload_n 2, 1) := by decide +kernel
theorem dX8_findCircle_13 : decode cX8_findCircle 13 = .ok (.sipush 300, 3) := by decide +kernel
theorem dX8_findCircle_16 : decode cX8_findCircle 16 = .ok (.if_icmp .gt 84, 3) := by decide +kernel
theorem dX8_findCircle_19 : decode cX8_findCircle 19 = .ok (.aload_n 0, 1) := by decide +kernel
theorem dX8_findCircle_20 : decode cX8_findCircle 20 = .ok (.getfield 33, 3) := by decide +kernel
theorem dX8_findCircle_23 : decode cX8_findCircle 23 = .ok (.aload_n 0, 1) := by decide +kernel
theorem dX8_findCircle_24 : decode cX8_findCircle 24 = .ok (.getfield 12, 3) := by decide +kernel
theorem dX8_findCircle_27 : decode cX8_findCircle 27 = .ok (.invokevirtual 71, 3) := by decide +kernel
theorem dX8_findCircle_30 : decode cX8_findCircle 30 = .ok (.pop, 1) := by decide +kernel
theorem dX8_findCircle_31 : decode cX8_findCircle 31 = .ok (.aload_n 0, 1) := by decide +kernel
theorem dX8_findCircle_32 : decode cX8_findCircle 32 = .ok (.getfield 12, 3) := by decide +kernel
theorem dX8_findCircle_35 : decode cX8_findCircle 35 = .ok (.invokevirtual 47, 3) := by decide +kernel
theorem dX8_findCircle_38 : decode cX8_findCircle 38 = .ok (.ifCond .eq 6, 3) := by decide +kernel
theorem dX8_findCircle_41 : decode cX8_findCircle 41 = .ok (.bipush (-2), 2) := by decide +kernel
theorem dX8_findCircle_43 : decode cX8_findCircle 43 = .ok (.ireturn, 1) := by decide +kernel
theorem dX8_findCircle_44 : decode cX8_findCircle 44 = .ok (.aload_n 0, 1) := by decide +kernel
theorem dX8_findCircle_45 : decode cX8_findCircle 45 = .ok (.getfield 18, 3) := by decide +kernel
theorem dX8_findCircle_48 : decode cX8_findCircle 48 = .ok (.iload_n 2, 1) := by decide +kernel
theorem dX8_findCircle_49 : decode cX8_findCircle 49 = .ok (.aload_n 0, 1) := by decide +kernel
theorem dX8_findCircle_50 : decode cX8_findCircle 50 = .ok (.invokevirtual 67, 3) := by decide +kernel
theorem dX8_findCircle_53 : decode cX8_findCircle 53 = .ok (.iastore, 1) := by decide +kernel
theorem dX8_findCircle_54 : decode cX8_findCircle 54 = .ok (.iconst 0, 1) := by decide +kernel
theorem dX8_findCircle_55 : decode cX8_findCircle 55 = .ok (.istore_n 3, 1) := by decide +kernel
theorem dX8_findCircle_56 : decode cX8_findCircle 56 = .ok (.iload_n 3, 1) := by decide +kernel
theorem dX8_findCircle_57 : decode cX8_findCircle 57 = .ok (.iload_n 2, 1) := by decide +kernel
theorem dX8_findCircle_58 : decode cX8_findCircle 58 = .ok (.if_icmp .ge 36, 3) := by decide +kernel
theorem dX8_findCircle_61 : decode cX8_findCircle 61 = .ok (.aload_n 0, 1) := by decide +kernel
theorem dX8_findCircle_62 : decode cX8_findCircle 62 = .ok (.getfield 18, 3) := by decide +kernel
theorem dX8_findCircle_65 : decode cX8_findCircle 65 = .ok (.iload_n 3, 1) := by decide +kernel
theorem dX8_findCircle_66 : decode cX8_findCircle 66 = .ok (.iaload, 1) := by decide +kernel
theorem dX8_findCircle_67 : decode cX8_findCircle 67 = .ok (.aload_n 0, 1) := by decide +kernel
theorem dX8_findCircle_68 : decode cX8_findCircle 68 = .ok (.getfield 18, 3) := by decide +kernel
theorem dX8_findCircle_71 : decode cX8_findCircle 71 = .ok (.iload_n 2, 1) := by decide +kernel
theorem dX8_findCircle_72 : decode cX8_findCircle 72 = .ok (.iaload, 1) := by decide +kernel
theorem dX8_findCircle_73 : decode cX8_findCircle 73 = .ok (.if_icmp .ne 15, 3) := by decide +kernel
theorem dX8_findCircle_76 : decode cX8_findCircle 76 = .ok (.iload_n 1, 1) := by decide +kernel
theorem dX8_findCircle_77 : decode cX8_findCircle 77 = .ok (.ifCond .ne 7, 3) := by decide +kernel
theorem dX8_findCircle_80 : decode cX8_findCircle 80 = .ok (.iload_n 3, 1) := by decide +kernel
theorem dX8_findCircle_81 : decode cX8_findCircle 81 = .ok (.goto 6, 3) := by decide +kernel
theorem dX8_findCircle_84 : decode cX8_findCircle 84 = .ok (.iload_n 2, 1) := by decide +kernel
theorem dX8_findCircle_85 : decode cX8_findCircle 85 = .ok (.iload_n 3, 1) := by decide +kernel
theorem dX8_findCircle_86 : decode cX8_findCircle 86 = .ok (.isub, 1) := by decide +kernel
theorem dX8_findCircle_87 : decode cX8_findCircle 87 = .ok (.ireturn, 1) := by decide +kernel
theorem dX8_findCircle_88 : decode cX8_findCircle 88 = .ok (.iinc 3 1, 3) := by decide +kernel
theorem dX8_findCircle_91 : decode cX8_findCircle 91 = .ok (.goto (-35), 3) := by decide +kernel
theorem dX8_findCircle_94 : decode cX8_findCircle 94 = .ok (.iinc 2 1, 3) := by decide +kernel
theorem dX8_findCircle_97 : decode cX8_findCircle 97 = .ok (.goto (-85), 3) := by decide +kernel
theorem dX8_findCircle_100 : decode cX8_findCircle 100 = .ok (.bipush (-2), 2) := by decide +kernel
theorem dX8_findCircle_102 : decode cX8_findCircle 102 = .ok (.ireturn, 1) := by decide +kernel
theorem dX8_ghostKey_0 : decode cX8_ghostKey 0 = .ok (.aload_n 0, 1) := by decide +kernel
theorem dX8_ghostKey_1 : decode cX8_ghostKey 1 = .ok (.getfield 12, 3) := by decide +kernel
theorem dX8_ghostKey_4 : decode cX8_ghostKey 4 = .ok (.getfield 51, 3) := by decide +kernel
theorem dX8_ghostKey_7 : decode cX8_ghostKey 7 = .ok (.ldc2_w 75, 3) := by decide +kernel
theorem dX8_ghostKey_10 : decode cX8_ghostKey 10 = .ok (.lrem, 1) := by decide +kernel
theorem dX8_ghostKey_11 : decode cX8_ghostKey 11 = .ok (.l2i, 1) := by decide +kernel
theorem dX8_ghostKey_12 : decode cX8_ghostKey 12 = .ok (.istore_n 1, 1) := by decide +kernel
theorem dX8_ghostKey_13 : decode cX8_ghostKey 13 = .ok (.iload_n 1, 1) := by decide +kernel
theorem dX8_ghostKey_14 : decode cX8_ghostKey 14 = .ok (.bipush 10, 2) := by decide +kernel
theorem dX8_ghostKey_16 : decode cX8_ghostKey 16 = .ok (.imul, 1) := by decide +kernel
theorem dX8_ghostKey_17 : decode cX8_ghostKey 17 = .ok (.aload_n 0, 1) := by decide +kernel
theorem dX8_ghostKey_18 : decode cX8_ghostKey 18 = .ok (.getfield 12, 3) := by decide +kernel
theorem dX8_ghostKey_21 : decode cX8_ghostKey 21 = .ok (.getfield 77, 3) := by decide +kernel
theorem dX8_ghostKey_24 : decode cX8_ghostKey 24 = .ok (.iadd, 1) := by decide +kernel
theorem dX8_ghostKey_25 : decode cX8_ghostKey 25 = .ok (.bipush 11, 2) := by decide +kernel
theorem dX8_ghostKey_27 : decode cX8_ghostKey 27 = .ok (.imul, 1) := by decide +kernel
theorem dX8_ghostKey_28 : decode cX8_ghostKey 28 = .ok (.aload_n 0, 1) := by decide +kernel
theorem dX8_ghostKey_29 : decode cX8_ghostKey 29 = .ok (.getfield 12, 3) := by decide +kernel
theorem dX8_ghostKey_32 : decode cX8_ghostKey 32 = .ok (.getfield 80, 3) := by decide +kernel
theorem dX8_ghostKey_35 : decode cX8_ghostKey 35 = .ok (.iadd, 1) := by decide +kernel
theorem dX8_ghostKey_36 : decode cX8_ghostKey 36 = .ok (.iconst 1, 1) := by decide +kernel
theorem dX8_ghostKey_37 : decode cX8_ghostKey 37 = .ok (.iadd, 1) := by decide +kernel
theorem dX8_ghostKey_38 : decode cX8_ghostKey 38 = .ok (.ireturn, 1) := by decide +kernel
set_option maxRecDepth 20000 in
theorem ggX8_fewestQuestions_J7_fill_53178 : GoodIn wsX8_fewestQuestions wsJ7_fill_53178 := goodIn_r _ [12] (by decide +kernel) (by decide +kernel)
set_option maxRecDepth 20000 in
theorem gX8_fewestQuestions_J7_fill_53178 : GoodIn wsX8_fewestQuestions (va_wsS RX8 87 yJ7_fill_53178 wsJ7_fill_53178) := goodIn_app (goodIn_of _ (by decide +kernel)) ggX8_fewestQuestions_J7_fill_53178
set_option maxRecDepth 20000 in
theorem ggX8_fewestQuestions_X9_askedToday : GoodIn wsX8_fewestQuestions wsX9_askedToday := goodIn_r _ [17, 18, 19, 20, 21, 16, 22, 23, 24, 90, 91, 92, 93, 94, 95, 96, 97, 98] (by decide +kernel) (by decide +kernel)
set_option maxRecDepth 20000 in
theorem gX8_fewestQuestions_X9_askedToday : GoodIn wsX8_fewestQuestions (wsV RX8 93 RX9 yX9_askedToday wsX9_askedToday) := goodIn_app (goodIn_of _ (by decide +kernel)) ggX8_fewestQuestions_X9_askedToday
set_option maxRecDepth 20000 in
theorem ggX8_fewestQuestions_X8_spread : GoodIn wsX8_fewestQuestions wsX8_spread := goodIn_r _ [29, 30, 31, 32, 33, 8, 5, 6, 34, 35, 36, 37, 28, 38, 1, 2, 39, 40, 41, 42, 43, 44, 45, 46, 47, 48, 49, 50, 51, 52, 53, 54, 55, 56, 57, 58, 59, 60, 61, 62, 63, 64, 65, 66, 67, 68, 69, 70, 71, 72, 73, 74, 75, 76, 77, 78, 79, 80, 81, 90, 91, 92, 93, 94, 95, 96, 97, 98, 82, 83, 84, 85, 86, 87, 88, 89, 99, 100, 101, 102, 103, 104, 105, 106, 107, 108, 109, 110, 111, 112, 113, 114, 115, 116, 117, 118, 119, 120, 121, 122, 123, 124, 125, 126, 127, 128] (by decide +kernel) (by decide +kernel)
set_option maxRecDepth 20000 in
theorem gX8_fewestQuestions_X8_spread : GoodIn wsX8_fewestQuestions (wsV RX8 110 RX8 yX8_spread wsX8_spread) := goodIn_app (goodIn_of _ (by decide +kernel)) ggX8_fewestQuestions_X8_spread
theorem dX8_fewestQuestions_0 : decode cX8_fewestQuestions 0 = .ok (.aload_n 0, 1) := by decide +kernel
theorem dX8_fewestQuestions_1 : decode cX8_fewestQuestions 1 = .ok (.iload_n 2, 1) := by decide +kernel
theorem dX8_fewestQuestions_2 : decode cX8_fewestQuestions 2 = .ok (.putfield 83, 3) := by decide +kernel
theorem dX8_fewestQuestions_5 : decode cX8_fewestQuestions 5 = .ok (.aload_n 0, 1) := by decide +kernel
theorem dX8_fewestQuestions_6 : decode cX8_fewestQuestions 6 = .ok (.getfield 22, 3) := by decide +kernel
theorem dX8_fewestQuestions_9 : decode cX8_fewestQuestions 9 = .ok (.ldc 86, 2) := by decide +kernel
theorem dX8_fewestQuestions_11 : decode cX8_fewestQuestions 11 = .ok (.invokestatic 87, 3) := by decide +kernel
theorem dX8_fewestQuestions_14 : decode cX8_fewestQuestions 14 = .ok (.aload_n 0, 1) := by decide +kernel
theorem dX8_fewestQuestions_15 : decode cX8_fewestQuestions 15 = .ok (.getfield 22, 3) := by decide +kernel
theorem dX8_fewestQuestions_18 : decode cX8_fewestQuestions 18 = .ok (.iconst 2, 1) := by decide +kernel
theorem dX8_fewestQuestions_19 : decode cX8_fewestQuestions 19 = .ok (.aload_n 1, 1) := by decide +kernel
theorem dX8_fewestQuestions_20 : decode cX8_fewestQuestions 20 = .ok (.getfield 77, 3) := by decide +kernel
theorem dX8_fewestQuestions_23 : decode cX8_fewestQuestions 23 = .ok (.imul, 1) := by decide +kernel
theorem dX8_fewestQuestions_24 : decode cX8_fewestQuestions 24 = .ok (.aload_n 1, 1) := by decide +kernel
theorem dX8_fewestQuestions_25 : decode cX8_fewestQuestions 25 = .ok (.invokevirtual 93, 3) := by decide +kernel
theorem dX8_fewestQuestions_28 : decode cX8_fewestQuestions 28 = .ok (.ifCond .eq 7, 3) := by decide +kernel
theorem dX8_fewestQuestions_31 : decode cX8_fewestQuestions 31 = .ok (.iconst 1, 1) := by decide +kernel
theorem dX8_fewestQuestions_32 : decode cX8_fewestQuestions 32 = .ok (.goto 4, 3) := by decide +kernel
theorem dX8_fewestQuestions_35 : decode cX8_fewestQuestions 35 = .ok (.iconst 0, 1) := by decide +kernel
theorem dX8_fewestQuestions_36 : decode cX8_fewestQuestions 36 = .ok (.iadd, 1) := by decide +kernel
theorem dX8_fewestQuestions_37 : decode cX8_fewestQuestions 37 = .ok (.iconst 0, 1) := by decide +kernel
theorem dX8_fewestQuestions_38 : decode cX8_fewestQuestions 38 = .ok (.iastore, 1) := by decide +kernel
theorem dX8_fewestQuestions_39 : decode cX8_fewestQuestions 39 = .ok (.ldc 86, 2) := by decide +kernel
theorem dX8_fewestQuestions_41 : decode cX8_fewestQuestions 41 = .ok (.istore_n 3, 1) := by decide +kernel
theorem dX8_fewestQuestions_42 : decode cX8_fewestQuestions 42 = .ok (.iconst 0, 1) := by decide +kernel
theorem dX8_fewestQuestions_43 : decode cX8_fewestQuestions 43 = .ok (.istore 4, 2) := by decide +kernel
theorem dX8_fewestQuestions_45 : decode cX8_fewestQuestions 45 = .ok (.iload 4, 2) := by decide +kernel
theorem dX8_fewestQuestions_47 : decode cX8_fewestQuestions 47 = .ok (.iload_n 2, 1) := by decide +kernel
theorem dX8_fewestQuestions_48 : decode cX8_fewestQuestions 48 = .ok (.if_icmp .gt 87, 3) := by decide +kernel
theorem dX8_fewestQuestions_51 : decode cX8_fewestQuestions 51 = .ok (.iconst 0, 1) := by decide +kernel
theorem dX8_fewestQuestions_52 : decode cX8_fewestQuestions 52 = .ok (.istore 5, 2) := by decide +kernel
theorem dX8_fewestQuestions_54 : decode cX8_fewestQuestions 54 = .ok (.iload 5, 2) := by decide +kernel
theorem dX8_fewestQuestions_56 : decode cX8_fewestQuestions 56 = .ok (.iconst 2, 1) := by decide +kernel
theorem dX8_fewestQuestions_57 : decode cX8_fewestQuestions 57 = .ok (.aload_n 0, 1) := by decide +kernel
theorem dX8_fewestQuestions_58 : decode cX8_fewestQuestions 58 = .ok (.getfield 25, 3) := by decide +kernel
theorem dX8_fewestQuestions_61 : decode cX8_fewestQuestions 61 = .ok (.getfield 96, 3) := by decide +kernel
theorem dX8_fewestQuestions_64 : decode cX8_fewestQuestions 64 = .ok (.getfield 102, 3) := by decide +kernel
theorem dX8_fewestQuestions_67 : decode cX8_fewestQuestions 67 = .ok (.imul, 1) := by decide +kernel
theorem dX8_fewestQuestions_68 : decode cX8_fewestQuestions 68 = .ok (.if_icmp .ge 61, 3) := by decide +kernel
theorem dX8_fewestQuestions_71 : decode cX8_fewestQuestions 71 = .ok (.aload_n 0, 1) := by decide +kernel
theorem dX8_fewestQuestions_72 : decode cX8_fewestQuestions 72 = .ok (.getfield 22, 3) := by decide +kernel
theorem dX8_fewestQuestions_75 : decode cX8_fewestQuestions 75 = .ok (.iload 4, 2) := by decide +kernel
theorem dX8_fewestQuestions_77 : decode cX8_fewestQuestions 77 = .ok (.bipush 20, 2) := by decide +kernel
theorem dX8_fewestQuestions_79 : decode cX8_fewestQuestions 79 = .ok (.imul, 1) := by decide +kernel
theorem dX8_fewestQuestions_80 : decode cX8_fewestQuestions 80 = .ok (.iload 5, 2) := by decide +kernel
theorem dX8_fewestQuestions_82 : decode cX8_fewestQuestions 82 = .ok (.iadd, 1) := by decide +kernel
theorem dX8_fewestQuestions_83 : decode cX8_fewestQuestions 83 = .ok (.iaload, 1) := by decide +kernel
theorem dX8_fewestQuestions_84 : decode cX8_fewestQuestions 84 = .ok (.istore 6, 2) := by decide +kernel
theorem dX8_fewestQuestions_86 : decode cX8_fewestQuestions 86 = .ok (.iload 6, 2) := by decide +kernel
theorem dX8_fewestQuestions_88 : decode cX8_fewestQuestions 88 = .ok (.iload_n 3, 1) := by decide +kernel
theorem dX8_fewestQuestions_89 : decode cX8_fewestQuestions 89 = .ok (.if_icmp .lt 6, 3) := by decide +kernel
theorem dX8_fewestQuestions_92 : decode cX8_fewestQuestions 92 = .ok (.goto 31, 3) := by decide +kernel
theorem dX8_fewestQuestions_95 : decode cX8_fewestQuestions 95 = .ok (.iload 5, 2) := by decide +kernel
theorem dX8_fewestQuestions_97 : decode cX8_fewestQuestions 97 = .ok (.iconst 2, 1) := by decide +kernel
theorem dX8_fewestQuestions_98 : decode cX8_fewestQuestions 98 = .ok (.idiv, 1) := by decide +kernel
theorem dX8_fewestQuestions_99 : decode cX8_fewestQuestions 99 = .ok (.aload_n 1, 1) := by decide +kernel
theorem dX8_fewestQuestions_100 : decode cX8_fewestQuestions 100 = .ok (.getfield 107, 3) := by decide +kernel
theorem dX8_fewestQuestions_103 : decode cX8_fewestQuestions 103 = .ok (.if_icmp .ne 9, 3) := by decide +kernel
theorem dX8_fewestQuestions_106 : decode cX8_fewestQuestions 106 = .ok (.iload 6, 2) := by decide +kernel
theorem dX8_fewestQuestions_108 : decode cX8_fewestQuestions 108 = .ok (.istore_n 3, 1) := by decide +kernel
theorem dX8_fewestQuestions_109 : decode cX8_fewestQuestions 109 = .ok (.goto 14, 3) := by decide +kernel
theorem dX8_fewestQuestions_112 : decode cX8_fewestQuestions 112 = .ok (.aload_n 0, 1) := by decide +kernel
theorem dX8_fewestQuestions_113 : decode cX8_fewestQuestions 113 = .ok (.aload_n 1, 1) := by decide +kernel
theorem dX8_fewestQuestions_114 : decode cX8_fewestQuestions 114 = .ok (.iload 4, 2) := by decide +kernel
theorem dX8_fewestQuestions_116 : decode cX8_fewestQuestions 116 = .ok (.iload 5, 2) := by decide +kernel
theorem dX8_fewestQuestions_118 : decode cX8_fewestQuestions 118 = .ok (.iload 6, 2) := by decide +kernel
theorem dX8_fewestQuestions_120 : decode cX8_fewestQuestions 120 = .ok (.invokevirtual 110, 3) := by decide +kernel
theorem dX8_fewestQuestions_123 : decode cX8_fewestQuestions 123 = .ok (.iinc 5 1, 3) := by decide +kernel
theorem dX8_fewestQuestions_126 : decode cX8_fewestQuestions 126 = .ok (.goto (-72), 3) := by decide +kernel
theorem dX8_fewestQuestions_129 : decode cX8_fewestQuestions 129 = .ok (.iinc 4 1, 3) := by decide +kernel
theorem dX8_fewestQuestions_132 : decode cX8_fewestQuestions 132 = .ok (.goto (-87), 3) := by decide +kernel
theorem dX8_fewestQuestions_135 : decode cX8_fewestQuestions 135 = .ok (.iload_n 3, 1) := by decide +kernel
theorem dX8_fewestQuestions_136 : decode cX8_fewestQuestions 136 = .ok (.ldc 86, 2) := by decide +kernel
theorem dX8_fewestQuestions_138 : decode cX8_fewestQuestions 138 = .ok (.if_icmp .ne 8, 3) := by decide +kernel
theorem dX8_fewestQuestions_141 : decode cX8_fewestQuestions 141 = .ok (.bipush (-2), 2) := by decide +kernel
theorem dX8_fewestQuestions_143 : decode cX8_fewestQuestions 143 = .ok (.goto 4, 3) := by decide +kernel
theorem dX8_fewestQuestions_146 : decode cX8_fewestQuestions 146 = .ok (.iload_n 3, 1) := by decide +kernel
theorem dX8_fewestQuestions_147 : decode cX8_fewestQuestions 147 = .ok (.ireturn, 1) := by decide +kernel
set_option maxRecDepth 20000 in
theorem ggX8_spread_X8_note : GoodIn wsX8_spread wsX8_note := goodIn_r _ [13, 14, 2, 15, 16, 17, 18, 19, 68, 69, 70, 71, 72, 73, 74, 75] (by decide +kernel) (by decide +kernel)
set_option maxRecDepth 20000 in
theorem gX8_spread_X8_note : GoodIn wsX8_spread (wsV RX8 114 RX8 yX8_note wsX8_note) := goodIn_app (goodIn_of _ (by decide +kernel)) ggX8_spread_X8_note
set_option maxRecDepth 20000 in
theorem ggX8_spread_X0_ofWeekday : GoodIn wsX8_spread wsX0_ofWeekday := goodIn_r _ [23, 24] (by decide +kernel) (by decide +kernel)
set_option maxRecDepth 20000 in
theorem gX8_spread_X0_ofWeekday : GoodIn wsX8_spread (va_wsS RX8 120 yX0_ofWeekday wsX0_ofWeekday) := goodIn_app (goodIn_of _ (by decide +kernel)) ggX8_spread_X0_ofWeekday
set_option maxRecDepth 20000 in
theorem ggX8_spread_X0_streetBy : GoodIn wsX8_spread wsX0_streetBy := goodIn_r _ [28, 29, 30, 31, 22, 32, 102, 103, 104, 105] (by decide +kernel) (by decide +kernel)
set_option maxRecDepth 20000 in
theorem gX8_spread_X0_streetBy : GoodIn wsX8_spread (wsV RX8 129 RX0 yX0_streetBy wsX0_streetBy) := goodIn_app (goodIn_of _ (by decide +kernel)) ggX8_spread_X0_streetBy
set_option maxRecDepth 20000 in
theorem ggX8_spread_X7_sideOf : GoodIn wsX8_spread wsX7_sideOf := goodIn_r _ [37, 38, 90, 91, 92, 93, 94, 95, 96, 97, 98, 99, 100, 101] (by decide +kernel) (by decide +kernel)
set_option maxRecDepth 20000 in
theorem gX8_spread_X7_sideOf : GoodIn wsX8_spread (wsV RX8 133 RX7 yX7_sideOf wsX7_sideOf) := goodIn_app (goodIn_of _ (by decide +kernel)) ggX8_spread_X7_sideOf
set_option maxRecDepth 20000 in
theorem ggX8_spread_X7_isOpen : GoodIn wsX8_spread wsX7_isOpen := goodIn_r _ [42, 43, 44, 45, 46, 36, 47, 48, 49, 50, 51, 52, 53, 54, 90, 91, 92, 93, 94, 95, 96, 97, 98, 99, 100, 101] (by decide +kernel) (by decide +kernel)
set_option maxRecDepth 20000 in
theorem gX8_spread_X7_isOpen : GoodIn wsX8_spread (wsV RX8 137 RX7 yX7_isOpen wsX7_isOpen) := goodIn_app (goodIn_of _ (by decide +kernel)) ggX8_spread_X7_isOpen
set_option maxRecDepth 20000 in
theorem ggX8_spread_X7_cornerAcross : GoodIn wsX8_spread wsX7_cornerAcross := goodIn_r _ [58, 38, 90, 91, 92, 93, 94, 95, 96, 97, 98, 99, 100, 101] (by decide +kernel) (by decide +kernel)
set_option maxRecDepth 20000 in
theorem gX8_spread_X7_cornerAcross : GoodIn wsX8_spread (wsV RX8 141 RX7 yX7_cornerAcross wsX7_cornerAcross) := goodIn_app (goodIn_of _ (by decide +kernel)) ggX8_spread_X7_cornerAcross
theorem dX8_spread_0 : decode cX8_spread 0 = .ok (.iload_n 3, 1) := by decide +kernel
theorem dX8_spread_1 : decode cX8_spread 1 = .ok (.iconst 2, 1) := by decide +kernel
theorem dX8_spread_2 : decode cX8_spread 2 = .ok (.idiv, 1) := by decide +kernel
theorem dX8_spread_3 : decode cX8_spread 3 = .ok (.istore 5, 2) := by decide +kernel
theorem dX8_spread_5 : decode cX8_spread 5 = .ok (.iload_n 3, 1) := by decide +kernel
theorem dX8_spread_6 : decode cX8_spread 6 = .ok (.iconst 2, 1) := by decide +kernel
theorem dX8_spread_7 : decode cX8_spread 7 = .ok (.irem, 1) := by decide +kernel
theorem dX8_spread_8 : decode cX8_spread 8 = .ok (.istore 6, 2) := by decide +kernel
theorem dX8_spread_10 : decode cX8_spread 10 = .ok (.aload_n 1, 1) := by decide +kernel
theorem dX8_spread_11 : decode cX8_spread 11 = .ok (.getfield 51, 3) := by decide +kernel
theorem dX8_spread_14 : decode cX8_spread 14 = .ok (.iload_n 2, 1) := by decide +kernel
theorem dX8_spread_15 : decode cX8_spread 15 = .ok (.i2l, 1) := by decide +kernel
theorem dX8_spread_16 : decode cX8_spread 16 = .ok (.ladd, 1) := by decide +kernel
theorem dX8_spread_17 : decode cX8_spread 17 = .ok (.lstore 7, 2) := by decide +kernel
theorem dX8_spread_19 : decode cX8_spread 19 = .ok (.aload_n 0, 1) := by decide +kernel
theorem dX8_spread_20 : decode cX8_spread 20 = .ok (.lload 7, 2) := by decide +kernel
theorem dX8_spread_22 : decode cX8_spread 22 = .ok (.iload_n 2, 1) := by decide +kernel
theorem dX8_spread_23 : decode cX8_spread 23 = .ok (.iconst 1, 1) := by decide +kernel
theorem dX8_spread_24 : decode cX8_spread 24 = .ok (.iload_n 3, 1) := by decide +kernel
theorem dX8_spread_25 : decode cX8_spread 25 = .ok (.iload 4, 2) := by decide +kernel
theorem dX8_spread_27 : decode cX8_spread 27 = .ok (.invokevirtual 114, 3) := by decide +kernel
theorem dX8_spread_30 : decode cX8_spread 30 = .ok (.iload 6, 2) := by decide +kernel
theorem dX8_spread_32 : decode cX8_spread 32 = .ok (.ifCond .ne 18, 3) := by decide +kernel
theorem dX8_spread_35 : decode cX8_spread 35 = .ok (.aload_n 0, 1) := by decide +kernel
theorem dX8_spread_36 : decode cX8_spread 36 = .ok (.lload 7, 2) := by decide +kernel
theorem dX8_spread_38 : decode cX8_spread 38 = .ok (.iload_n 2, 1) := by decide +kernel
theorem dX8_spread_39 : decode cX8_spread 39 = .ok (.iconst 1, 1) := by decide +kernel
theorem dX8_spread_40 : decode cX8_spread 40 = .ok (.iload_n 3, 1) := by decide +kernel
theorem dX8_spread_41 : decode cX8_spread 41 = .ok (.iconst 1, 1) := by decide +kernel
theorem dX8_spread_42 : decode cX8_spread 42 = .ok (.iadd, 1) := by decide +kernel
theorem dX8_spread_43 : decode cX8_spread 43 = .ok (.iload 4, 2) := by decide +kernel
theorem dX8_spread_45 : decode cX8_spread 45 = .ok (.iconst 1, 1) := by decide +kernel
theorem dX8_spread_46 : decode cX8_spread 46 = .ok (.iadd, 1) := by decide +kernel
theorem dX8_spread_47 : decode cX8_spread 47 = .ok (.invokevirtual 114, 3) := by decide +kernel
theorem dX8_spread_50 : decode cX8_spread 50 = .ok (.iload 6, 2) := by decide +kernel
theorem dX8_spread_52 : decode cX8_spread 52 = .ok (.iconst 1, 1) := by decide +kernel
theorem dX8_spread_53 : decode cX8_spread 53 = .ok (.if_icmp .ne 15, 3) := by decide +kernel
theorem dX8_spread_56 : decode cX8_spread 56 = .ok (.lload 7, 2) := by decide +kernel
theorem dX8_spread_58 : decode cX8_spread 58 = .ok (.ldc2_w 118, 3) := by decide +kernel
theorem dX8_spread_61 : decode cX8_spread 61 = .ok (.ldiv, 1) := by decide +kernel
theorem dX8_spread_62 : decode cX8_spread 62 = .ok (.invokestatic 120, 3) := by decide +kernel
theorem dX8_spread_65 : decode cX8_spread 65 = .ok (.goto 7, 3) := by decide +kernel
theorem dX8_spread_68 : decode cX8_spread 68 = .ok (.aload_n 1, 1) := by decide +kernel
theorem dX8_spread_69 : decode cX8_spread 69 = .ok (.getfield 126, 3) := by decide +kernel
theorem dX8_spread_72 : decode cX8_spread 72 = .ok (.istore 9, 2) := by decide +kernel
theorem dX8_spread_74 : decode cX8_spread 74 = .ok (.aload_n 0, 1) := by decide +kernel
theorem dX8_spread_75 : decode cX8_spread 75 = .ok (.getfield 29, 3) := by decide +kernel
theorem dX8_spread_78 : decode cX8_spread 78 = .ok (.iload 9, 2) := by decide +kernel
theorem dX8_spread_80 : decode cX8_spread 80 = .ok (.iload 5, 2) := by decide +kernel
theorem dX8_spread_82 : decode cX8_spread 82 = .ok (.aload_n 1, 1) := by decide +kernel
theorem dX8_spread_83 : decode cX8_spread 83 = .ok (.getfield 107, 3) := by decide +kernel
theorem dX8_spread_86 : decode cX8_spread 86 = .ok (.invokevirtual 129, 3) := by decide +kernel
theorem dX8_spread_89 : decode cX8_spread 89 = .ok (.istore 10, 2) := by decide +kernel
theorem dX8_spread_91 : decode cX8_spread 91 = .ok (.iload 10, 2) := by decide +kernel
theorem dX8_spread_93 : decode cX8_spread 93 = .ok (.iconst (-1), 1) := by decide +kernel
theorem dX8_spread_94 : decode cX8_spread 94 = .ok (.if_icmp .ne 4, 3) := by decide +kernel
theorem dX8_spread_97 : decode cX8_spread 97 = .ok (.return_, 1) := by decide +kernel
theorem dX8_spread_98 : decode cX8_spread 98 = .ok (.aload_n 0, 1) := by decide +kernel
theorem dX8_spread_99 : decode cX8_spread 99 = .ok (.getfield 25, 3) := by decide +kernel
theorem dX8_spread_102 : decode cX8_spread 102 = .ok (.getfield 96, 3) := by decide +kernel
theorem dX8_spread_105 : decode cX8_spread 105 = .ok (.iload 10, 2) := by decide +kernel
theorem dX8_spread_107 : decode cX8_spread 107 = .ok (.iload 5, 2) := by decide +kernel
theorem dX8_spread_109 : decode cX8_spread 109 = .ok (.invokevirtual 133, 3) := by decide +kernel
theorem dX8_spread_112 : decode cX8_spread 112 = .ok (.istore 11, 2) := by decide +kernel
theorem dX8_spread_114 : decode cX8_spread 114 = .ok (.iload 11, 2) := by decide +kernel
theorem dX8_spread_116 : decode cX8_spread 116 = .ok (.iconst (-1), 1) := by decide +kernel
theorem dX8_spread_117 : decode cX8_spread 117 = .ok (.if_icmp .eq 68, 3) := by decide +kernel
theorem dX8_spread_120 : decode cX8_spread 120 = .ok (.aload_n 0, 1) := by decide +kernel
theorem dX8_spread_121 : decode cX8_spread 121 = .ok (.getfield 25, 3) := by decide +kernel
theorem dX8_spread_124 : decode cX8_spread 124 = .ok (.getfield 96, 3) := by decide +kernel
theorem dX8_spread_127 : decode cX8_spread 127 = .ok (.iload 10, 2) := by decide +kernel
theorem dX8_spread_129 : decode cX8_spread 129 = .ok (.iload 11, 2) := by decide +kernel
theorem dX8_spread_131 : decode cX8_spread 131 = .ok (.lload 7, 2) := by decide +kernel
theorem dX8_spread_133 : decode cX8_spread 133 = .ok (.iconst 1, 1) := by decide +kernel
theorem dX8_spread_134 : decode cX8_spread 134 = .ok (.invokevirtual 137, 3) := by decide +kernel
theorem dX8_spread_137 : decode cX8_spread 137 = .ok (.ifCond .eq 48, 3) := by decide +kernel
theorem dX8_spread_140 : decode cX8_spread 140 = .ok (.iconst 2, 1) := by decide +kernel
theorem dX8_spread_141 : decode cX8_spread 141 = .ok (.aload_n 0, 1) := by decide +kernel
theorem dX8_spread_142 : decode cX8_spread 142 = .ok (.getfield 25, 3) := by decide +kernel
theorem dX8_spread_145 : decode cX8_spread 145 = .ok (.getfield 96, 3) := by decide +kernel
theorem dX8_spread_148 : decode cX8_spread 148 = .ok (.iload 10, 2) := by decide +kernel
theorem dX8_spread_150 : decode cX8_spread 150 = .ok (.iload 11, 2) := by decide +kernel
theorem dX8_spread_152 : decode cX8_spread 152 = .ok (.invokevirtual 141, 3) := by decide +kernel
theorem dX8_spread_155 : decode cX8_spread 155 = .ok (.imul, 1) := by decide +kernel
theorem dX8_spread_156 : decode cX8_spread 156 = .ok (.iload 6, 2) := by decide +kernel
theorem dX8_spread_158 : decode cX8_spread 158 = .ok (.iadd, 1) := by decide +kernel
theorem dX8_spread_159 : decode cX8_spread 159 = .ok (.istore 12, 2) := by decide +kernel
theorem dX8_spread_161 : decode cX8_spread 161 = .ok (.aload_n 0, 1) := by decide +kernel
theorem dX8_spread_162 : decode cX8_spread 162 = .ok (.lload 7, 2) := by decide +kernel
theorem dX8_spread_164 : decode cX8_spread 164 = .ok (.iload_n 2, 1) := by decide +kernel
theorem dX8_spread_165 : decode cX8_spread 165 = .ok (.aload_n 0, 1) := by decide +kernel
theorem dX8_spread_166 : decode cX8_spread 166 = .ok (.getfield 25, 3) := by decide +kernel
theorem dX8_spread_169 : decode cX8_spread 169 = .ok (.getfield 96, 3) := by decide +kernel
theorem dX8_spread_172 : decode cX8_spread 172 = .ok (.getfield 144, 3) := by decide +kernel
theorem dX8_spread_175 : decode cX8_spread 175 = .ok (.iload 10, 2) := by decide +kernel
theorem dX8_spread_177 : decode cX8_spread 177 = .ok (.iaload, 1) := by decide +kernel
theorem dX8_spread_178 : decode cX8_spread 178 = .ok (.iload 12, 2) := by decide +kernel
theorem dX8_spread_180 : decode cX8_spread 180 = .ok (.iload 4, 2) := by decide +kernel
theorem dX8_spread_182 : decode cX8_spread 182 = .ok (.invokevirtual 114, 3) := by decide +kernel
theorem dX8_spread_185 : decode cX8_spread 185 = .ok (.return_, 1) := by decide +kernel
theorem dX8_note_0 : decode cX8_note 0 = .ok (.iload_n 3, 1) := by decide +kernel
theorem dX8_note_1 : decode cX8_note 1 = .ok (.iload 4, 2) := by decide +kernel
theorem dX8_note_3 : decode cX8_note 3 = .ok (.iadd, 1) := by decide +kernel
theorem dX8_note_4 : decode cX8_note 4 = .ok (.aload_n 0, 1) := by decide +kernel
theorem dX8_note_5 : decode cX8_note 5 = .ok (.getfield 83, 3) := by decide +kernel
theorem dX8_note_8 : decode cX8_note 8 = .ok (.if_icmp .le 4, 3) := by decide +kernel
theorem dX8_note_11 : decode cX8_note 11 = .ok (.return_, 1) := by decide +kernel
theorem dX8_note_12 : decode cX8_note 12 = .ok (.lload_n 1, 1) := by decide +kernel
theorem dX8_note_13 : decode cX8_note 13 = .ok (.ldc2_w 118, 3) := by decide +kernel
theorem dX8_note_16 : decode cX8_note 16 = .ok (.ldiv, 1) := by decide +kernel
theorem dX8_note_17 : decode cX8_note 17 = .ok (.lload_n 1, 1) := by decide +kernel
theorem dX8_note_18 : decode cX8_note 18 = .ok (.iload 4, 2) := by decide +kernel
theorem dX8_note_20 : decode cX8_note 20 = .ok (.i2l, 1) := by decide +kernel
theorem dX8_note_21 : decode cX8_note 21 = .ok (.ladd, 1) := by decide +kernel
theorem dX8_note_22 : decode cX8_note 22 = .ok (.ldc2_w 118, 3) := by decide +kernel
theorem dX8_note_25 : decode cX8_note 25 = .ok (.ldiv, 1) := by decide +kernel
theorem dX8_note_26 : decode cX8_note 26 = .ok (.lcmp, 1) := by decide +kernel
theorem dX8_note_27 : decode cX8_note 27 = .ok (.ifCond .ne 7, 3) := by decide +kernel
theorem dX8_note_30 : decode cX8_note 30 = .ok (.iconst 1, 1) := by decide +kernel
theorem dX8_note_31 : decode cX8_note 31 = .ok (.goto 4, 3) := by decide +kernel
theorem dX8_note_34 : decode cX8_note 34 = .ok (.iconst 0, 1) := by decide +kernel
theorem dX8_note_35 : decode cX8_note 35 = .ok (.istore 7, 2) := by decide +kernel
theorem dX8_note_37 : decode cX8_note 37 = .ok (.iload_n 3, 1) := by decide +kernel
theorem dX8_note_38 : decode cX8_note 38 = .ok (.iload 4, 2) := by decide +kernel
theorem dX8_note_40 : decode cX8_note 40 = .ok (.iadd, 1) := by decide +kernel
theorem dX8_note_41 : decode cX8_note 41 = .ok (.bipush 20, 2) := by decide +kernel
theorem dX8_note_43 : decode cX8_note 43 = .ok (.imul, 1) := by decide +kernel
theorem dX8_note_44 : decode cX8_note 44 = .ok (.iload 7, 2) := by decide +kernel
theorem dX8_note_46 : decode cX8_note 46 = .ok (.ifCond .eq 8, 3) := by decide +kernel
theorem dX8_note_49 : decode cX8_note 49 = .ok (.iload 5, 2) := by decide +kernel
theorem dX8_note_51 : decode cX8_note 51 = .ok (.goto 10, 3) := by decide +kernel
theorem dX8_note_54 : decode cX8_note 54 = .ok (.iload 5, 2) := by decide +kernel
theorem dX8_note_56 : decode cX8_note 56 = .ok (.iload 5, 2) := by decide +kernel
theorem dX8_note_58 : decode cX8_note 58 = .ok (.iconst 2, 1) := by decide +kernel
theorem dX8_note_59 : decode cX8_note 59 = .ok (.irem, 1) := by decide +kernel
theorem dX8_note_60 : decode cX8_note 60 = .ok (.isub, 1) := by decide +kernel
theorem dX8_note_61 : decode cX8_note 61 = .ok (.iadd, 1) := by decide +kernel
theorem dX8_note_62 : decode cX8_note 62 = .ok (.istore 8, 2) := by decide +kernel
theorem dX8_note_64 : decode cX8_note 64 = .ok (.aload_n 0, 1) := by decide +kernel
theorem dX8_note_65 : decode cX8_note 65 = .ok (.getfield 22, 3) := by decide +kernel
theorem dX8_note_68 : decode cX8_note 68 = .ok (.iload 8, 2) := by decide +kernel
theorem dX8_note_70 : decode cX8_note 70 = .ok (.aload_n 0, 1) := by decide +kernel
theorem dX8_note_71 : decode cX8_note 71 = .ok (.getfield 22, 3) := by decide +kernel
theorem dX8_note_74 : decode cX8_note 74 = .ok (.iload 8, 2) := by decide +kernel
theorem dX8_note_76 : decode cX8_note 76 = .ok (.iaload, 1) := by decide +kernel
theorem dX8_note_77 : decode cX8_note 77 = .ok (.iload 6, 2) := by decide +kernel
theorem dX8_note_79 : decode cX8_note 79 = .ok (.invokestatic 147, 3) := by decide +kernel
theorem dX8_note_82 : decode cX8_note 82 = .ok (.iastore, 1) := by decide +kernel
theorem dX8_note_83 : decode cX8_note 83 = .ok (.return_, 1) := by decide +kernel
set_option maxRecDepth 20000 in
theorem ggX8_fittingMaps_X9_copyFrom : GoodIn wsX8_fittingMaps wsX9_copyFrom := goodIn_r _ [9, 10, 11, 12, 13, 14, 15, 16, 17, 18, 19, 20, 21, 8, 22, 23, 210, 211, 212, 213, 214, 215, 216, 217, 218] (by decide +kernel) (by decide +kernel)
set_option maxRecDepth 20000 in
theorem gX8_fittingMaps_X9_copyFrom : GoodIn wsX8_fittingMaps (wsV RX8 37 RX9 yX9_copyFrom wsX9_copyFrom) := goodIn_app (goodIn_of _ (by decide +kernel)) ggX8_fittingMaps_X9_copyFrom
set_option maxRecDepth 20000 in
theorem ggX8_fittingMaps_X8_ghostComesAsTold : GoodIn wsX8_fittingMaps wsX8_ghostComesAsTold := goodIn_r _ [28, 1, 29, 30, 3, 31, 32, 33, 34, 35, 36, 37, 38, 39, 40, 41, 42, 43, 44, 45, 46, 47, 48, 49, 50, 8, 51, 10, 11, 52, 53, 54, 55, 56, 57, 58, 59, 60, 61, 62, 63, 64, 65, 66, 67, 68, 69, 70, 71, 72, 18, 73, 74, 75, 76, 14, 77, 78, 79, 80, 81, 82, 83, 84, 85, 86, 87, 88, 89, 90, 91, 92, 93, 94, 95, 96, 97, 98, 99, 100, 101, 102, 103, 104, 105, 106, 107, 108, 109, 110, 111, 112, 113, 114, 115, 116, 117, 118, 119, 120, 121, 122, 123, 124, 125, 126, 127, 128, 129, 130, 131, 132, 133, 134, 135, 136, 137, 138, 139, 140, 141, 142, 143, 144, 145, 146, 147, 148, 149, 150, 151, 152, 153, 154, 155, 156, 157, 158, 159, 160, 161, 162, 163, 164, 165, 166, 167, 168, 169, 170, 171, 172, 173, 174, 175, 176, 177, 178, 179, 180, 181, 182, 183, 184, 185, 186, 187, 188, 189, 190, 191, 192, 193, 194, 195, 196, 197, 198, 199, 200, 201, 202, 203, 204, 205, 206, 207, 208, 209, 210, 211, 212, 213, 214, 215, 216, 217, 218, 219, 220, 221, 222, 223, 224, 225, 226, 227, 228, 229, 230, 231, 232, 233, 234, 235, 236, 237, 238, 239, 240, 241, 242, 243, 244, 245, 246, 247, 248, 249, 250] (by decide +kernel) (by decide +kernel)
set_option maxRecDepth 20000 in
theorem gX8_fittingMaps_X8_ghostComesAsTold : GoodIn wsX8_fittingMaps (wsV RX8 155 RX8 yX8_ghostComesAsTold wsX8_ghostComesAsTold) := goodIn_app (goodIn_of _ (by decide +kernel)) ggX8_fittingMaps_X8_ghostComesAsTold
theorem dX8_fittingMaps_0 : decode cX8_fittingMaps 0 = .ok (.iconst 0, 1) := by decide +kernel
theorem dX8_fittingMaps_1 : decode cX8_fittingMaps 1 = .ok (.istore_n 2, 1) := by decide +kernel
theorem dX8_fittingMaps_2 : decode cX8_fittingMaps 2 = .ok (.iconst 0, 1) := by decide +kernel
theorem dX8_fittingMaps_3 : decode cX8_fittingMaps 3 = .ok (.istore_n 3, 1) := by decide +kernel
theorem dX8_fittingMaps_4 : decode cX8_fittingMaps 4 = .ok (.iload_n 3, 1) := by decide +kernel
theorem dX8_fittingMaps_5 : decode cX8_fittingMaps 5 = .ok (.aload_n 0, 1) := by decide +kernel
theorem dX8_fittingMaps_6 : decode cX8_fittingMaps 6 = .ok (.getfield 25, 3) := by decide +kernel
theorem dX8_fittingMaps_9 : decode cX8_fittingMaps 9 = .ok (.getfield 152, 3) := by decide +kernel
theorem dX8_fittingMaps_12 : decode cX8_fittingMaps 12 = .ok (.if_icmp .ge 38, 3) := by decide +kernel
theorem dX8_fittingMaps_15 : decode cX8_fittingMaps 15 = .ok (.aload_n 0, 1) := by decide +kernel
theorem dX8_fittingMaps_16 : decode cX8_fittingMaps 16 = .ok (.getfield 12, 3) := by decide +kernel
theorem dX8_fittingMaps_19 : decode cX8_fittingMaps 19 = .ok (.aload_n 1, 1) := by decide +kernel
theorem dX8_fittingMaps_20 : decode cX8_fittingMaps 20 = .ok (.invokevirtual 37, 3) := by decide +kernel
theorem dX8_fittingMaps_23 : decode cX8_fittingMaps 23 = .ok (.aload_n 0, 1) := by decide +kernel
theorem dX8_fittingMaps_24 : decode cX8_fittingMaps 24 = .ok (.getfield 12, 3) := by decide +kernel
theorem dX8_fittingMaps_27 : decode cX8_fittingMaps 27 = .ok (.iload_n 3, 1) := by decide +kernel
theorem dX8_fittingMaps_28 : decode cX8_fittingMaps 28 = .ok (.putfield 126, 3) := by decide +kernel
theorem dX8_fittingMaps_31 : decode cX8_fittingMaps 31 = .ok (.aload_n 0, 1) := by decide +kernel
theorem dX8_fittingMaps_32 : decode cX8_fittingMaps 32 = .ok (.invokevirtual 155, 3) := by decide +kernel
theorem dX8_fittingMaps_35 : decode cX8_fittingMaps 35 = .ok (.ifCond .eq 9, 3) := by decide +kernel
theorem dX8_fittingMaps_38 : decode cX8_fittingMaps 38 = .ok (.iload_n 2, 1) := by decide +kernel
theorem dX8_fittingMaps_39 : decode cX8_fittingMaps 39 = .ok (.iconst 1, 1) := by decide +kernel
theorem dX8_fittingMaps_40 : decode cX8_fittingMaps 40 = .ok (.iload_n 3, 1) := by decide +kernel
theorem dX8_fittingMaps_41 : decode cX8_fittingMaps 41 = .ok (.ishl, 1) := by decide +kernel
theorem dX8_fittingMaps_42 : decode cX8_fittingMaps 42 = .ok (.ior, 1) := by decide +kernel
theorem dX8_fittingMaps_43 : decode cX8_fittingMaps 43 = .ok (.istore_n 2, 1) := by decide +kernel
theorem dX8_fittingMaps_44 : decode cX8_fittingMaps 44 = .ok (.iinc 3 1, 3) := by decide +kernel
theorem dX8_fittingMaps_47 : decode cX8_fittingMaps 47 = .ok (.goto (-43), 3) := by decide +kernel
theorem dX8_fittingMaps_50 : decode cX8_fittingMaps 50 = .ok (.iload_n 2, 1) := by decide +kernel
theorem dX8_fittingMaps_51 : decode cX8_fittingMaps 51 = .ok (.ireturn, 1) := by decide +kernel
set_option maxRecDepth 20000 in
theorem ggX8_ghostComesAsTold_X1_takeStep : GoodIn wsX8_ghostComesAsTold wsX1_takeStep := goodIn_r _ [11, 12, 13, 14, 15, 16, 17, 18, 19, 20, 21, 22, 23, 24, 25, 26, 27, 28, 29, 30, 31, 10, 32, 33, 34, 35, 36, 37, 38, 39, 40, 41, 42, 43, 44, 45, 46, 47, 48, 49, 50, 51, 52, 53, 54, 55, 56, 57, 58, 59, 60, 61, 62, 63, 64, 65, 66, 67, 68, 69, 70, 71, 72, 73, 74, 75, 76, 77, 78, 79, 80, 81, 82, 83, 84, 85, 86, 87, 88, 89, 90, 91, 92, 93, 94, 95, 96, 97, 98, 99, 100, 101, 102, 103, 104, 105, 106, 107, 108, 109, 110, 111, 112, 113, 114, 115, 116, 117, 118, 119, 120, 121, 122, 123, 124, 125, 126, 127, 128, 129, 130, 131, 132, 133, 134, 135, 136, 137, 138, 139, 140, 141, 142, 143, 144, 145, 146, 147, 148, 149, 150, 151, 152, 153, 154, 155, 156, 157, 158, 159, 160, 161, 162, 163, 164, 165, 166, 189, 190, 191, 192, 193, 194, 195, 196, 197, 198, 199, 200, 201, 202, 203, 204, 205, 206, 207, 208, 209, 210, 211, 212, 213, 175, 176, 177, 178, 179, 180, 181, 182, 183, 184, 185, 186, 187, 188, 214, 215, 216, 217, 218, 219, 220, 221, 222, 223, 224, 225, 226, 227, 228, 229] (by decide +kernel) (by decide +kernel)
set_option maxRecDepth 20000 in
theorem gX8_ghostComesAsTold_X1_takeStep : GoodIn wsX8_ghostComesAsTold (wsV RX8 71 RX1 yX1_takeStep wsX1_takeStep) := goodIn_app (goodIn_of _ (by decide +kernel)) ggX8_ghostComesAsTold_X1_takeStep
theorem dX8_ghostComesAsTold_0 : decode cX8_ghostComesAsTold 0 = .ok (.iconst 0, 1) := by decide +kernel
theorem dX8_ghostComesAsTold_1 : decode cX8_ghostComesAsTold 1 = .ok (.istore_n 1, 1) := by decide +kernel
theorem dX8_ghostComesAsTold_2 : decode cX8_ghostComesAsTold 2 = .ok (.iconst 0, 1) := by decide +kernel
theorem dX8_ghostComesAsTold_3 : decode cX8_ghostComesAsTold 3 = .ok (.istore_n 2, 1) := by decide +kernel
theorem dX8_ghostComesAsTold_4 : decode cX8_ghostComesAsTold 4 = .ok (.iload_n 2, 1) := by decide +kernel
theorem dX8_ghostComesAsTold_5 : decode cX8_ghostComesAsTold 5 = .ok (.bipush 100, 2) := by decide +kernel
theorem dX8_ghostComesAsTold_7 : decode cX8_ghostComesAsTold 7 = .ok (.if_icmp .ge 72, 3) := by decide +kernel
theorem dX8_ghostComesAsTold_10 : decode cX8_ghostComesAsTold 10 = .ok (.iload_n 1, 1) := by decide +kernel
theorem dX8_ghostComesAsTold_11 : decode cX8_ghostComesAsTold 11 = .ok (.aload_n 0, 1) := by decide +kernel
theorem dX8_ghostComesAsTold_12 : decode cX8_ghostComesAsTold 12 = .ok (.getfield 25, 3) := by decide +kernel
theorem dX8_ghostComesAsTold_15 : decode cX8_ghostComesAsTold 15 = .ok (.getfield 158, 3) := by decide +kernel
theorem dX8_ghostComesAsTold_18 : decode cX8_ghostComesAsTold 18 = .ok (.if_icmp .ge 61, 3) := by decide +kernel
theorem dX8_ghostComesAsTold_21 : decode cX8_ghostComesAsTold 21 = .ok (.aload_n 0, 1) := by decide +kernel
theorem dX8_ghostComesAsTold_22 : decode cX8_ghostComesAsTold 22 = .ok (.getfield 33, 3) := by decide +kernel
theorem dX8_ghostComesAsTold_25 : decode cX8_ghostComesAsTold 25 = .ok (.aload_n 0, 1) := by decide +kernel
theorem dX8_ghostComesAsTold_26 : decode cX8_ghostComesAsTold 26 = .ok (.getfield 12, 3) := by decide +kernel
theorem dX8_ghostComesAsTold_29 : decode cX8_ghostComesAsTold 29 = .ok (.invokevirtual 71, 3) := by decide +kernel
theorem dX8_ghostComesAsTold_32 : decode cX8_ghostComesAsTold 32 = .ok (.istore_n 3, 1) := by decide +kernel
theorem dX8_ghostComesAsTold_33 : decode cX8_ghostComesAsTold 33 = .ok (.iload_n 3, 1) := by decide +kernel
theorem dX8_ghostComesAsTold_34 : decode cX8_ghostComesAsTold 34 = .ok (.iconst 4, 1) := by decide +kernel
theorem dX8_ghostComesAsTold_35 : decode cX8_ghostComesAsTold 35 = .ok (.if_icmp .ne 5, 3) := by decide +kernel
theorem dX8_ghostComesAsTold_38 : decode cX8_ghostComesAsTold 38 = .ok (.iconst 0, 1) := by decide +kernel
theorem dX8_ghostComesAsTold_39 : decode cX8_ghostComesAsTold 39 = .ok (.ireturn, 1) := by decide +kernel
theorem dX8_ghostComesAsTold_40 : decode cX8_ghostComesAsTold 40 = .ok (.iload_n 3, 1) := by decide +kernel
theorem dX8_ghostComesAsTold_41 : decode cX8_ghostComesAsTold 41 = .ok (.ifCond .eq 8, 3) := by decide +kernel
theorem dX8_ghostComesAsTold_44 : decode cX8_ghostComesAsTold 44 = .ok (.iload_n 3, 1) := by decide +kernel
theorem dX8_ghostComesAsTold_45 : decode cX8_ghostComesAsTold 45 = .ok (.iconst 1, 1) := by decide +kernel
theorem dX8_ghostComesAsTold_46 : decode cX8_ghostComesAsTold 46 = .ok (.if_icmp .ne 27, 3) := by decide +kernel
theorem dX8_ghostComesAsTold_49 : decode cX8_ghostComesAsTold 49 = .ok (.aload_n 0, 1) := by decide +kernel
theorem dX8_ghostComesAsTold_50 : decode cX8_ghostComesAsTold 50 = .ok (.getfield 12, 3) := by decide +kernel
theorem dX8_ghostComesAsTold_53 : decode cX8_ghostComesAsTold 53 = .ok (.getfield 77, 3) := by decide +kernel
theorem dX8_ghostComesAsTold_56 : decode cX8_ghostComesAsTold 56 = .ok (.aload_n 0, 1) := by decide +kernel
theorem dX8_ghostComesAsTold_57 : decode cX8_ghostComesAsTold 57 = .ok (.getfield 25, 3) := by decide +kernel
theorem dX8_ghostComesAsTold_60 : decode cX8_ghostComesAsTold 60 = .ok (.getfield 161, 3) := by decide +kernel
theorem dX8_ghostComesAsTold_63 : decode cX8_ghostComesAsTold 63 = .ok (.iload_n 1, 1) := by decide +kernel
theorem dX8_ghostComesAsTold_64 : decode cX8_ghostComesAsTold 64 = .ok (.iaload, 1) := by decide +kernel
theorem dX8_ghostComesAsTold_65 : decode cX8_ghostComesAsTold 65 = .ok (.if_icmp .eq 5, 3) := by decide +kernel
theorem dX8_ghostComesAsTold_68 : decode cX8_ghostComesAsTold 68 = .ok (.iconst 0, 1) := by decide +kernel
theorem dX8_ghostComesAsTold_69 : decode cX8_ghostComesAsTold 69 = .ok (.ireturn, 1) := by decide +kernel
theorem dX8_ghostComesAsTold_70 : decode cX8_ghostComesAsTold 70 = .ok (.iinc 1 1, 3) := by decide +kernel
theorem dX8_ghostComesAsTold_73 : decode cX8_ghostComesAsTold 73 = .ok (.iinc 2 1, 3) := by decide +kernel
theorem dX8_ghostComesAsTold_76 : decode cX8_ghostComesAsTold 76 = .ok (.goto (-72), 3) := by decide +kernel
theorem dX8_ghostComesAsTold_79 : decode cX8_ghostComesAsTold 79 = .ok (.iload_n 1, 1) := by decide +kernel
theorem dX8_ghostComesAsTold_80 : decode cX8_ghostComesAsTold 80 = .ok (.aload_n 0, 1) := by decide +kernel
theorem dX8_ghostComesAsTold_81 : decode cX8_ghostComesAsTold 81 = .ok (.getfield 25, 3) := by decide +kernel
theorem dX8_ghostComesAsTold_84 : decode cX8_ghostComesAsTold 84 = .ok (.getfield 158, 3) := by decide +kernel
theorem dX8_ghostComesAsTold_87 : decode cX8_ghostComesAsTold 87 = .ok (.if_icmp .ne 7, 3) := by decide +kernel
theorem dX8_ghostComesAsTold_90 : decode cX8_ghostComesAsTold 90 = .ok (.iconst 1, 1) := by decide +kernel
theorem dX8_ghostComesAsTold_91 : decode cX8_ghostComesAsTold 91 = .ok (.goto 4, 3) := by decide +kernel
theorem dX8_ghostComesAsTold_94 : decode cX8_ghostComesAsTold 94 = .ok (.iconst 0, 1) := by decide +kernel
theorem dX8_ghostComesAsTold_95 : decode cX8_ghostComesAsTold 95 = .ok (.ireturn, 1) := by decide +kernel
set_option maxRecDepth 20000 in
theorem ggX8_tellStrangers_X8_drawBelow : GoodIn wsX8_tellStrangers wsX8_drawBelow := goodIn_r _ [14, 3, 15, 16, 17, 193, 194, 195, 196, 197, 198, 199, 200] (by decide +kernel) (by decide +kernel)
set_option maxRecDepth 20000 in
theorem gX8_tellStrangers_X8_drawBelow : GoodIn wsX8_tellStrangers (wsV RX8 170 RX8 yX8_drawBelow wsX8_drawBelow) := goodIn_app (goodIn_of _ (by decide +kernel)) ggX8_tellStrangers_X8_drawBelow
set_option maxRecDepth 20000 in
theorem ggX8_tellStrangers_X9_setOut : GoodIn wsX8_tellStrangers wsX9_setOut := goodIn_r _ [22, 23, 24, 25, 26, 27, 28, 29, 30, 31, 32, 227, 228, 229, 230, 231, 232, 233, 234, 235] (by decide +kernel) (by decide +kernel)
set_option maxRecDepth 20000 in
theorem gX8_tellStrangers_X9_setOut : GoodIn wsX8_tellStrangers (wsV RX8 173 RX9 yX9_setOut wsX9_setOut) := goodIn_app (goodIn_of _ (by decide +kernel)) ggX8_tellStrangers_X9_setOut
set_option maxRecDepth 20000 in
theorem ggX8_tellStrangers_X1_takeSteps : GoodIn wsX8_tellStrangers wsX1_takeSteps := goodIn_r _ [37, 38, 39, 40, 36, 41, 42, 43, 44, 45, 46, 47, 48, 49, 50, 51, 52, 53, 54, 21, 55, 23, 24, 56, 57, 58, 59, 60, 61, 62, 63, 64, 65, 66, 67, 68, 69, 70, 71, 72, 73, 74, 75, 76, 32, 77, 78, 79, 80, 27, 81, 82, 83, 84, 85, 86, 87, 88, 89, 90, 91, 92, 93, 94, 95, 96, 97, 98, 99, 100, 101, 102, 103, 104, 105, 106, 107, 108, 109, 110, 111, 112, 113, 114, 115, 116, 117, 118, 119, 120, 121, 122, 123, 124, 125, 126, 127, 128, 129, 130, 131, 132, 133, 134, 135, 136, 137, 138, 139, 140, 141, 142, 143, 144, 145, 146, 147, 148, 149, 150, 151, 152, 153, 154, 155, 156, 157, 158, 159, 160, 161, 162, 163, 164, 165, 166, 167, 168, 169, 170, 171, 172, 173, 174, 175, 176, 177, 178, 179, 180, 181, 182, 183, 184, 185, 186, 187, 188, 189, 190, 191, 227, 228, 229, 230, 231, 232, 233, 234, 235, 236, 237, 238, 239, 240, 241, 242, 243, 244, 245, 246, 247, 248, 249, 250, 251, 201, 202, 203, 204, 205, 206, 207, 208, 209, 210, 211, 212, 213, 214, 215, 216, 217, 218, 219, 220, 221, 222, 223, 224, 225, 226, 252, 253, 254, 255] (by decide +kernel) (by decide +kernel)
set_option maxRecDepth 20000 in
theorem gX8_tellStrangers_X1_takeSteps : GoodIn wsX8_tellStrangers (wsV RX8 41 RX1 yX1_takeSteps wsX1_takeSteps) := goodIn_app (goodIn_of _ (by decide +kernel)) ggX8_tellStrangers_X1_takeSteps
set_option maxRecDepth 20000 in
theorem ggX8_tellStrangers_X9_isAtGoal : GoodIn wsX8_tellStrangers wsX9_isAtGoal := goodIn_r _ [55, 23, 24, 227, 228, 229, 230, 231, 232, 233, 234, 235] (by decide +kernel) (by decide +kernel)
set_option maxRecDepth 20000 in
theorem gX8_tellStrangers_X9_isAtGoal : GoodIn wsX8_tellStrangers (wsV RX8 47 RX9 yX9_isAtGoal wsX9_isAtGoal) := goodIn_app (goodIn_of _ (by decide +kernel)) ggX8_tellStrangers_X9_isAtGoal
theorem dX8_tellStrangers_0 : decode cX8_tellStrangers 0 = .ok (.aload_n 0, 1) := by decide +kernel
theorem dX8_tellStrangers_1 : decode cX8_tellStrangers 1 = .ok (.aload_n 0, 1) := by decide +kernel
theorem dX8_tellStrangers_2 : decode cX8_tellStrangers 2 = .ok (.getfield 25, 3) := by decide +kernel
theorem dX8_tellStrangers_5 : decode cX8_tellStrangers 5 = .ok (.getfield 164, 3) := by decide +kernel
theorem dX8_tellStrangers_8 : decode cX8_tellStrangers 8 = .ok (.putfield 167, 3) := by decide +kernel
theorem dX8_tellStrangers_11 : decode cX8_tellStrangers 11 = .ok (.iconst 0, 1) := by decide +kernel
theorem dX8_tellStrangers_12 : decode cX8_tellStrangers 12 = .ok (.istore 5, 2) := by decide +kernel
theorem dX8_tellStrangers_14 : decode cX8_tellStrangers 14 = .ok (.lconst 0, 1) := by decide +kernel
theorem dX8_tellStrangers_15 : decode cX8_tellStrangers 15 = .ok (.lstore 6, 2) := by decide +kernel
theorem dX8_tellStrangers_17 : decode cX8_tellStrangers 17 = .ok (.iconst 0, 1) := by decide +kernel
theorem dX8_tellStrangers_18 : decode cX8_tellStrangers 18 = .ok (.istore 8, 2) := by decide +kernel
theorem dX8_tellStrangers_20 : decode cX8_tellStrangers 20 = .ok (.iload 8, 2) := by decide +kernel
theorem dX8_tellStrangers_22 : decode cX8_tellStrangers 22 = .ok (.iload_n 2, 1) := by decide +kernel
theorem dX8_tellStrangers_23 : decode cX8_tellStrangers 23 = .ok (.if_icmp .ge 122, 3) := by decide +kernel
theorem dX8_tellStrangers_26 : decode cX8_tellStrangers 26 = .ok (.aload_n 0, 1) := by decide +kernel
theorem dX8_tellStrangers_27 : decode cX8_tellStrangers 27 = .ok (.aload_n 0, 1) := by decide +kernel
theorem dX8_tellStrangers_28 : decode cX8_tellStrangers 28 = .ok (.getfield 25, 3) := by decide +kernel
theorem dX8_tellStrangers_31 : decode cX8_tellStrangers 31 = .ok (.getfield 96, 3) := by decide +kernel
theorem dX8_tellStrangers_34 : decode cX8_tellStrangers 34 = .ok (.getfield 102, 3) := by decide +kernel
theorem dX8_tellStrangers_37 : decode cX8_tellStrangers 37 = .ok (.invokevirtual 170, 3) := by decide +kernel
theorem dX8_tellStrangers_40 : decode cX8_tellStrangers 40 = .ok (.istore 9, 2) := by decide +kernel
theorem dX8_tellStrangers_42 : decode cX8_tellStrangers 42 = .ok (.aload_n 0, 1) := by decide +kernel
theorem dX8_tellStrangers_43 : decode cX8_tellStrangers 43 = .ok (.aload_n 0, 1) := by decide +kernel
theorem dX8_tellStrangers_44 : decode cX8_tellStrangers 44 = .ok (.getfield 25, 3) := by decide +kernel
theorem dX8_tellStrangers_47 : decode cX8_tellStrangers 47 = .ok (.getfield 96, 3) := by decide +kernel
theorem dX8_tellStrangers_50 : decode cX8_tellStrangers 50 = .ok (.getfield 102, 3) := by decide +kernel
theorem dX8_tellStrangers_53 : decode cX8_tellStrangers 53 = .ok (.invokevirtual 170, 3) := by decide +kernel
theorem dX8_tellStrangers_56 : decode cX8_tellStrangers 56 = .ok (.istore 10, 2) := by decide +kernel
theorem dX8_tellStrangers_58 : decode cX8_tellStrangers 58 = .ok (.aload_n 0, 1) := by decide +kernel
theorem dX8_tellStrangers_59 : decode cX8_tellStrangers 59 = .ok (.aload_n 0, 1) := by decide +kernel
theorem dX8_tellStrangers_60 : decode cX8_tellStrangers 60 = .ok (.getfield 25, 3) := by decide +kernel
theorem dX8_tellStrangers_63 : decode cX8_tellStrangers 63 = .ok (.getfield 152, 3) := by decide +kernel
theorem dX8_tellStrangers_66 : decode cX8_tellStrangers 66 = .ok (.invokevirtual 170, 3) := by decide +kernel
theorem dX8_tellStrangers_69 : decode cX8_tellStrangers 69 = .ok (.istore 11, 2) := by decide +kernel
theorem dX8_tellStrangers_71 : decode cX8_tellStrangers 71 = .ok (.aload_n 0, 1) := by decide +kernel
theorem dX8_tellStrangers_72 : decode cX8_tellStrangers 72 = .ok (.sipush 168, 3) := by decide +kernel
theorem dX8_tellStrangers_75 : decode cX8_tellStrangers 75 = .ok (.invokevirtual 170, 3) := by decide +kernel
theorem dX8_tellStrangers_78 : decode cX8_tellStrangers 78 = .ok (.istore 12, 2) := by decide +kernel
theorem dX8_tellStrangers_80 : decode cX8_tellStrangers 80 = .ok (.aload_n 0, 1) := by decide +kernel
theorem dX8_tellStrangers_81 : decode cX8_tellStrangers 81 = .ok (.getfield 12, 3) := by decide +kernel
theorem dX8_tellStrangers_84 : decode cX8_tellStrangers 84 = .ok (.iload 9, 2) := by decide +kernel
theorem dX8_tellStrangers_86 : decode cX8_tellStrangers 86 = .ok (.iload 10, 2) := by decide +kernel
theorem dX8_tellStrangers_88 : decode cX8_tellStrangers 88 = .ok (.iload 11, 2) := by decide +kernel
theorem dX8_tellStrangers_90 : decode cX8_tellStrangers 90 = .ok (.iload_n 1, 1) := by decide +kernel
theorem dX8_tellStrangers_91 : decode cX8_tellStrangers 91 = .ok (.iload 12, 2) := by decide +kernel
theorem dX8_tellStrangers_93 : decode cX8_tellStrangers 93 = .ok (.i2l, 1) := by decide +kernel
theorem dX8_tellStrangers_94 : decode cX8_tellStrangers 94 = .ok (.invokevirtual 173, 3) := by decide +kernel
theorem dX8_tellStrangers_97 : decode cX8_tellStrangers 97 = .ok (.aload_n 0, 1) := by decide +kernel
theorem dX8_tellStrangers_98 : decode cX8_tellStrangers 98 = .ok (.getfield 33, 3) := by decide +kernel
theorem dX8_tellStrangers_101 : decode cX8_tellStrangers 101 = .ok (.aload_n 0, 1) := by decide +kernel
theorem dX8_tellStrangers_102 : decode cX8_tellStrangers 102 = .ok (.getfield 12, 3) := by decide +kernel
theorem dX8_tellStrangers_105 : decode cX8_tellStrangers 105 = .ok (.iload_n 3, 1) := by decide +kernel
theorem dX8_tellStrangers_106 : decode cX8_tellStrangers 106 = .ok (.invokevirtual 41, 3) := by decide +kernel
theorem dX8_tellStrangers_109 : decode cX8_tellStrangers 109 = .ok (.pop, 1) := by decide +kernel
theorem dX8_tellStrangers_110 : decode cX8_tellStrangers 110 = .ok (.aload_n 0, 1) := by decide +kernel
theorem dX8_tellStrangers_111 : decode cX8_tellStrangers 111 = .ok (.getfield 12, 3) := by decide +kernel
theorem dX8_tellStrangers_114 : decode cX8_tellStrangers 114 = .ok (.invokevirtual 47, 3) := by decide +kernel
theorem dX8_tellStrangers_117 : decode cX8_tellStrangers 117 = .ok (.ifCond .eq 22, 3) := by decide +kernel
theorem dX8_tellStrangers_120 : decode cX8_tellStrangers 120 = .ok (.iinc 5 1, 3) := by decide +kernel
theorem dX8_tellStrangers_123 : decode cX8_tellStrangers 123 = .ok (.lload 6, 2) := by decide +kernel
theorem dX8_tellStrangers_125 : decode cX8_tellStrangers 125 = .ok (.aload_n 0, 1) := by decide +kernel
theorem dX8_tellStrangers_126 : decode cX8_tellStrangers 126 = .ok (.getfield 12, 3) := by decide +kernel
theorem dX8_tellStrangers_129 : decode cX8_tellStrangers 129 = .ok (.getfield 51, 3) := by decide +kernel
theorem dX8_tellStrangers_132 : decode cX8_tellStrangers 132 = .ok (.iload 12, 2) := by decide +kernel
theorem dX8_tellStrangers_134 : decode cX8_tellStrangers 134 = .ok (.i2l, 1) := by decide +kernel
theorem dX8_tellStrangers_135 : decode cX8_tellStrangers 135 = .ok (.lsub, 1) := by decide +kernel
theorem dX8_tellStrangers_136 : decode cX8_tellStrangers 136 = .ok (.ladd, 1) := by decide +kernel
theorem dX8_tellStrangers_137 : decode cX8_tellStrangers 137 = .ok (.lstore 6, 2) := by decide +kernel
theorem dX8_tellStrangers_139 : decode cX8_tellStrangers 139 = .ok (.iinc 8 1, 3) := by decide +kernel
theorem dX8_tellStrangers_142 : decode cX8_tellStrangers 142 = .ok (.goto (-122), 3) := by decide +kernel
theorem dX8_tellStrangers_145 : decode cX8_tellStrangers 145 = .ok (.iload 4, 2) := by decide +kernel
theorem dX8_tellStrangers_147 : decode cX8_tellStrangers 147 = .ok (.ifCond .ne 8, 3) := by decide +kernel
theorem dX8_tellStrangers_150 : decode cX8_tellStrangers 150 = .ok (.iload 5, 2) := by decide +kernel
theorem dX8_tellStrangers_152 : decode cX8_tellStrangers 152 = .ok (.goto 6, 3) := by decide +kernel
theorem dX8_tellStrangers_155 : decode cX8_tellStrangers 155 = .ok (.lload 6, 2) := by decide +kernel
theorem dX8_tellStrangers_157 : decode cX8_tellStrangers 157 = .ok (.l2i, 1) := by decide +kernel
theorem dX8_tellStrangers_158 : decode cX8_tellStrangers 158 = .ok (.ireturn, 1) := by decide +kernel
theorem dX8_drawBelow_0 : decode cX8_drawBelow 0 = .ok (.aload_n 0, 1) := by decide +kernel
theorem dX8_drawBelow_1 : decode cX8_drawBelow 1 = .ok (.aload_n 0, 1) := by decide +kernel
theorem dX8_drawBelow_2 : decode cX8_drawBelow 2 = .ok (.getfield 167, 3) := by decide +kernel
theorem dX8_drawBelow_5 : decode cX8_drawBelow 5 = .ok (.i2l, 1) := by decide +kernel
theorem dX8_drawBelow_6 : decode cX8_drawBelow 6 = .ok (.ldc2_w 177, 3) := by decide +kernel
theorem dX8_drawBelow_9 : decode cX8_drawBelow 9 = .ok (.lmul, 1) := by decide +kernel
theorem dX8_drawBelow_10 : decode cX8_drawBelow 10 = .ok (.ldc2_w 179, 3) := by decide +kernel
theorem dX8_drawBelow_13 : decode cX8_drawBelow 13 = .ok (.ladd, 1) := by decide +kernel
theorem dX8_drawBelow_14 : decode cX8_drawBelow 14 = .ok (.ldc2_w 181, 3) := by decide +kernel
theorem dX8_drawBelow_17 : decode cX8_drawBelow 17 = .ok (.land, 1) := by decide +kernel
theorem dX8_drawBelow_18 : decode cX8_drawBelow 18 = .ok (.l2i, 1) := by decide +kernel
theorem dX8_drawBelow_19 : decode cX8_drawBelow 19 = .ok (.putfield 167, 3) := by decide +kernel
theorem dX8_drawBelow_22 : decode cX8_drawBelow 22 = .ok (.iload_n 1, 1) := by decide +kernel
theorem dX8_drawBelow_23 : decode cX8_drawBelow 23 = .ok (.ifCond .le 15, 3) := by decide +kernel
theorem dX8_drawBelow_26 : decode cX8_drawBelow 26 = .ok (.aload_n 0, 1) := by decide +kernel
theorem dX8_drawBelow_27 : decode cX8_drawBelow 27 = .ok (.getfield 167, 3) := by decide +kernel
theorem dX8_drawBelow_30 : decode cX8_drawBelow 30 = .ok (.bipush 16, 2) := by decide +kernel
theorem dX8_drawBelow_32 : decode cX8_drawBelow 32 = .ok (.ishr, 1) := by decide +kernel
theorem dX8_drawBelow_33 : decode cX8_drawBelow 33 = .ok (.iload_n 1, 1) := by decide +kernel
theorem dX8_drawBelow_34 : decode cX8_drawBelow 34 = .ok (.irem, 1) := by decide +kernel
theorem dX8_drawBelow_35 : decode cX8_drawBelow 35 = .ok (.goto 4, 3) := by decide +kernel
theorem dX8_drawBelow_38 : decode cX8_drawBelow 38 = .ok (.iconst 0, 1) := by decide +kernel
theorem dX8_drawBelow_39 : decode cX8_drawBelow 39 = .ok (.ireturn, 1) := by decide +kernel
theorem dX9_init_0 : decode cX9_init 0 = .ok (.aload_n 0, 1) := by decide +kernel
theorem dX9_init_1 : decode cX9_init 1 = .ok (.invokespecial 3, 3) := by decide +kernel
theorem dX9_init_4 : decode cX9_init 4 = .ok (.return_, 1) := by decide +kernel
theorem dX9_setOut_0 : decode cX9_setOut 0 = .ok (.aload_n 0, 1) := by decide +kernel
theorem dX9_setOut_1 : decode cX9_setOut 1 = .ok (.iload_n 1, 1) := by decide +kernel
theorem dX9_setOut_2 : decode cX9_setOut 2 = .ok (.putfield 9, 3) := by decide +kernel
theorem dX9_setOut_5 : decode cX9_setOut 5 = .ok (.aload_n 0, 1) := by decide +kernel
theorem dX9_setOut_6 : decode cX9_setOut 6 = .ok (.iload_n 2, 1) := by decide +kernel
theorem dX9_setOut_7 : decode cX9_setOut 7 = .ok (.putfield 15, 3) := by decide +kernel
theorem dX9_setOut_10 : decode cX9_setOut 10 = .ok (.aload_n 0, 1) := by decide +kernel
theorem dX9_setOut_11 : decode cX9_setOut 11 = .ok (.iload_n 3, 1) := by decide +kernel
theorem dX9_setOut_12 : decode cX9_setOut 12 = .ok (.putfield 18, 3) := by decide +kernel
theorem dX9_setOut_15 : decode cX9_setOut 15 = .ok (.aload_n 0, 1) := by decide +kernel
theorem dX9_setOut_16 : decode cX9_setOut 16 = .ok (.iload 4, 2) := by decide +kernel
theorem dX9_setOut_18 : decode cX9_setOut 18 = .ok (.putfield 21, 3) := by decide +kernel
theorem dX9_setOut_21 : decode cX9_setOut 21 = .ok (.aload_n 0, 1) := by decide +kernel
theorem dX9_setOut_22 : decode cX9_setOut 22 = .ok (.lload 5, 2) := by decide +kernel
theorem dX9_setOut_24 : decode cX9_setOut 24 = .ok (.putfield 24, 3) := by decide +kernel
theorem dX9_setOut_27 : decode cX9_setOut 27 = .ok (.aload_n 0, 1) := by decide +kernel
theorem dX9_setOut_28 : decode cX9_setOut 28 = .ok (.iconst 0, 1) := by decide +kernel
theorem dX9_setOut_29 : decode cX9_setOut 29 = .ok (.putfield 28, 3) := by decide +kernel
theorem dX9_setOut_32 : decode cX9_setOut 32 = .ok (.aload_n 0, 1) := by decide +kernel
theorem dX9_setOut_33 : decode cX9_setOut 33 = .ok (.iconst 0, 1) := by decide +kernel
theorem dX9_setOut_34 : decode cX9_setOut 34 = .ok (.putfield 31, 3) := by decide +kernel
theorem dX9_setOut_37 : decode cX9_setOut 37 = .ok (.aload_n 0, 1) := by decide +kernel
theorem dX9_setOut_38 : decode cX9_setOut 38 = .ok (.iconst (-1), 1) := by decide +kernel
theorem dX9_setOut_39 : decode cX9_setOut 39 = .ok (.putfield 34, 3) := by decide +kernel
theorem dX9_setOut_42 : decode cX9_setOut 42 = .ok (.aload_n 0, 1) := by decide +kernel
theorem dX9_setOut_43 : decode cX9_setOut 43 = .ok (.ldc2_w 37, 3) := by decide +kernel
theorem dX9_setOut_46 : decode cX9_setOut 46 = .ok (.putfield 39, 3) := by decide +kernel
theorem dX9_setOut_49 : decode cX9_setOut 49 = .ok (.return_, 1) := by decide +kernel
set_option maxRecDepth 20000 in
theorem ggX9_copyFrom_X9_setOut : GoodIn wsX9_copyFrom wsX9_setOut := goodIn_r _ [14, 1, 2, 3, 4, 5, 6, 7, 8, 15, 9, 16, 17, 18, 19, 20, 21, 22, 23, 24] (by decide +kernel) (by decide +kernel)
set_option maxRecDepth 20000 in
theorem gX9_copyFrom_X9_setOut : GoodIn wsX9_copyFrom (wsV RX9 42 RX9 yX9_setOut wsX9_setOut) := goodIn_app (goodIn_of _ (by decide +kernel)) ggX9_copyFrom_X9_setOut
theorem dX9_copyFrom_0 : decode cX9_copyFrom 0 = .ok (.aload_n 0, 1) := by decide +kernel
theorem dX9_copyFrom_1 : decode cX9_copyFrom 1 = .ok (.aload_n 1, 1) := by decide +kernel
theorem dX9_copyFrom_2 : decode cX9_copyFrom 2 = .ok (.getfield 9, 3) := by decide +kernel
theorem dX9_copyFrom_5 : decode cX9_copyFrom 5 = .ok (.aload_n 1, 1) := by decide +kernel
theorem dX9_copyFrom_6 : decode cX9_copyFrom 6 = .ok (.getfield 15, 3) := by decide +kernel
theorem dX9_copyFrom_9 : decode cX9_copyFrom 9 = .ok (.aload_n 1, 1) := by decide +kernel
theorem dX9_copyFrom_10 : decode cX9_copyFrom 10 = .ok (.getfield 18, 3) := by decide +kernel
theorem dX9_copyFrom_13 : decode cX9_copyFrom 13 = .ok (.aload_n 1, 1) := by decide +kernel
theorem dX9_copyFrom_14 : decode cX9_copyFrom 14 = .ok (.getfield 21, 3) := by decide +kernel
theorem dX9_copyFrom_17 : decode cX9_copyFrom 17 = .ok (.aload_n 1, 1) := by decide +kernel
theorem dX9_copyFrom_18 : decode cX9_copyFrom 18 = .ok (.getfield 24, 3) := by decide +kernel
theorem dX9_copyFrom_21 : decode cX9_copyFrom 21 = .ok (.invokevirtual 42, 3) := by decide +kernel
theorem dX9_copyFrom_24 : decode cX9_copyFrom 24 = .ok (.aload_n 0, 1) := by decide +kernel
theorem dX9_copyFrom_25 : decode cX9_copyFrom 25 = .ok (.aload_n 1, 1) := by decide +kernel
theorem dX9_copyFrom_26 : decode cX9_copyFrom 26 = .ok (.getfield 28, 3) := by decide +kernel
theorem dX9_copyFrom_29 : decode cX9_copyFrom 29 = .ok (.putfield 28, 3) := by decide +kernel
theorem dX9_copyFrom_32 : decode cX9_copyFrom 32 = .ok (.aload_n 0, 1) := by decide +kernel
theorem dX9_copyFrom_33 : decode cX9_copyFrom 33 = .ok (.aload_n 1, 1) := by decide +kernel
theorem dX9_copyFrom_34 : decode cX9_copyFrom 34 = .ok (.getfield 31, 3) := by decide +kernel
theorem dX9_copyFrom_37 : decode cX9_copyFrom 37 = .ok (.putfield 31, 3) := by decide +kernel
theorem dX9_copyFrom_40 : decode cX9_copyFrom 40 = .ok (.aload_n 0, 1) := by decide +kernel
theorem dX9_copyFrom_41 : decode cX9_copyFrom 41 = .ok (.aload_n 1, 1) := by decide +kernel
theorem dX9_copyFrom_42 : decode cX9_copyFrom 42 = .ok (.getfield 34, 3) := by decide +kernel
theorem dX9_copyFrom_45 : decode cX9_copyFrom 45 = .ok (.putfield 34, 3) := by decide +kernel
theorem dX9_copyFrom_48 : decode cX9_copyFrom 48 = .ok (.aload_n 0, 1) := by decide +kernel
theorem dX9_copyFrom_49 : decode cX9_copyFrom 49 = .ok (.aload_n 1, 1) := by decide +kernel
theorem dX9_copyFrom_50 : decode cX9_copyFrom 50 = .ok (.getfield 39, 3) := by decide +kernel
theorem dX9_copyFrom_53 : decode cX9_copyFrom 53 = .ok (.putfield 39, 3) := by decide +kernel
theorem dX9_copyFrom_56 : decode cX9_copyFrom 56 = .ok (.return_, 1) := by decide +kernel
theorem dX9_isAtGoal_0 : decode cX9_isAtGoal 0 = .ok (.aload_n 0, 1) := by decide +kernel
theorem dX9_isAtGoal_1 : decode cX9_isAtGoal 1 = .ok (.getfield 9, 3) := by decide +kernel
theorem dX9_isAtGoal_4 : decode cX9_isAtGoal 4 = .ok (.aload_n 0, 1) := by decide +kernel
theorem dX9_isAtGoal_5 : decode cX9_isAtGoal 5 = .ok (.getfield 15, 3) := by decide +kernel
theorem dX9_isAtGoal_8 : decode cX9_isAtGoal 8 = .ok (.if_icmp .ne 7, 3) := by decide +kernel
theorem dX9_isAtGoal_11 : decode cX9_isAtGoal 11 = .ok (.iconst 1, 1) := by decide +kernel
theorem dX9_isAtGoal_12 : decode cX9_isAtGoal 12 = .ok (.goto 4, 3) := by decide +kernel
theorem dX9_isAtGoal_15 : decode cX9_isAtGoal 15 = .ok (.iconst 0, 1) := by decide +kernel
theorem dX9_isAtGoal_16 : decode cX9_isAtGoal 16 = .ok (.ireturn, 1) := by decide +kernel
theorem dX9_dayNow_0 : decode cX9_dayNow 0 = .ok (.aload_n 0, 1) := by decide +kernel
theorem dX9_dayNow_1 : decode cX9_dayNow 1 = .ok (.getfield 24, 3) := by decide +kernel
theorem dX9_dayNow_4 : decode cX9_dayNow 4 = .ok (.ldc2_w 46, 3) := by decide +kernel
theorem dX9_dayNow_7 : decode cX9_dayNow 7 = .ok (.ldiv, 1) := by decide +kernel
theorem dX9_dayNow_8 : decode cX9_dayNow 8 = .ok (.lreturn, 1) := by decide +kernel
set_option maxRecDepth 20000 in
theorem ggX9_askedToday_X9_dayNow : GoodIn wsX9_askedToday wsX9_dayNow := goodIn_r _ [6, 7, 8, 9, 10, 11, 12, 13, 14, 15, 16, 17] (by decide +kernel) (by decide +kernel)
set_option maxRecDepth 20000 in
theorem gX9_askedToday_X9_dayNow : GoodIn wsX9_askedToday (wsV RX9 48 RX9 yX9_dayNow wsX9_dayNow) := goodIn_app (goodIn_of _ (by decide +kernel)) ggX9_askedToday_X9_dayNow
theorem dX9_askedToday_0 : decode cX9_askedToday 0 = .ok (.aload_n 0, 1) := by decide +kernel
theorem dX9_askedToday_1 : decode cX9_askedToday 1 = .ok (.getfield 39, 3) := by decide +kernel
theorem dX9_askedToday_4 : decode cX9_askedToday 4 = .ok (.aload_n 0, 1) := by decide +kernel
theorem dX9_askedToday_5 : decode cX9_askedToday 5 = .ok (.invokevirtual 48, 3) := by decide +kernel
theorem dX9_askedToday_8 : decode cX9_askedToday 8 = .ok (.lcmp, 1) := by decide +kernel
theorem dX9_askedToday_9 : decode cX9_askedToday 9 = .ok (.ifCond .ne 7, 3) := by decide +kernel
theorem dX9_askedToday_12 : decode cX9_askedToday 12 = .ok (.iconst 1, 1) := by decide +kernel
theorem dX9_askedToday_13 : decode cX9_askedToday 13 = .ok (.goto 4, 3) := by decide +kernel
theorem dX9_askedToday_16 : decode cX9_askedToday 16 = .ok (.iconst 0, 1) := by decide +kernel
theorem dX9_askedToday_17 : decode cX9_askedToday 17 = .ok (.ireturn, 1) := by decide +kernel
theorem dX9_tell_0 : decode cX9_tell 0 = .ok (.iload_n 1, 1) := by decide +kernel
theorem dX9_tell_1 : decode cX9_tell 1 = .ok (.tableswitch 79 0 6 #[43, 48, 53, 58, 63, 69, 74], 43) := by decide +kernel
theorem dX9_tell_44 : decode cX9_tell 44 = .ok (.aload_n 0, 1) := by decide +kernel
theorem dX9_tell_45 : decode cX9_tell 45 = .ok (.getfield 9, 3) := by decide +kernel
theorem dX9_tell_48 : decode cX9_tell 48 = .ok (.ireturn, 1) := by decide +kernel
theorem dX9_tell_49 : decode cX9_tell 49 = .ok (.aload_n 0, 1) := by decide +kernel
theorem dX9_tell_50 : decode cX9_tell 50 = .ok (.getfield 15, 3) := by decide +kernel
theorem dX9_tell_53 : decode cX9_tell 53 = .ok (.ireturn, 1) := by decide +kernel
theorem dX9_tell_54 : decode cX9_tell 54 = .ok (.aload_n 0, 1) := by decide +kernel
theorem dX9_tell_55 : decode cX9_tell 55 = .ok (.getfield 18, 3) := by decide +kernel
theorem dX9_tell_58 : decode cX9_tell 58 = .ok (.ireturn, 1) := by decide +kernel
theorem dX9_tell_59 : decode cX9_tell 59 = .ok (.aload_n 0, 1) := by decide +kernel
theorem dX9_tell_60 : decode cX9_tell 60 = .ok (.getfield 21, 3) := by decide +kernel
theorem dX9_tell_63 : decode cX9_tell 63 = .ok (.ireturn, 1) := by decide +kernel
theorem dX9_tell_64 : decode cX9_tell 64 = .ok (.aload_n 0, 1) := by decide +kernel
theorem dX9_tell_65 : decode cX9_tell 65 = .ok (.getfield 24, 3) := by decide +kernel
theorem dX9_tell_68 : decode cX9_tell 68 = .ok (.l2i, 1) := by decide +kernel
theorem dX9_tell_69 : decode cX9_tell 69 = .ok (.ireturn, 1) := by decide +kernel
theorem dX9_tell_70 : decode cX9_tell 70 = .ok (.aload_n 0, 1) := by decide +kernel
theorem dX9_tell_71 : decode cX9_tell 71 = .ok (.getfield 28, 3) := by decide +kernel
theorem dX9_tell_74 : decode cX9_tell 74 = .ok (.ireturn, 1) := by decide +kernel
theorem dX9_tell_75 : decode cX9_tell 75 = .ok (.aload_n 0, 1) := by decide +kernel
theorem dX9_tell_76 : decode cX9_tell 76 = .ok (.getfield 31, 3) := by decide +kernel
theorem dX9_tell_79 : decode cX9_tell 79 = .ok (.ireturn, 1) := by decide +kernel
theorem dX9_tell_80 : decode cX9_tell 80 = .ok (.aload_n 0, 1) := by decide +kernel
theorem dX9_tell_81 : decode cX9_tell 81 = .ok (.getfield 34, 3) := by decide +kernel
theorem dX9_tell_84 : decode cX9_tell 84 = .ok (.ireturn, 1) := by decide +kernel
theorem dX10_init_0 : decode cX10_init 0 = .ok (.aload_n 0, 1) := by decide +kernel
theorem dX10_init_1 : decode cX10_init 1 = .ok (.invokespecial 3, 3) := by decide +kernel
theorem dX10_init_4 : decode cX10_init 4 = .ok (.aload_n 0, 1) := by decide +kernel
theorem dX10_init_5 : decode cX10_init 5 = .ok (.bipush 12, 2) := by decide +kernel
theorem dX10_init_7 : decode cX10_init 7 = .ok (.newarray .int, 2) := by decide +kernel
theorem dX10_init_9 : decode cX10_init 9 = .ok (.putfield 9, 3) := by decide +kernel
theorem dX10_init_12 : decode cX10_init 12 = .ok (.aload_n 0, 1) := by decide +kernel
theorem dX10_init_13 : decode cX10_init 13 = .ok (.bipush 10, 2) := by decide +kernel
theorem dX10_init_15 : decode cX10_init 15 = .ok (.newarray .int, 2) := by decide +kernel
theorem dX10_init_17 : decode cX10_init 17 = .ok (.putfield 15, 3) := by decide +kernel
theorem dX10_init_20 : decode cX10_init 20 = .ok (.aload_n 0, 1) := by decide +kernel
theorem dX10_init_21 : decode cX10_init 21 = .ok (.aload_n 1, 1) := by decide +kernel
theorem dX10_init_22 : decode cX10_init 22 = .ok (.putfield 18, 3) := by decide +kernel
theorem dX10_init_25 : decode cX10_init 25 = .ok (.aload_n 0, 1) := by decide +kernel
theorem dX10_init_26 : decode cX10_init 26 = .ok (.aload_n 1, 1) := by decide +kernel
theorem dX10_init_27 : decode cX10_init 27 = .ok (.getfield 22, 3) := by decide +kernel
theorem dX10_init_30 : decode cX10_init 30 = .ok (.putfield 28, 3) := by decide +kernel
theorem dX10_init_33 : decode cX10_init 33 = .ok (.return_, 1) := by decide +kernel
set_option maxRecDepth 20000 in
theorem ggX10_takeDay_X7_signOn : GoodIn wsX10_takeDay wsX7_signOn := goodIn_r _ [9, 10, 16, 17, 18, 19, 20, 21, 22, 23, 24, 25, 26, 27] (by decide +kernel) (by decide +kernel)
set_option maxRecDepth 20000 in
theorem gX10_takeDay_X7_signOn : GoodIn wsX10_takeDay (wsV RX10 38 RX7 yX7_signOn wsX7_signOn) := goodIn_app (goodIn_of _ (by decide +kernel)) ggX10_takeDay_X7_signOn
theorem dX10_takeDay_0 : decode cX10_takeDay 0 = .ok (.aload_n 0, 1) := by decide +kernel
theorem dX10_takeDay_1 : decode cX10_takeDay 1 = .ok (.iconst 0, 1) := by decide +kernel
theorem dX10_takeDay_2 : decode cX10_takeDay 2 = .ok (.putfield 29, 3) := by decide +kernel
theorem dX10_takeDay_5 : decode cX10_takeDay 5 = .ok (.iconst 0, 1) := by decide +kernel
theorem dX10_takeDay_6 : decode cX10_takeDay 6 = .ok (.istore_n 2, 1) := by decide +kernel
theorem dX10_takeDay_7 : decode cX10_takeDay 7 = .ok (.iload_n 2, 1) := by decide +kernel
theorem dX10_takeDay_8 : decode cX10_takeDay 8 = .ok (.aload_n 0, 1) := by decide +kernel
theorem dX10_takeDay_9 : decode cX10_takeDay 9 = .ok (.getfield 28, 3) := by decide +kernel
theorem dX10_takeDay_12 : decode cX10_takeDay 12 = .ok (.getfield 33, 3) := by decide +kernel
theorem dX10_takeDay_15 : decode cX10_takeDay 15 = .ok (.if_icmp .ge 50, 3) := by decide +kernel
theorem dX10_takeDay_18 : decode cX10_takeDay 18 = .ok (.aload_n 0, 1) := by decide +kernel
theorem dX10_takeDay_19 : decode cX10_takeDay 19 = .ok (.getfield 29, 3) := by decide +kernel
theorem dX10_takeDay_22 : decode cX10_takeDay 22 = .ok (.bipush 12, 2) := by decide +kernel
theorem dX10_takeDay_24 : decode cX10_takeDay 24 = .ok (.if_icmp .ge 41, 3) := by decide +kernel
theorem dX10_takeDay_27 : decode cX10_takeDay 27 = .ok (.aload_n 0, 1) := by decide +kernel
theorem dX10_takeDay_28 : decode cX10_takeDay 28 = .ok (.getfield 28, 3) := by decide +kernel
theorem dX10_takeDay_31 : decode cX10_takeDay 31 = .ok (.iload_n 2, 1) := by decide +kernel
theorem dX10_takeDay_32 : decode cX10_takeDay 32 = .ok (.iload_n 1, 1) := by decide +kernel
theorem dX10_takeDay_33 : decode cX10_takeDay 33 = .ok (.invokevirtual 38, 3) := by decide +kernel
theorem dX10_takeDay_36 : decode cX10_takeDay 36 = .ok (.ifCond .eq 23, 3) := by decide +kernel
theorem dX10_takeDay_39 : decode cX10_takeDay 39 = .ok (.aload_n 0, 1) := by decide +kernel
theorem dX10_takeDay_40 : decode cX10_takeDay 40 = .ok (.getfield 9, 3) := by decide +kernel
theorem dX10_takeDay_43 : decode cX10_takeDay 43 = .ok (.aload_n 0, 1) := by decide +kernel
theorem dX10_takeDay_44 : decode cX10_takeDay 44 = .ok (.getfield 29, 3) := by decide +kernel
theorem dX10_takeDay_47 : decode cX10_takeDay 47 = .ok (.iload_n 2, 1) := by decide +kernel
theorem dX10_takeDay_48 : decode cX10_takeDay 48 = .ok (.iastore, 1) := by decide +kernel
theorem dX10_takeDay_49 : decode cX10_takeDay 49 = .ok (.aload_n 0, 1) := by decide +kernel
theorem dX10_takeDay_50 : decode cX10_takeDay 50 = .ok (.dup, 1) := by decide +kernel
theorem dX10_takeDay_51 : decode cX10_takeDay 51 = .ok (.getfield 29, 3) := by decide +kernel
theorem dX10_takeDay_54 : decode cX10_takeDay 54 = .ok (.iconst 1, 1) := by decide +kernel
theorem dX10_takeDay_55 : decode cX10_takeDay 55 = .ok (.iadd, 1) := by decide +kernel
theorem dX10_takeDay_56 : decode cX10_takeDay 56 = .ok (.putfield 29, 3) := by decide +kernel
theorem dX10_takeDay_59 : decode cX10_takeDay 59 = .ok (.iinc 2 1, 3) := by decide +kernel
theorem dX10_takeDay_62 : decode cX10_takeDay 62 = .ok (.goto (-55), 3) := by decide +kernel
theorem dX10_takeDay_65 : decode cX10_takeDay 65 = .ok (.return_, 1) := by decide +kernel
set_option maxRecDepth 20000 in
theorem ggX10_findClash_X10_layRoads : GoodIn wsX10_findClash wsX10_layRoads := goodIn_r _ [8, 9, 1, 10, 11, 12, 32, 33, 34, 35, 36, 51, 52, 53, 54, 55, 56, 57, 58, 59, 60, 61, 62] (by decide +kernel) (by decide +kernel)
set_option maxRecDepth 20000 in
theorem gX10_findClash_X10_layRoads : GoodIn wsX10_findClash (wsV RX10 42 RX10 yX10_layRoads wsX10_layRoads) := goodIn_app (goodIn_of _ (by decide +kernel)) ggX10_findClash_X10_layRoads
set_option maxRecDepth 20000 in
theorem ggX10_findClash_X10_canDo : GoodIn wsX10_findClash wsX10_canDo := goodIn_r _ [16, 2, 17, 18, 19, 20, 21, 7, 22, 10, 23, 9, 32, 33, 34, 35, 36, 37, 38, 39, 40, 41, 42, 43, 44, 45, 46, 47, 48, 49, 50, 51, 52, 53, 54, 55, 56, 57, 58, 59, 60, 61, 62] (by decide +kernel) (by decide +kernel)
set_option maxRecDepth 20000 in
theorem gX10_findClash_X10_canDo : GoodIn wsX10_findClash (wsV RX10 49 RX10 yX10_canDo wsX10_canDo) := goodIn_app (goodIn_of _ (by decide +kernel)) ggX10_findClash_X10_canDo
set_option maxRecDepth 20000 in
theorem ggX10_findClash_X10_oddsOver : GoodIn wsX10_findClash wsX10_oddsOver := goodIn_r _ [27, 1, 10, 11, 12, 2, 3, 4, 5, 6, 7, 8, 9, 19, 20, 21, 22, 23, 28, 29, 30, 31, 17, 18, 32, 33, 34, 35, 36, 51, 52, 53, 54, 55, 56, 57, 58, 59, 60, 61, 62, 37, 38, 39, 40, 41, 42, 43, 44, 45, 46, 47, 48, 49, 50] (by decide +kernel) (by decide +kernel)
set_option maxRecDepth 20000 in
theorem gX10_findClash_X10_oddsOver : GoodIn wsX10_findClash (wsV RX10 53 RX10 yX10_oddsOver wsX10_oddsOver) := goodIn_app (goodIn_of _ (by decide +kernel)) ggX10_findClash_X10_oddsOver
theorem dX10_findClash_0 : decode cX10_findClash 0 = .ok (.aload_n 0, 1) := by decide +kernel
theorem dX10_findClash_1 : decode cX10_findClash 1 = .ok (.aload_n 0, 1) := by decide +kernel
theorem dX10_findClash_2 : decode cX10_findClash 2 = .ok (.getfield 29, 3) := by decide +kernel
theorem dX10_findClash_5 : decode cX10_findClash 5 = .ok (.iconst 0, 1) := by decide +kernel
theorem dX10_findClash_6 : decode cX10_findClash 6 = .ok (.iconst (-1), 1) := by decide +kernel
theorem dX10_findClash_7 : decode cX10_findClash 7 = .ok (.invokevirtual 42, 3) := by decide +kernel
theorem dX10_findClash_10 : decode cX10_findClash 10 = .ok (.iconst 0, 1) := by decide +kernel
theorem dX10_findClash_11 : decode cX10_findClash 11 = .ok (.istore_n 1, 1) := by decide +kernel
theorem dX10_findClash_12 : decode cX10_findClash 12 = .ok (.iload_n 1, 1) := by decide +kernel
theorem dX10_findClash_13 : decode cX10_findClash 13 = .ok (.aload_n 0, 1) := by decide +kernel
theorem dX10_findClash_14 : decode cX10_findClash 14 = .ok (.getfield 18, 3) := by decide +kernel
theorem dX10_findClash_17 : decode cX10_findClash 17 = .ok (.getfield 46, 3) := by decide +kernel
theorem dX10_findClash_20 : decode cX10_findClash 20 = .ok (.if_icmp .ge 21, 3) := by decide +kernel
theorem dX10_findClash_23 : decode cX10_findClash 23 = .ok (.aload_n 0, 1) := by decide +kernel
theorem dX10_findClash_24 : decode cX10_findClash 24 = .ok (.iload_n 1, 1) := by decide +kernel
theorem dX10_findClash_25 : decode cX10_findClash 25 = .ok (.invokevirtual 49, 3) := by decide +kernel
theorem dX10_findClash_28 : decode cX10_findClash 28 = .ok (.ifCond .ne 7, 3) := by decide +kernel
theorem dX10_findClash_31 : decode cX10_findClash 31 = .ok (.iconst 1, 1) := by decide +kernel
theorem dX10_findClash_32 : decode cX10_findClash 32 = .ok (.iload_n 1, 1) := by decide +kernel
theorem dX10_findClash_33 : decode cX10_findClash 33 = .ok (.ishl, 1) := by decide +kernel
theorem dX10_findClash_34 : decode cX10_findClash 34 = .ok (.ireturn, 1) := by decide +kernel
theorem dX10_findClash_35 : decode cX10_findClash 35 = .ok (.iinc 1 1, 3) := by decide +kernel
theorem dX10_findClash_38 : decode cX10_findClash 38 = .ok (.goto (-26), 3) := by decide +kernel
theorem dX10_findClash_41 : decode cX10_findClash 41 = .ok (.iconst 0, 1) := by decide +kernel
theorem dX10_findClash_42 : decode cX10_findClash 42 = .ok (.istore_n 1, 1) := by decide +kernel
theorem dX10_findClash_43 : decode cX10_findClash 43 = .ok (.iconst 0, 1) := by decide +kernel
theorem dX10_findClash_44 : decode cX10_findClash 44 = .ok (.istore_n 2, 1) := by decide +kernel
theorem dX10_findClash_45 : decode cX10_findClash 45 = .ok (.iload_n 2, 1) := by decide +kernel
theorem dX10_findClash_46 : decode cX10_findClash 46 = .ok (.aload_n 0, 1) := by decide +kernel
theorem dX10_findClash_47 : decode cX10_findClash 47 = .ok (.getfield 29, 3) := by decide +kernel
theorem dX10_findClash_50 : decode cX10_findClash 50 = .ok (.if_icmp .ge 30, 3) := by decide +kernel
theorem dX10_findClash_53 : decode cX10_findClash 53 = .ok (.aload_n 0, 1) := by decide +kernel
theorem dX10_findClash_54 : decode cX10_findClash 54 = .ok (.iload_n 2, 1) := by decide +kernel
theorem dX10_findClash_55 : decode cX10_findClash 55 = .ok (.invokevirtual 53, 3) := by decide +kernel
theorem dX10_findClash_58 : decode cX10_findClash 58 = .ok (.istore_n 3, 1) := by decide +kernel
theorem dX10_findClash_59 : decode cX10_findClash 59 = .ok (.iload_n 3, 1) := by decide +kernel
theorem dX10_findClash_60 : decode cX10_findClash 60 = .ok (.ifCond .eq 14, 3) := by decide +kernel
theorem dX10_findClash_63 : decode cX10_findClash 63 = .ok (.iload_n 1, 1) := by decide +kernel
theorem dX10_findClash_64 : decode cX10_findClash 64 = .ok (.ifCond .eq 8, 3) := by decide +kernel
theorem dX10_findClash_67 : decode cX10_findClash 67 = .ok (.iload_n 3, 1) := by decide +kernel
theorem dX10_findClash_68 : decode cX10_findClash 68 = .ok (.iload_n 1, 1) := by decide +kernel
theorem dX10_findClash_69 : decode cX10_findClash 69 = .ok (.if_icmp .ge 5, 3) := by decide +kernel
theorem dX10_findClash_72 : decode cX10_findClash 72 = .ok (.iload_n 3, 1) := by decide +kernel
theorem dX10_findClash_73 : decode cX10_findClash 73 = .ok (.istore_n 1, 1) := by decide +kernel
theorem dX10_findClash_74 : decode cX10_findClash 74 = .ok (.iinc 2 1, 3) := by decide +kernel
theorem dX10_findClash_77 : decode cX10_findClash 77 = .ok (.goto (-32), 3) := by decide +kernel
theorem dX10_findClash_80 : decode cX10_findClash 80 = .ok (.iload_n 1, 1) := by decide +kernel
theorem dX10_findClash_81 : decode cX10_findClash 81 = .ok (.ireturn, 1) := by decide +kernel
set_option maxRecDepth 20000 in
theorem ggX10_oddsOver_X10_layRoads : GoodIn wsX10_oddsOver wsX10_layRoads := goodIn_r _ [11, 12, 1, 2, 3, 4, 24, 25, 26, 27, 28, 29, 30, 31, 32, 33, 34, 35, 36, 37, 38, 39, 40] (by decide +kernel) (by decide +kernel)
set_option maxRecDepth 20000 in
theorem gX10_oddsOver_X10_layRoads : GoodIn wsX10_oddsOver (wsV RX10 42 RX10 yX10_layRoads wsX10_layRoads) := goodIn_app (goodIn_of _ (by decide +kernel)) ggX10_oddsOver_X10_layRoads
set_option maxRecDepth 20000 in
theorem ggX10_oddsOver_X10_cornersFrom : GoodIn wsX10_oddsOver wsX10_cornersFrom := goodIn_r _ [16, 2, 17, 12, 24, 25, 26, 27, 28, 29, 30, 31, 32, 33, 34, 35, 36, 37, 38, 39, 40] (by decide +kernel) (by decide +kernel)
set_option maxRecDepth 20000 in
theorem gX10_oddsOver_X10_cornersFrom : GoodIn wsX10_oddsOver (wsV RX10 60 RX10 yX10_cornersFrom wsX10_cornersFrom) := goodIn_app (goodIn_of _ (by decide +kernel)) ggX10_oddsOver_X10_cornersFrom
set_option maxRecDepth 20000 in
theorem ggX10_oddsOver_X10_crossing : GoodIn wsX10_oddsOver wsX10_crossing := goodIn_r _ [21, 5, 22, 23, 24, 25, 26, 27, 28, 41, 42, 43, 44, 45, 46, 47, 48, 49, 50, 51, 52, 53, 54] (by decide +kernel) (by decide +kernel)
set_option maxRecDepth 20000 in
theorem gX10_oddsOver_X10_crossing : GoodIn wsX10_oddsOver (wsV RX10 63 RX10 yX10_crossing wsX10_crossing) := goodIn_app (goodIn_of _ (by decide +kernel)) ggX10_oddsOver_X10_crossing
theorem dX10_oddsOver_0 : decode cX10_oddsOver 0 = .ok (.aload_n 0, 1) := by decide +kernel
theorem dX10_oddsOver_1 : decode cX10_oddsOver 1 = .ok (.aload_n 0, 1) := by decide +kernel
theorem dX10_oddsOver_2 : decode cX10_oddsOver 2 = .ok (.getfield 29, 3) := by decide +kernel
theorem dX10_oddsOver_5 : decode cX10_oddsOver 5 = .ok (.iconst 0, 1) := by decide +kernel
theorem dX10_oddsOver_6 : decode cX10_oddsOver 6 = .ok (.iload_n 1, 1) := by decide +kernel
theorem dX10_oddsOver_7 : decode cX10_oddsOver 7 = .ok (.invokevirtual 42, 3) := by decide +kernel
theorem dX10_oddsOver_10 : decode cX10_oddsOver 10 = .ok (.aload_n 0, 1) := by decide +kernel
theorem dX10_oddsOver_11 : decode cX10_oddsOver 11 = .ok (.aload_n 0, 1) := by decide +kernel
theorem dX10_oddsOver_12 : decode cX10_oddsOver 12 = .ok (.getfield 28, 3) := by decide +kernel
theorem dX10_oddsOver_15 : decode cX10_oddsOver 15 = .ok (.getfield 57, 3) := by decide +kernel
theorem dX10_oddsOver_18 : decode cX10_oddsOver 18 = .ok (.iconst 2, 1) := by decide +kernel
theorem dX10_oddsOver_19 : decode cX10_oddsOver 19 = .ok (.aload_n 0, 1) := by decide +kernel
theorem dX10_oddsOver_20 : decode cX10_oddsOver 20 = .ok (.getfield 9, 3) := by decide +kernel
theorem dX10_oddsOver_23 : decode cX10_oddsOver 23 = .ok (.iload_n 1, 1) := by decide +kernel
theorem dX10_oddsOver_24 : decode cX10_oddsOver 24 = .ok (.iaload, 1) := by decide +kernel
theorem dX10_oddsOver_25 : decode cX10_oddsOver 25 = .ok (.imul, 1) := by decide +kernel
theorem dX10_oddsOver_26 : decode cX10_oddsOver 26 = .ok (.iaload, 1) := by decide +kernel
theorem dX10_oddsOver_27 : decode cX10_oddsOver 27 = .ok (.invokevirtual 60, 3) := by decide +kernel
theorem dX10_oddsOver_30 : decode cX10_oddsOver 30 = .ok (.istore_n 2, 1) := by decide +kernel
theorem dX10_oddsOver_31 : decode cX10_oddsOver 31 = .ok (.iconst 0, 1) := by decide +kernel
theorem dX10_oddsOver_32 : decode cX10_oddsOver 32 = .ok (.istore_n 3, 1) := by decide +kernel
theorem dX10_oddsOver_33 : decode cX10_oddsOver 33 = .ok (.iconst 0, 1) := by decide +kernel
theorem dX10_oddsOver_34 : decode cX10_oddsOver 34 = .ok (.istore 4, 2) := by decide +kernel
theorem dX10_oddsOver_36 : decode cX10_oddsOver 36 = .ok (.iload 4, 2) := by decide +kernel
theorem dX10_oddsOver_38 : decode cX10_oddsOver 38 = .ok (.aload_n 0, 1) := by decide +kernel
theorem dX10_oddsOver_39 : decode cX10_oddsOver 39 = .ok (.getfield 18, 3) := by decide +kernel
theorem dX10_oddsOver_42 : decode cX10_oddsOver 42 = .ok (.getfield 46, 3) := by decide +kernel
theorem dX10_oddsOver_45 : decode cX10_oddsOver 45 = .ok (.if_icmp .ge 75, 3) := by decide +kernel
theorem dX10_oddsOver_48 : decode cX10_oddsOver 48 = .ok (.iload 4, 2) := by decide +kernel
theorem dX10_oddsOver_50 : decode cX10_oddsOver 50 = .ok (.iconst 1, 1) := by decide +kernel
theorem dX10_oddsOver_51 : decode cX10_oddsOver 51 = .ok (.iadd, 1) := by decide +kernel
theorem dX10_oddsOver_52 : decode cX10_oddsOver 52 = .ok (.istore 5, 2) := by decide +kernel
theorem dX10_oddsOver_54 : decode cX10_oddsOver 54 = .ok (.iload 5, 2) := by decide +kernel
theorem dX10_oddsOver_56 : decode cX10_oddsOver 56 = .ok (.aload_n 0, 1) := by decide +kernel
theorem dX10_oddsOver_57 : decode cX10_oddsOver 57 = .ok (.getfield 18, 3) := by decide +kernel
theorem dX10_oddsOver_60 : decode cX10_oddsOver 60 = .ok (.getfield 46, 3) := by decide +kernel
theorem dX10_oddsOver_63 : decode cX10_oddsOver 63 = .ok (.if_icmp .ge 51, 3) := by decide +kernel
theorem dX10_oddsOver_66 : decode cX10_oddsOver 66 = .ok (.iconst 1, 1) := by decide +kernel
theorem dX10_oddsOver_67 : decode cX10_oddsOver 67 = .ok (.iload 4, 2) := by decide +kernel
theorem dX10_oddsOver_69 : decode cX10_oddsOver 69 = .ok (.ishl, 1) := by decide +kernel
theorem dX10_oddsOver_70 : decode cX10_oddsOver 70 = .ok (.iconst 1, 1) := by decide +kernel
theorem dX10_oddsOver_71 : decode cX10_oddsOver 71 = .ok (.iload 5, 2) := by decide +kernel
theorem dX10_oddsOver_73 : decode cX10_oddsOver 73 = .ok (.ishl, 1) := by decide +kernel
theorem dX10_oddsOver_74 : decode cX10_oddsOver 74 = .ok (.ior, 1) := by decide +kernel
theorem dX10_oddsOver_75 : decode cX10_oddsOver 75 = .ok (.istore 6, 2) := by decide +kernel
theorem dX10_oddsOver_77 : decode cX10_oddsOver 77 = .ok (.aload_n 0, 1) := by decide +kernel
theorem dX10_oddsOver_78 : decode cX10_oddsOver 78 = .ok (.iload 4, 2) := by decide +kernel
theorem dX10_oddsOver_80 : decode cX10_oddsOver 80 = .ok (.iload_n 2, 1) := by decide +kernel
theorem dX10_oddsOver_81 : decode cX10_oddsOver 81 = .ok (.invokevirtual 63, 3) := by decide +kernel
theorem dX10_oddsOver_84 : decode cX10_oddsOver 84 = .ok (.aload_n 0, 1) := by decide +kernel
theorem dX10_oddsOver_85 : decode cX10_oddsOver 85 = .ok (.iload 5, 2) := by decide +kernel
theorem dX10_oddsOver_87 : decode cX10_oddsOver 87 = .ok (.iload_n 2, 1) := by decide +kernel
theorem dX10_oddsOver_88 : decode cX10_oddsOver 88 = .ok (.invokevirtual 63, 3) := by decide +kernel
theorem dX10_oddsOver_91 : decode cX10_oddsOver 91 = .ok (.imul, 1) := by decide +kernel
theorem dX10_oddsOver_92 : decode cX10_oddsOver 92 = .ok (.ifCond .ge 16, 3) := by decide +kernel
theorem dX10_oddsOver_95 : decode cX10_oddsOver 95 = .ok (.iload_n 3, 1) := by decide +kernel
theorem dX10_oddsOver_96 : decode cX10_oddsOver 96 = .ok (.ifCond .eq 9, 3) := by decide +kernel
theorem dX10_oddsOver_99 : decode cX10_oddsOver 99 = .ok (.iload 6, 2) := by decide +kernel
theorem dX10_oddsOver_101 : decode cX10_oddsOver 101 = .ok (.iload_n 3, 1) := by decide +kernel
theorem dX10_oddsOver_102 : decode cX10_oddsOver 102 = .ok (.if_icmp .ge 6, 3) := by decide +kernel
theorem dX10_oddsOver_105 : decode cX10_oddsOver 105 = .ok (.iload 6, 2) := by decide +kernel
theorem dX10_oddsOver_107 : decode cX10_oddsOver 107 = .ok (.istore_n 3, 1) := by decide +kernel
theorem dX10_oddsOver_108 : decode cX10_oddsOver 108 = .ok (.iinc 5 1, 3) := by decide +kernel
theorem dX10_oddsOver_111 : decode cX10_oddsOver 111 = .ok (.goto (-57), 3) := by decide +kernel
theorem dX10_oddsOver_114 : decode cX10_oddsOver 114 = .ok (.iinc 4 1, 3) := by decide +kernel
theorem dX10_oddsOver_117 : decode cX10_oddsOver 117 = .ok (.goto (-81), 3) := by decide +kernel
theorem dX10_oddsOver_120 : decode cX10_oddsOver 120 = .ok (.iload_n 3, 1) := by decide +kernel
theorem dX10_oddsOver_121 : decode cX10_oddsOver 121 = .ok (.ireturn, 1) := by decide +kernel
theorem dX10_crossing_0 : decode cX10_crossing 0 = .ok (.iload_n 2, 1) := by decide +kernel
theorem dX10_crossing_1 : decode cX10_crossing 1 = .ok (.aload_n 0, 1) := by decide +kernel
theorem dX10_crossing_2 : decode cX10_crossing 2 = .ok (.getfield 18, 3) := by decide +kernel
theorem dX10_crossing_5 : decode cX10_crossing 5 = .ok (.getfield 66, 3) := by decide +kernel
theorem dX10_crossing_8 : decode cX10_crossing 8 = .ok (.iload_n 1, 1) := by decide +kernel
theorem dX10_crossing_9 : decode cX10_crossing 9 = .ok (.iaload, 1) := by decide +kernel
theorem dX10_crossing_10 : decode cX10_crossing 10 = .ok (.ishr, 1) := by decide +kernel
theorem dX10_crossing_11 : decode cX10_crossing 11 = .ok (.iconst 1, 1) := by decide +kernel
theorem dX10_crossing_12 : decode cX10_crossing 12 = .ok (.iand, 1) := by decide +kernel
theorem dX10_crossing_13 : decode cX10_crossing 13 = .ok (.iload_n 2, 1) := by decide +kernel
theorem dX10_crossing_14 : decode cX10_crossing 14 = .ok (.aload_n 0, 1) := by decide +kernel
theorem dX10_crossing_15 : decode cX10_crossing 15 = .ok (.getfield 18, 3) := by decide +kernel
theorem dX10_crossing_18 : decode cX10_crossing 18 = .ok (.getfield 69, 3) := by decide +kernel
theorem dX10_crossing_21 : decode cX10_crossing 21 = .ok (.iload_n 1, 1) := by decide +kernel
theorem dX10_crossing_22 : decode cX10_crossing 22 = .ok (.iaload, 1) := by decide +kernel
theorem dX10_crossing_23 : decode cX10_crossing 23 = .ok (.ishr, 1) := by decide +kernel
theorem dX10_crossing_24 : decode cX10_crossing 24 = .ok (.iconst 1, 1) := by decide +kernel
theorem dX10_crossing_25 : decode cX10_crossing 25 = .ok (.iand, 1) := by decide +kernel
theorem dX10_crossing_26 : decode cX10_crossing 26 = .ok (.isub, 1) := by decide +kernel
theorem dX10_crossing_27 : decode cX10_crossing 27 = .ok (.ireturn, 1) := by decide +kernel
set_option maxRecDepth 20000 in
theorem ggX10_findLeast_X10_leastBelow : GoodIn wsX10_findLeast wsX10_leastBelow := goodIn_r _ [6, 7, 8, 9, 10, 11, 5, 12, 13, 1, 14, 15, 16, 17, 18, 19, 20, 21, 22, 23, 24, 25, 26, 27, 2, 3, 4, 28, 29, 30, 31, 32, 33, 34, 35, 36, 37, 38, 39, 40, 41, 42, 43, 44, 45, 46, 47, 48, 49, 50, 51, 52, 53, 54, 55, 56, 57, 58] (by decide +kernel) (by decide +kernel)
set_option maxRecDepth 20000 in
theorem gX10_findLeast_X10_leastBelow : GoodIn wsX10_findLeast (wsV RX10 72 RX10 yX10_leastBelow wsX10_leastBelow) := goodIn_app (goodIn_of _ (by decide +kernel)) ggX10_findLeast_X10_leastBelow
theorem dX10_findLeast_0 : decode cX10_findLeast 0 = .ok (.aload_n 0, 1) := by decide +kernel
theorem dX10_findLeast_1 : decode cX10_findLeast 1 = .ok (.aload_n 0, 1) := by decide +kernel
theorem dX10_findLeast_2 : decode cX10_findLeast 2 = .ok (.getfield 29, 3) := by decide +kernel
theorem dX10_findLeast_5 : decode cX10_findLeast 5 = .ok (.iconst 0, 1) := by decide +kernel
theorem dX10_findLeast_6 : decode cX10_findLeast 6 = .ok (.invokevirtual 72, 3) := by decide +kernel
theorem dX10_findLeast_9 : decode cX10_findLeast 9 = .ok (.ireturn, 1) := by decide +kernel
set_option maxRecDepth 20000 in
theorem ggX10_leastBelow_X10_layRoads : GoodIn wsX10_leastBelow wsX10_layRoads := goodIn_r _ [7, 8, 9, 10, 11, 12, 27, 28, 29, 30, 31, 46, 47, 48, 49, 50, 51, 52, 53, 54, 55, 56, 57] (by decide +kernel) (by decide +kernel)
set_option maxRecDepth 20000 in
theorem gX10_leastBelow_X10_layRoads : GoodIn wsX10_leastBelow (wsV RX10 42 RX10 yX10_layRoads wsX10_layRoads) := goodIn_app (goodIn_of _ (by decide +kernel)) ggX10_leastBelow_X10_layRoads
set_option maxRecDepth 20000 in
theorem ggX10_leastBelow_X10_canDo : GoodIn wsX10_leastBelow wsX10_canDo := goodIn_r _ [16, 1, 17, 18, 19, 20, 21, 6, 22, 10, 23, 8, 27, 28, 29, 30, 31, 32, 33, 34, 35, 36, 37, 38, 39, 40, 41, 42, 43, 44, 45, 46, 47, 48, 49, 50, 51, 52, 53, 54, 55, 56, 57] (by decide +kernel) (by decide +kernel)
set_option maxRecDepth 20000 in
theorem gX10_leastBelow_X10_canDo : GoodIn wsX10_leastBelow (wsV RX10 49 RX10 yX10_canDo wsX10_canDo) := goodIn_app (goodIn_of _ (by decide +kernel)) ggX10_leastBelow_X10_canDo
set_option maxRecDepth 20000 in
theorem ggX10_leastBelow_X10_leastBelow : GoodIn wsX10_leastBelow wsX10_leastBelow := goodIn_r _ [0, 1, 2, 3, 4, 5, 6, 7, 8, 9, 10, 11, 12, 13, 14, 15, 16, 17, 18, 19, 20, 21, 22, 23, 24, 25, 26, 27, 28, 29, 30, 31, 32, 33, 34, 35, 36, 37, 38, 39, 40, 41, 42, 43, 44, 45, 46, 47, 48, 49, 50, 51, 52, 53, 54, 55, 56, 57] (by decide +kernel) (by decide +kernel)
set_option maxRecDepth 20000 in
theorem gX10_leastBelow_X10_leastBelow : GoodIn wsX10_leastBelow (wsV RX10 72 RX10 yX10_leastBelow wsX10_leastBelow) := goodIn_app (goodIn_of _ (by decide +kernel)) ggX10_leastBelow_X10_leastBelow
theorem dX10_leastBelow_0 : decode cX10_leastBelow 0 = .ok (.aload_n 0, 1) := by decide +kernel
theorem dX10_leastBelow_1 : decode cX10_leastBelow 1 = .ok (.iload_n 1, 1) := by decide +kernel
theorem dX10_leastBelow_2 : decode cX10_leastBelow 2 = .ok (.iload_n 2, 1) := by decide +kernel
theorem dX10_leastBelow_3 : decode cX10_leastBelow 3 = .ok (.iconst (-1), 1) := by decide +kernel
theorem dX10_leastBelow_4 : decode cX10_leastBelow 4 = .ok (.invokevirtual 42, 3) := by decide +kernel
theorem dX10_leastBelow_7 : decode cX10_leastBelow 7 = .ok (.iconst 0, 1) := by decide +kernel
theorem dX10_leastBelow_8 : decode cX10_leastBelow 8 = .ok (.istore_n 3, 1) := by decide +kernel
theorem dX10_leastBelow_9 : decode cX10_leastBelow 9 = .ok (.iload_n 3, 1) := by decide +kernel
theorem dX10_leastBelow_10 : decode cX10_leastBelow 10 = .ok (.aload_n 0, 1) := by decide +kernel
theorem dX10_leastBelow_11 : decode cX10_leastBelow 11 = .ok (.getfield 18, 3) := by decide +kernel
theorem dX10_leastBelow_14 : decode cX10_leastBelow 14 = .ok (.getfield 46, 3) := by decide +kernel
theorem dX10_leastBelow_17 : decode cX10_leastBelow 17 = .ok (.if_icmp .ge 19, 3) := by decide +kernel
theorem dX10_leastBelow_20 : decode cX10_leastBelow 20 = .ok (.aload_n 0, 1) := by decide +kernel
theorem dX10_leastBelow_21 : decode cX10_leastBelow 21 = .ok (.iload_n 3, 1) := by decide +kernel
theorem dX10_leastBelow_22 : decode cX10_leastBelow 22 = .ok (.invokevirtual 49, 3) := by decide +kernel
theorem dX10_leastBelow_25 : decode cX10_leastBelow 25 = .ok (.ifCond .ne 5, 3) := by decide +kernel
theorem dX10_leastBelow_28 : decode cX10_leastBelow 28 = .ok (.iconst (-1), 1) := by decide +kernel
theorem dX10_leastBelow_29 : decode cX10_leastBelow 29 = .ok (.ireturn, 1) := by decide +kernel
theorem dX10_leastBelow_30 : decode cX10_leastBelow 30 = .ok (.iinc 3 1, 3) := by decide +kernel
theorem dX10_leastBelow_33 : decode cX10_leastBelow 33 = .ok (.goto (-24), 3) := by decide +kernel
theorem dX10_leastBelow_36 : decode cX10_leastBelow 36 = .ok (.iload_n 1, 1) := by decide +kernel
theorem dX10_leastBelow_37 : decode cX10_leastBelow 37 = .ok (.ifCond .gt 5, 3) := by decide +kernel
theorem dX10_leastBelow_40 : decode cX10_leastBelow 40 = .ok (.iload_n 2, 1) := by decide +kernel
theorem dX10_leastBelow_41 : decode cX10_leastBelow 41 = .ok (.ireturn, 1) := by decide +kernel
theorem dX10_leastBelow_42 : decode cX10_leastBelow 42 = .ok (.aload_n 0, 1) := by decide +kernel
theorem dX10_leastBelow_43 : decode cX10_leastBelow 43 = .ok (.iload_n 1, 1) := by decide +kernel
theorem dX10_leastBelow_44 : decode cX10_leastBelow 44 = .ok (.iconst 1, 1) := by decide +kernel
theorem dX10_leastBelow_45 : decode cX10_leastBelow 45 = .ok (.isub, 1) := by decide +kernel
theorem dX10_leastBelow_46 : decode cX10_leastBelow 46 = .ok (.iload_n 2, 1) := by decide +kernel
theorem dX10_leastBelow_47 : decode cX10_leastBelow 47 = .ok (.invokevirtual 72, 3) := by decide +kernel
theorem dX10_leastBelow_50 : decode cX10_leastBelow 50 = .ok (.istore_n 3, 1) := by decide +kernel
theorem dX10_leastBelow_51 : decode cX10_leastBelow 51 = .ok (.iload_n 3, 1) := by decide +kernel
theorem dX10_leastBelow_52 : decode cX10_leastBelow 52 = .ok (.iconst (-1), 1) := by decide +kernel
theorem dX10_leastBelow_53 : decode cX10_leastBelow 53 = .ok (.if_icmp .eq 7, 3) := by decide +kernel
theorem dX10_leastBelow_56 : decode cX10_leastBelow 56 = .ok (.iload_n 3, 1) := by decide +kernel
theorem dX10_leastBelow_57 : decode cX10_leastBelow 57 = .ok (.goto 17, 3) := by decide +kernel
theorem dX10_leastBelow_60 : decode cX10_leastBelow 60 = .ok (.aload_n 0, 1) := by decide +kernel
theorem dX10_leastBelow_61 : decode cX10_leastBelow 61 = .ok (.iload_n 1, 1) := by decide +kernel
theorem dX10_leastBelow_62 : decode cX10_leastBelow 62 = .ok (.iconst 1, 1) := by decide +kernel
theorem dX10_leastBelow_63 : decode cX10_leastBelow 63 = .ok (.isub, 1) := by decide +kernel
theorem dX10_leastBelow_64 : decode cX10_leastBelow 64 = .ok (.iload_n 2, 1) := by decide +kernel
theorem dX10_leastBelow_65 : decode cX10_leastBelow 65 = .ok (.iconst 1, 1) := by decide +kernel
theorem dX10_leastBelow_66 : decode cX10_leastBelow 66 = .ok (.iload_n 1, 1) := by decide +kernel
theorem dX10_leastBelow_67 : decode cX10_leastBelow 67 = .ok (.iconst 1, 1) := by decide +kernel
theorem dX10_leastBelow_68 : decode cX10_leastBelow 68 = .ok (.isub, 1) := by decide +kernel
theorem dX10_leastBelow_69 : decode cX10_leastBelow 69 = .ok (.ishl, 1) := by decide +kernel
theorem dX10_leastBelow_70 : decode cX10_leastBelow 70 = .ok (.ior, 1) := by decide +kernel
theorem dX10_leastBelow_71 : decode cX10_leastBelow 71 = .ok (.invokevirtual 72, 3) := by decide +kernel
theorem dX10_leastBelow_74 : decode cX10_leastBelow 74 = .ok (.ireturn, 1) := by decide +kernel
theorem dX10_layRoads_0 : decode cX10_layRoads 0 = .ok (.iconst 0, 1) := by decide +kernel
theorem dX10_layRoads_1 : decode cX10_layRoads 1 = .ok (.istore 4, 2) := by decide +kernel
theorem dX10_layRoads_3 : decode cX10_layRoads 3 = .ok (.iload 4, 2) := by decide +kernel
theorem dX10_layRoads_5 : decode cX10_layRoads 5 = .ok (.bipush 10, 2) := by decide +kernel
theorem dX10_layRoads_7 : decode cX10_layRoads 7 = .ok (.if_icmp .ge 17, 3) := by decide +kernel
theorem dX10_layRoads_10 : decode cX10_layRoads 10 = .ok (.aload_n 0, 1) := by decide +kernel
theorem dX10_layRoads_11 : decode cX10_layRoads 11 = .ok (.getfield 15, 3) := by decide +kernel
theorem dX10_layRoads_14 : decode cX10_layRoads 14 = .ok (.iload 4, 2) := by decide +kernel
theorem dX10_layRoads_16 : decode cX10_layRoads 16 = .ok (.iconst 0, 1) := by decide +kernel
theorem dX10_layRoads_17 : decode cX10_layRoads 17 = .ok (.iastore, 1) := by decide +kernel
theorem dX10_layRoads_18 : decode cX10_layRoads 18 = .ok (.iinc 4 1, 3) := by decide +kernel
theorem dX10_layRoads_21 : decode cX10_layRoads 21 = .ok (.goto (-18), 3) := by decide +kernel
theorem dX10_layRoads_24 : decode cX10_layRoads 24 = .ok (.iconst 0, 1) := by decide +kernel
theorem dX10_layRoads_25 : decode cX10_layRoads 25 = .ok (.istore 4, 2) := by decide +kernel
theorem dX10_layRoads_27 : decode cX10_layRoads 27 = .ok (.iload 4, 2) := by decide +kernel
theorem dX10_layRoads_29 : decode cX10_layRoads 29 = .ok (.aload_n 0, 1) := by decide +kernel
theorem dX10_layRoads_30 : decode cX10_layRoads 30 = .ok (.getfield 29, 3) := by decide +kernel
theorem dX10_layRoads_33 : decode cX10_layRoads 33 = .ok (.if_icmp .ge 117, 3) := by decide +kernel
theorem dX10_layRoads_36 : decode cX10_layRoads 36 = .ok (.iload 4, 2) := by decide +kernel
theorem dX10_layRoads_38 : decode cX10_layRoads 38 = .ok (.iload_n 3, 1) := by decide +kernel
theorem dX10_layRoads_39 : decode cX10_layRoads 39 = .ok (.if_icmp .ne 6, 3) := by decide +kernel
theorem dX10_layRoads_42 : decode cX10_layRoads 42 = .ok (.goto 102, 3) := by decide +kernel
theorem dX10_layRoads_45 : decode cX10_layRoads 45 = .ok (.aload_n 0, 1) := by decide +kernel
theorem dX10_layRoads_46 : decode cX10_layRoads 46 = .ok (.getfield 28, 3) := by decide +kernel
theorem dX10_layRoads_49 : decode cX10_layRoads 49 = .ok (.getfield 57, 3) := by decide +kernel
theorem dX10_layRoads_52 : decode cX10_layRoads 52 = .ok (.iconst 2, 1) := by decide +kernel
theorem dX10_layRoads_53 : decode cX10_layRoads 53 = .ok (.aload_n 0, 1) := by decide +kernel
theorem dX10_layRoads_54 : decode cX10_layRoads 54 = .ok (.getfield 9, 3) := by decide +kernel
theorem dX10_layRoads_57 : decode cX10_layRoads 57 = .ok (.iload 4, 2) := by decide +kernel
theorem dX10_layRoads_59 : decode cX10_layRoads 59 = .ok (.iaload, 1) := by decide +kernel
theorem dX10_layRoads_60 : decode cX10_layRoads 60 = .ok (.imul, 1) := by decide +kernel
theorem dX10_layRoads_61 : decode cX10_layRoads 61 = .ok (.iaload, 1) := by decide +kernel
theorem dX10_layRoads_62 : decode cX10_layRoads 62 = .ok (.istore 5, 2) := by decide +kernel
theorem dX10_layRoads_64 : decode cX10_layRoads 64 = .ok (.aload_n 0, 1) := by decide +kernel
theorem dX10_layRoads_65 : decode cX10_layRoads 65 = .ok (.getfield 28, 3) := by decide +kernel
theorem dX10_layRoads_68 : decode cX10_layRoads 68 = .ok (.getfield 57, 3) := by decide +kernel
theorem dX10_layRoads_71 : decode cX10_layRoads 71 = .ok (.iconst 2, 1) := by decide +kernel
theorem dX10_layRoads_72 : decode cX10_layRoads 72 = .ok (.aload_n 0, 1) := by decide +kernel
theorem dX10_layRoads_73 : decode cX10_layRoads 73 = .ok (.getfield 9, 3) := by decide +kernel
theorem dX10_layRoads_76 : decode cX10_layRoads 76 = .ok (.iload 4, 2) := by decide +kernel
theorem dX10_layRoads_78 : decode cX10_layRoads 78 = .ok (.iaload, 1) := by decide +kernel
theorem dX10_layRoads_79 : decode cX10_layRoads 79 = .ok (.imul, 1) := by decide +kernel
theorem dX10_layRoads_80 : decode cX10_layRoads 80 = .ok (.iconst 1, 1) := by decide +kernel
theorem dX10_layRoads_81 : decode cX10_layRoads 81 = .ok (.iadd, 1) := by decide +kernel
theorem dX10_layRoads_82 : decode cX10_layRoads 82 = .ok (.iaload, 1) := by decide +kernel
theorem dX10_layRoads_83 : decode cX10_layRoads 83 = .ok (.istore 6, 2) := by decide +kernel
theorem dX10_layRoads_85 : decode cX10_layRoads 85 = .ok (.iload_n 2, 1) := by decide +kernel
theorem dX10_layRoads_86 : decode cX10_layRoads 86 = .ok (.iload 4, 2) := by decide +kernel
theorem dX10_layRoads_88 : decode cX10_layRoads 88 = .ok (.ishr, 1) := by decide +kernel
theorem dX10_layRoads_89 : decode cX10_layRoads 89 = .ok (.iconst 1, 1) := by decide +kernel
theorem dX10_layRoads_90 : decode cX10_layRoads 90 = .ok (.iand, 1) := by decide +kernel
theorem dX10_layRoads_91 : decode cX10_layRoads 91 = .ok (.istore 7, 2) := by decide +kernel
theorem dX10_layRoads_93 : decode cX10_layRoads 93 = .ok (.iload 4, 2) := by decide +kernel
theorem dX10_layRoads_95 : decode cX10_layRoads 95 = .ok (.iload_n 1, 1) := by decide +kernel
theorem dX10_layRoads_96 : decode cX10_layRoads 96 = .ok (.if_icmp .lt 8, 3) := by decide +kernel
theorem dX10_layRoads_99 : decode cX10_layRoads 99 = .ok (.iload 7, 2) := by decide +kernel
theorem dX10_layRoads_101 : decode cX10_layRoads 101 = .ok (.ifCond .ne 17, 3) := by decide +kernel
theorem dX10_layRoads_104 : decode cX10_layRoads 104 = .ok (.aload_n 0, 1) := by decide +kernel
theorem dX10_layRoads_105 : decode cX10_layRoads 105 = .ok (.getfield 15, 3) := by decide +kernel
theorem dX10_layRoads_108 : decode cX10_layRoads 108 = .ok (.iload 5, 2) := by decide +kernel
theorem dX10_layRoads_110 : decode cX10_layRoads 110 = .ok (.dup2, 1) := by decide +kernel
theorem dX10_layRoads_111 : decode cX10_layRoads 111 = .ok (.iaload, 1) := by decide +kernel
theorem dX10_layRoads_112 : decode cX10_layRoads 112 = .ok (.iconst 1, 1) := by decide +kernel
theorem dX10_layRoads_113 : decode cX10_layRoads 113 = .ok (.iload 6, 2) := by decide +kernel
theorem dX10_layRoads_115 : decode cX10_layRoads 115 = .ok (.ishl, 1) := by decide +kernel
theorem dX10_layRoads_116 : decode cX10_layRoads 116 = .ok (.ior, 1) := by decide +kernel
theorem dX10_layRoads_117 : decode cX10_layRoads 117 = .ok (.iastore, 1) := by decide +kernel
theorem dX10_layRoads_118 : decode cX10_layRoads 118 = .ok (.iload 4, 2) := by decide +kernel
theorem dX10_layRoads_120 : decode cX10_layRoads 120 = .ok (.iload_n 1, 1) := by decide +kernel
theorem dX10_layRoads_121 : decode cX10_layRoads 121 = .ok (.if_icmp .lt 9, 3) := by decide +kernel
theorem dX10_layRoads_124 : decode cX10_layRoads 124 = .ok (.iload 7, 2) := by decide +kernel
theorem dX10_layRoads_126 : decode cX10_layRoads 126 = .ok (.iconst 1, 1) := by decide +kernel
theorem dX10_layRoads_127 : decode cX10_layRoads 127 = .ok (.if_icmp .ne 17, 3) := by decide +kernel
theorem dX10_layRoads_130 : decode cX10_layRoads 130 = .ok (.aload_n 0, 1) := by decide +kernel
theorem dX10_layRoads_131 : decode cX10_layRoads 131 = .ok (.getfield 15, 3) := by decide +kernel
theorem dX10_layRoads_134 : decode cX10_layRoads 134 = .ok (.iload 6, 2) := by decide +kernel
theorem dX10_layRoads_136 : decode cX10_layRoads 136 = .ok (.dup2, 1) := by decide +kernel
theorem dX10_layRoads_137 : decode cX10_layRoads 137 = .ok (.iaload, 1) := by decide +kernel
theorem dX10_layRoads_138 : decode cX10_layRoads 138 = .ok (.iconst 1, 1) := by decide +kernel
theorem dX10_layRoads_139 : decode cX10_layRoads 139 = .ok (.iload 5, 2) := by decide +kernel
theorem dX10_layRoads_141 : decode cX10_layRoads 141 = .ok (.ishl, 1) := by decide +kernel
theorem dX10_layRoads_142 : decode cX10_layRoads 142 = .ok (.ior, 1) := by decide +kernel
theorem dX10_layRoads_143 : decode cX10_layRoads 143 = .ok (.iastore, 1) := by decide +kernel
theorem dX10_layRoads_144 : decode cX10_layRoads 144 = .ok (.iinc 4 1, 3) := by decide +kernel
theorem dX10_layRoads_147 : decode cX10_layRoads 147 = .ok (.goto (-120), 3) := by decide +kernel
theorem dX10_layRoads_150 : decode cX10_layRoads 150 = .ok (.return_, 1) := by decide +kernel
set_option maxRecDepth 20000 in
theorem ggX10_canDo_X10_cornersFrom : GoodIn wsX10_canDo wsX10_cornersFrom := goodIn_r _ [8, 9, 10, 11, 12, 13, 14, 15, 16, 31, 32, 33, 34, 35, 36, 37, 38, 39, 40, 41, 42] (by decide +kernel) (by decide +kernel)
set_option maxRecDepth 20000 in
theorem gX10_canDo_X10_cornersFrom : GoodIn wsX10_canDo (wsV RX10 60 RX10 yX10_cornersFrom wsX10_cornersFrom) := goodIn_app (goodIn_of _ (by decide +kernel)) ggX10_canDo_X10_cornersFrom
theorem dX10_canDo_0 : decode cX10_canDo 0 = .ok (.aload_n 0, 1) := by decide +kernel
theorem dX10_canDo_1 : decode cX10_canDo 1 = .ok (.aload_n 0, 1) := by decide +kernel
theorem dX10_canDo_2 : decode cX10_canDo 2 = .ok (.getfield 18, 3) := by decide +kernel
theorem dX10_canDo_5 : decode cX10_canDo 5 = .ok (.getfield 66, 3) := by decide +kernel
theorem dX10_canDo_8 : decode cX10_canDo 8 = .ok (.iload_n 1, 1) := by decide +kernel
theorem dX10_canDo_9 : decode cX10_canDo 9 = .ok (.iaload, 1) := by decide +kernel
theorem dX10_canDo_10 : decode cX10_canDo 10 = .ok (.invokevirtual 60, 3) := by decide +kernel
theorem dX10_canDo_13 : decode cX10_canDo 13 = .ok (.aload_n 0, 1) := by decide +kernel
theorem dX10_canDo_14 : decode cX10_canDo 14 = .ok (.getfield 18, 3) := by decide +kernel
theorem dX10_canDo_17 : decode cX10_canDo 17 = .ok (.getfield 69, 3) := by decide +kernel
theorem dX10_canDo_20 : decode cX10_canDo 20 = .ok (.iload_n 1, 1) := by decide +kernel
theorem dX10_canDo_21 : decode cX10_canDo 21 = .ok (.iaload, 1) := by decide +kernel
theorem dX10_canDo_22 : decode cX10_canDo 22 = .ok (.ishr, 1) := by decide +kernel
theorem dX10_canDo_23 : decode cX10_canDo 23 = .ok (.iconst 1, 1) := by decide +kernel
theorem dX10_canDo_24 : decode cX10_canDo 24 = .ok (.iand, 1) := by decide +kernel
theorem dX10_canDo_25 : decode cX10_canDo 25 = .ok (.ifCond .eq 7, 3) := by decide +kernel
theorem dX10_canDo_28 : decode cX10_canDo 28 = .ok (.iconst 1, 1) := by decide +kernel
theorem dX10_canDo_29 : decode cX10_canDo 29 = .ok (.goto 4, 3) := by decide +kernel
theorem dX10_canDo_32 : decode cX10_canDo 32 = .ok (.iconst 0, 1) := by decide +kernel
theorem dX10_canDo_33 : decode cX10_canDo 33 = .ok (.ireturn, 1) := by decide +kernel
theorem dX10_cornersFrom_0 : decode cX10_cornersFrom 0 = .ok (.iconst 1, 1) := by decide +kernel
theorem dX10_cornersFrom_1 : decode cX10_cornersFrom 1 = .ok (.iload_n 1, 1) := by decide +kernel
theorem dX10_cornersFrom_2 : decode cX10_cornersFrom 2 = .ok (.ishl, 1) := by decide +kernel
theorem dX10_cornersFrom_3 : decode cX10_cornersFrom 3 = .ok (.istore_n 2, 1) := by decide +kernel
theorem dX10_cornersFrom_4 : decode cX10_cornersFrom 4 = .ok (.iload_n 2, 1) := by decide +kernel
theorem dX10_cornersFrom_5 : decode cX10_cornersFrom 5 = .ok (.istore_n 3, 1) := by decide +kernel
theorem dX10_cornersFrom_6 : decode cX10_cornersFrom 6 = .ok (.iconst 0, 1) := by decide +kernel
theorem dX10_cornersFrom_7 : decode cX10_cornersFrom 7 = .ok (.istore 4, 2) := by decide +kernel
theorem dX10_cornersFrom_9 : decode cX10_cornersFrom 9 = .ok (.iload 4, 2) := by decide +kernel
theorem dX10_cornersFrom_11 : decode cX10_cornersFrom 11 = .ok (.bipush 10, 2) := by decide +kernel
theorem dX10_cornersFrom_13 : decode cX10_cornersFrom 13 = .ok (.if_icmp .ge 74, 3) := by decide +kernel
theorem dX10_cornersFrom_16 : decode cX10_cornersFrom 16 = .ok (.iload_n 3, 1) := by decide +kernel
theorem dX10_cornersFrom_17 : decode cX10_cornersFrom 17 = .ok (.ifCond .eq 70, 3) := by decide +kernel
theorem dX10_cornersFrom_20 : decode cX10_cornersFrom 20 = .ok (.iconst 0, 1) := by decide +kernel
theorem dX10_cornersFrom_21 : decode cX10_cornersFrom 21 = .ok (.istore 5, 2) := by decide +kernel
theorem dX10_cornersFrom_23 : decode cX10_cornersFrom 23 = .ok (.iconst 0, 1) := by decide +kernel
theorem dX10_cornersFrom_24 : decode cX10_cornersFrom 24 = .ok (.istore 6, 2) := by decide +kernel
theorem dX10_cornersFrom_26 : decode cX10_cornersFrom 26 = .ok (.iload 6, 2) := by decide +kernel
theorem dX10_cornersFrom_28 : decode cX10_cornersFrom 28 = .ok (.aload_n 0, 1) := by decide +kernel
theorem dX10_cornersFrom_29 : decode cX10_cornersFrom 29 = .ok (.getfield 28, 3) := by decide +kernel
theorem dX10_cornersFrom_32 : decode cX10_cornersFrom 32 = .ok (.getfield 75, 3) := by decide +kernel
theorem dX10_cornersFrom_35 : decode cX10_cornersFrom 35 = .ok (.if_icmp .ge 30, 3) := by decide +kernel
theorem dX10_cornersFrom_38 : decode cX10_cornersFrom 38 = .ok (.iload_n 3, 1) := by decide +kernel
theorem dX10_cornersFrom_39 : decode cX10_cornersFrom 39 = .ok (.iload 6, 2) := by decide +kernel
theorem dX10_cornersFrom_41 : decode cX10_cornersFrom 41 = .ok (.ishr, 1) := by decide +kernel
theorem dX10_cornersFrom_42 : decode cX10_cornersFrom 42 = .ok (.iconst 1, 1) := by decide +kernel
theorem dX10_cornersFrom_43 : decode cX10_cornersFrom 43 = .ok (.iand, 1) := by decide +kernel
theorem dX10_cornersFrom_44 : decode cX10_cornersFrom 44 = .ok (.ifCond .eq 15, 3) := by decide +kernel
theorem dX10_cornersFrom_47 : decode cX10_cornersFrom 47 = .ok (.iload 5, 2) := by decide +kernel
theorem dX10_cornersFrom_49 : decode cX10_cornersFrom 49 = .ok (.aload_n 0, 1) := by decide +kernel
theorem dX10_cornersFrom_50 : decode cX10_cornersFrom 50 = .ok (.getfield 15, 3) := by decide +kernel
theorem dX10_cornersFrom_53 : decode cX10_cornersFrom 53 = .ok (.iload 6, 2) := by decide +kernel
theorem dX10_cornersFrom_55 : decode cX10_cornersFrom 55 = .ok (.iaload, 1) := by decide +kernel
theorem dX10_cornersFrom_56 : decode cX10_cornersFrom 56 = .ok (.ior, 1) := by decide +kernel
theorem dX10_cornersFrom_57 : decode cX10_cornersFrom 57 = .ok (.istore 5, 2) := by decide +kernel
theorem dX10_cornersFrom_59 : decode cX10_cornersFrom 59 = .ok (.iinc 6 1, 3) := by decide +kernel
theorem dX10_cornersFrom_62 : decode cX10_cornersFrom 62 = .ok (.goto (-36), 3) := by decide +kernel
theorem dX10_cornersFrom_65 : decode cX10_cornersFrom 65 = .ok (.iload 5, 2) := by decide +kernel
theorem dX10_cornersFrom_67 : decode cX10_cornersFrom 67 = .ok (.iload_n 2, 1) := by decide +kernel
theorem dX10_cornersFrom_68 : decode cX10_cornersFrom 68 = .ok (.iconst (-1), 1) := by decide +kernel
theorem dX10_cornersFrom_69 : decode cX10_cornersFrom 69 = .ok (.ixor, 1) := by decide +kernel
theorem dX10_cornersFrom_70 : decode cX10_cornersFrom 70 = .ok (.iand, 1) := by decide +kernel
theorem dX10_cornersFrom_71 : decode cX10_cornersFrom 71 = .ok (.sipush 1023, 3) := by decide +kernel
theorem dX10_cornersFrom_74 : decode cX10_cornersFrom 74 = .ok (.iand, 1) := by decide +kernel
theorem dX10_cornersFrom_75 : decode cX10_cornersFrom 75 = .ok (.istore_n 3, 1) := by decide +kernel
theorem dX10_cornersFrom_76 : decode cX10_cornersFrom 76 = .ok (.iload_n 2, 1) := by decide +kernel
theorem dX10_cornersFrom_77 : decode cX10_cornersFrom 77 = .ok (.iload 5, 2) := by decide +kernel
theorem dX10_cornersFrom_79 : decode cX10_cornersFrom 79 = .ok (.ior, 1) := by decide +kernel
theorem dX10_cornersFrom_80 : decode cX10_cornersFrom 80 = .ok (.istore_n 2, 1) := by decide +kernel
theorem dX10_cornersFrom_81 : decode cX10_cornersFrom 81 = .ok (.iinc 4 1, 3) := by decide +kernel
theorem dX10_cornersFrom_84 : decode cX10_cornersFrom 84 = .ok (.goto (-75), 3) := by decide +kernel
theorem dX10_cornersFrom_87 : decode cX10_cornersFrom 87 = .ok (.iload_n 2, 1) := by decide +kernel
theorem dX10_cornersFrom_88 : decode cX10_cornersFrom 88 = .ok (.ireturn, 1) := by decide +kernel
set_option maxRecDepth 20000 in
theorem ggX11_init_X6_init : GoodIn wsX11_init wsX6_init := goodIn_r _ [49, 50, 2, 3, 51, 52, 145, 146, 147, 148, 149] (by decide +kernel) (by decide +kernel)
set_option maxRecDepth 20000 in
theorem gX11_init_X6_init : GoodIn wsX11_init (wsX6_init) := ggX11_init_X6_init
set_option maxRecDepth 20000 in
theorem ggX11_init_X7_init : GoodIn wsX11_init wsX7_init := goodIn_r _ [55, 56, 2, 3, 51, 57, 58, 59, 60, 61, 62, 63, 64, 163, 164, 165, 166, 167, 168, 169, 170, 171, 172, 173, 174] (by decide +kernel) (by decide +kernel)
set_option maxRecDepth 20000 in
theorem gX11_init_X7_init : GoodIn wsX11_init (wsX7_init) := ggX11_init_X7_init
set_option maxRecDepth 20000 in
theorem ggX11_init_X2_init : GoodIn wsX11_init wsX2_init := goodIn_r _ [67, 68, 2, 3, 51, 69, 70, 71, 175, 176, 177, 178, 179, 180] (by decide +kernel) (by decide +kernel)
set_option maxRecDepth 20000 in
theorem gX11_init_X2_init : GoodIn wsX11_init (wsX2_init) := ggX11_init_X2_init
set_option maxRecDepth 20000 in
theorem ggX11_init_X3_init : GoodIn wsX11_init wsX3_init := goodIn_r _ [74, 75, 2, 3, 76, 181, 182, 183] (by decide +kernel) (by decide +kernel)
set_option maxRecDepth 20000 in
theorem gX11_init_X3_init : GoodIn wsX11_init (wsX3_init) := ggX11_init_X3_init
set_option maxRecDepth 20000 in
theorem ggX11_init_X5_init : GoodIn wsX11_init wsX5_init := goodIn_r _ [79, 80, 2, 3, 81, 9, 10, 82, 51, 83, 84, 85, 86, 87, 88, 89, 90, 91, 92, 93, 54, 55, 56, 57, 58, 59, 60, 61, 62, 63, 64, 94, 95, 96, 97, 163, 164, 165, 166, 167, 168, 169, 170, 171, 172, 173, 174, 184, 185, 186, 187, 188, 189, 190, 191, 192, 193, 194, 195, 196, 197, 229, 230, 231, 232, 233, 234, 235, 236, 237] (by decide +kernel) (by decide +kernel)
set_option maxRecDepth 20000 in
theorem gX11_init_X5_init : GoodIn wsX11_init (wsX5_init) := ggX11_init_X5_init
set_option maxRecDepth 20000 in
theorem ggX11_init_X0_init : GoodIn wsX11_init wsX0_init := goodIn_r _ [100, 101, 2, 3, 51, 102, 103, 25, 104, 105, 198, 199, 200, 201] (by decide +kernel) (by decide +kernel)
set_option maxRecDepth 20000 in
theorem gX11_init_X0_init : GoodIn wsX11_init (wsX0_init) := ggX11_init_X0_init
set_option maxRecDepth 20000 in
theorem ggX11_init_X1_init : GoodIn wsX11_init wsX1_init := goodIn_r _ [108, 109, 2, 3, 110, 111, 112, 113, 114, 202, 203, 204, 205, 206, 207, 208, 209, 210, 211] (by decide +kernel) (by decide +kernel)
set_option maxRecDepth 20000 in
theorem gX11_init_X1_init : GoodIn wsX11_init (wsX1_init) := ggX11_init_X1_init
set_option maxRecDepth 20000 in
theorem ggX11_init_X8_init : GoodIn wsX11_init wsX8_init := goodIn_r _ [117, 118, 2, 3, 119, 91, 92, 120, 51, 121, 122, 123, 124, 125, 126, 95, 96, 97, 229, 230, 231, 232, 233, 234, 235, 236, 237, 212, 213, 214, 215, 216, 217, 218, 219] (by decide +kernel) (by decide +kernel)
set_option maxRecDepth 20000 in
theorem gX11_init_X8_init : GoodIn wsX11_init (wsX8_init) := ggX11_init_X8_init
set_option maxRecDepth 20000 in
theorem ggX11_init_X4_init : GoodIn wsX11_init wsX4_init := goodIn_r _ [129, 130, 2, 3, 51, 131, 25, 132, 133, 134, 135, 220, 221, 222, 223, 184, 185, 186, 187, 188, 189, 190, 191, 192, 193, 194, 195, 196, 197] (by decide +kernel) (by decide +kernel)
set_option maxRecDepth 20000 in
theorem gX11_init_X4_init : GoodIn wsX11_init (wsX4_init) := ggX11_init_X4_init
set_option maxRecDepth 20000 in
theorem ggX11_init_X10_init : GoodIn wsX11_init wsX10_init := goodIn_r _ [138, 139, 2, 3, 51, 140, 141, 142, 143, 144, 224, 225, 226, 227, 228, 184, 185, 186, 187, 188, 189, 190, 191, 192, 193, 194, 195, 196, 197] (by decide +kernel) (by decide +kernel)
set_option maxRecDepth 20000 in
theorem gX11_init_X10_init : GoodIn wsX11_init (wsX10_init) := ggX11_init_X10_init
theorem dX11_init_0 : decode cX11_init 0 = .ok (.aload_n 0, 1) := by decide +kernel
theorem dX11_init_1 : decode cX11_init 1 = .ok (.invokespecial 1, 3) := by decide +kernel
theorem dX11_init_4 : decode cX11_init 4 = .ok (.aload_n 0, 1) := by decide +kernel
theorem dX11_init_5 : decode cX11_init 5 = .ok (.new 7, 3) := by decide +kernel
theorem dX11_init_8 : decode cX11_init 8 = .ok (.dup, 1) := by decide +kernel
theorem dX11_init_9 : decode cX11_init 9 = .ok (.invokespecial 9, 3) := by decide +kernel
theorem dX11_init_12 : decode cX11_init 12 = .ok (.putfield 10, 3) := by decide +kernel
theorem dX11_init_15 : decode cX11_init 15 = .ok (.aload_n 0, 1) := by decide +kernel
theorem dX11_init_16 : decode cX11_init 16 = .ok (.new 16, 3) := by decide +kernel
theorem dX11_init_19 : decode cX11_init 19 = .ok (.dup, 1) := by decide +kernel
theorem dX11_init_20 : decode cX11_init 20 = .ok (.invokespecial 18, 3) := by decide +kernel
theorem dX11_init_23 : decode cX11_init 23 = .ok (.putfield 19, 3) := by decide +kernel
theorem dX11_init_26 : decode cX11_init 26 = .ok (.aload_n 0, 1) := by decide +kernel
theorem dX11_init_27 : decode cX11_init 27 = .ok (.bipush 6, 2) := by decide +kernel
theorem dX11_init_29 : decode cX11_init 29 = .ok (.anewarray 23, 3) := by decide +kernel
theorem dX11_init_32 : decode cX11_init 32 = .ok (.putfield 25, 3) := by decide +kernel
theorem dX11_init_35 : decode cX11_init 35 = .ok (.iconst 0, 1) := by decide +kernel
theorem dX11_init_36 : decode cX11_init 36 = .ok (.istore_n 1, 1) := by decide +kernel
theorem dX11_init_37 : decode cX11_init 37 = .ok (.iload_n 1, 1) := by decide +kernel
theorem dX11_init_38 : decode cX11_init 38 = .ok (.bipush 6, 2) := by decide +kernel
theorem dX11_init_40 : decode cX11_init 40 = .ok (.if_icmp .ge 22, 3) := by decide +kernel
theorem dX11_init_43 : decode cX11_init 43 = .ok (.aload_n 0, 1) := by decide +kernel
theorem dX11_init_44 : decode cX11_init 44 = .ok (.getfield 25, 3) := by decide +kernel
theorem dX11_init_47 : decode cX11_init 47 = .ok (.iload_n 1, 1) := by decide +kernel
theorem dX11_init_48 : decode cX11_init 48 = .ok (.new 23, 3) := by decide +kernel
theorem dX11_init_51 : decode cX11_init 51 = .ok (.dup, 1) := by decide +kernel
theorem dX11_init_52 : decode cX11_init 52 = .ok (.invokespecial 29, 3) := by decide +kernel
theorem dX11_init_55 : decode cX11_init 55 = .ok (.aastore, 1) := by decide +kernel
theorem dX11_init_56 : decode cX11_init 56 = .ok (.iinc 1 1, 3) := by decide +kernel
theorem dX11_init_59 : decode cX11_init 59 = .ok (.goto (-22), 3) := by decide +kernel
theorem dX11_init_62 : decode cX11_init 62 = .ok (.aload_n 0, 1) := by decide +kernel
theorem dX11_init_63 : decode cX11_init 63 = .ok (.new 30, 3) := by decide +kernel
theorem dX11_init_66 : decode cX11_init 66 = .ok (.dup, 1) := by decide +kernel
theorem dX11_init_67 : decode cX11_init 67 = .ok (.aload_n 0, 1) := by decide +kernel
theorem dX11_init_68 : decode cX11_init 68 = .ok (.getfield 10, 3) := by decide +kernel
theorem dX11_init_71 : decode cX11_init 71 = .ok (.invokespecial 32, 3) := by decide +kernel
theorem dX11_init_74 : decode cX11_init 74 = .ok (.putfield 35, 3) := by decide +kernel
theorem dX11_init_77 : decode cX11_init 77 = .ok (.aload_n 0, 1) := by decide +kernel
theorem dX11_init_78 : decode cX11_init 78 = .ok (.new 39, 3) := by decide +kernel
theorem dX11_init_81 : decode cX11_init 81 = .ok (.dup, 1) := by decide +kernel
theorem dX11_init_82 : decode cX11_init 82 = .ok (.invokespecial 41, 3) := by decide +kernel
theorem dX11_init_85 : decode cX11_init 85 = .ok (.putfield 42, 3) := by decide +kernel
theorem dX11_init_88 : decode cX11_init 88 = .ok (.aload_n 0, 1) := by decide +kernel
theorem dX11_init_89 : decode cX11_init 89 = .ok (.iconst 4, 1) := by decide +kernel
theorem dX11_init_90 : decode cX11_init 90 = .ok (.anewarray 39, 3) := by decide +kernel
theorem dX11_init_93 : decode cX11_init 93 = .ok (.putfield 46, 3) := by decide +kernel
theorem dX11_init_96 : decode cX11_init 96 = .ok (.iconst 0, 1) := by decide +kernel
theorem dX11_init_97 : decode cX11_init 97 = .ok (.istore_n 1, 1) := by decide +kernel
theorem dX11_init_98 : decode cX11_init 98 = .ok (.iload_n 1, 1) := by decide +kernel
theorem dX11_init_99 : decode cX11_init 99 = .ok (.iconst 4, 1) := by decide +kernel
theorem dX11_init_100 : decode cX11_init 100 = .ok (.if_icmp .ge 22, 3) := by decide +kernel
theorem dX11_init_103 : decode cX11_init 103 = .ok (.aload_n 0, 1) := by decide +kernel
theorem dX11_init_104 : decode cX11_init 104 = .ok (.getfield 46, 3) := by decide +kernel
theorem dX11_init_107 : decode cX11_init 107 = .ok (.iload_n 1, 1) := by decide +kernel
theorem dX11_init_108 : decode cX11_init 108 = .ok (.new 39, 3) := by decide +kernel
theorem dX11_init_111 : decode cX11_init 111 = .ok (.dup, 1) := by decide +kernel
theorem dX11_init_112 : decode cX11_init 112 = .ok (.invokespecial 41, 3) := by decide +kernel
theorem dX11_init_115 : decode cX11_init 115 = .ok (.aastore, 1) := by decide +kernel
theorem dX11_init_116 : decode cX11_init 116 = .ok (.iinc 1 1, 3) := by decide +kernel
theorem dX11_init_119 : decode cX11_init 119 = .ok (.goto (-21), 3) := by decide +kernel
theorem dX11_init_122 : decode cX11_init 122 = .ok (.aload_n 0, 1) := by decide +kernel
theorem dX11_init_123 : decode cX11_init 123 = .ok (.iconst 4, 1) := by decide +kernel
theorem dX11_init_124 : decode cX11_init 124 = .ok (.newarray .boolean, 2) := by decide +kernel
theorem dX11_init_126 : decode cX11_init 126 = .ok (.putfield 50, 3) := by decide +kernel
theorem dX11_init_129 : decode cX11_init 129 = .ok (.aload_n 0, 1) := by decide +kernel
theorem dX11_init_130 : decode cX11_init 130 = .ok (.new 54, 3) := by decide +kernel
theorem dX11_init_133 : decode cX11_init 133 = .ok (.dup, 1) := by decide +kernel
theorem dX11_init_134 : decode cX11_init 134 = .ok (.aload_n 0, 1) := by decide +kernel
theorem dX11_init_135 : decode cX11_init 135 = .ok (.getfield 42, 3) := by decide +kernel
theorem dX11_init_138 : decode cX11_init 138 = .ok (.invokespecial 56, 3) := by decide +kernel
theorem dX11_init_141 : decode cX11_init 141 = .ok (.putfield 59, 3) := by decide +kernel
theorem dX11_init_144 : decode cX11_init 144 = .ok (.aload_n 0, 1) := by decide +kernel
theorem dX11_init_145 : decode cX11_init 145 = .ok (.new 63, 3) := by decide +kernel
theorem dX11_init_148 : decode cX11_init 148 = .ok (.dup, 1) := by decide +kernel
theorem dX11_init_149 : decode cX11_init 149 = .ok (.aload_n 0, 1) := by decide +kernel
theorem dX11_init_150 : decode cX11_init 150 = .ok (.getfield 42, 3) := by decide +kernel
theorem dX11_init_153 : decode cX11_init 153 = .ok (.aload_n 0, 1) := by decide +kernel
theorem dX11_init_154 : decode cX11_init 154 = .ok (.getfield 59, 3) := by decide +kernel
theorem dX11_init_157 : decode cX11_init 157 = .ok (.aload_n 0, 1) := by decide +kernel
theorem dX11_init_158 : decode cX11_init 158 = .ok (.getfield 25, 3) := by decide +kernel
theorem dX11_init_161 : decode cX11_init 161 = .ok (.invokespecial 65, 3) := by decide +kernel
theorem dX11_init_164 : decode cX11_init 164 = .ok (.putfield 68, 3) := by decide +kernel
theorem dX11_init_167 : decode cX11_init 167 = .ok (.aload_n 0, 1) := by decide +kernel
theorem dX11_init_168 : decode cX11_init 168 = .ok (.new 72, 3) := by decide +kernel
theorem dX11_init_171 : decode cX11_init 171 = .ok (.dup, 1) := by decide +kernel
theorem dX11_init_172 : decode cX11_init 172 = .ok (.aload_n 0, 1) := by decide +kernel
theorem dX11_init_173 : decode cX11_init 173 = .ok (.getfield 42, 3) := by decide +kernel
theorem dX11_init_176 : decode cX11_init 176 = .ok (.aload_n 0, 1) := by decide +kernel
theorem dX11_init_177 : decode cX11_init 177 = .ok (.getfield 59, 3) := by decide +kernel
theorem dX11_init_180 : decode cX11_init 180 = .ok (.aload_n 0, 1) := by decide +kernel
theorem dX11_init_181 : decode cX11_init 181 = .ok (.getfield 68, 3) := by decide +kernel
theorem dX11_init_184 : decode cX11_init 184 = .ok (.invokespecial 74, 3) := by decide +kernel
theorem dX11_init_187 : decode cX11_init 187 = .ok (.putfield 77, 3) := by decide +kernel
theorem dX11_init_190 : decode cX11_init 190 = .ok (.aload_n 0, 1) := by decide +kernel
theorem dX11_init_191 : decode cX11_init 191 = .ok (.new 81, 3) := by decide +kernel
theorem dX11_init_194 : decode cX11_init 194 = .ok (.dup, 1) := by decide +kernel
theorem dX11_init_195 : decode cX11_init 195 = .ok (.aload_n 0, 1) := by decide +kernel
theorem dX11_init_196 : decode cX11_init 196 = .ok (.getfield 42, 3) := by decide +kernel
theorem dX11_init_199 : decode cX11_init 199 = .ok (.invokespecial 83, 3) := by decide +kernel
theorem dX11_init_202 : decode cX11_init 202 = .ok (.putfield 84, 3) := by decide +kernel
theorem dX11_init_205 : decode cX11_init 205 = .ok (.aload_n 0, 1) := by decide +kernel
theorem dX11_init_206 : decode cX11_init 206 = .ok (.new 88, 3) := by decide +kernel
theorem dX11_init_209 : decode cX11_init 209 = .ok (.dup, 1) := by decide +kernel
theorem dX11_init_210 : decode cX11_init 210 = .ok (.aload_n 0, 1) := by decide +kernel
theorem dX11_init_211 : decode cX11_init 211 = .ok (.getfield 42, 3) := by decide +kernel
theorem dX11_init_214 : decode cX11_init 214 = .ok (.invokespecial 90, 3) := by decide +kernel
theorem dX11_init_217 : decode cX11_init 217 = .ok (.putfield 91, 3) := by decide +kernel
theorem dX11_init_220 : decode cX11_init 220 = .ok (.return_, 1) := by decide +kernel
set_option maxRecDepth 20000 in
theorem ggX11_feed_X6_hasRoom : GoodIn wsX11_feed wsX6_hasRoom := goodIn_r _ [7, 8, 27, 28, 29, 30, 31] (by decide +kernel) (by decide +kernel)
set_option maxRecDepth 20000 in
theorem gX11_feed_X6_hasRoom : GoodIn wsX11_feed (wsV RX11 95 RX6 yX6_hasRoom wsX6_hasRoom) := goodIn_app (goodIn_of _ (by decide +kernel)) ggX11_feed_X6_hasRoom
set_option maxRecDepth 20000 in
theorem ggX11_feed_X6_append : GoodIn wsX11_feed wsX6_append := goodIn_r _ [12, 8, 13, 27, 28, 29, 30, 31] (by decide +kernel) (by decide +kernel)
set_option maxRecDepth 20000 in
theorem gX11_feed_X6_append : GoodIn wsX11_feed (wsV RX11 99 RX6 yX6_append wsX6_append) := goodIn_app (goodIn_of _ (by decide +kernel)) ggX11_feed_X6_append
theorem dX11_feed_0 : decode cX11_feed 0 = .ok (.aload_n 0, 1) := by decide +kernel
theorem dX11_feed_1 : decode cX11_feed 1 = .ok (.getfield 10, 3) := by decide +kernel
theorem dX11_feed_4 : decode cX11_feed 4 = .ok (.invokevirtual 95, 3) := by decide +kernel
theorem dX11_feed_7 : decode cX11_feed 7 = .ok (.ifCond .ne 5, 3) := by decide +kernel
theorem dX11_feed_10 : decode cX11_feed 10 = .ok (.iconst (-1), 1) := by decide +kernel
theorem dX11_feed_11 : decode cX11_feed 11 = .ok (.ireturn, 1) := by decide +kernel
theorem dX11_feed_12 : decode cX11_feed 12 = .ok (.aload_n 0, 1) := by decide +kernel
theorem dX11_feed_13 : decode cX11_feed 13 = .ok (.getfield 10, 3) := by decide +kernel
theorem dX11_feed_16 : decode cX11_feed 16 = .ok (.iload_n 1, 1) := by decide +kernel
theorem dX11_feed_17 : decode cX11_feed 17 = .ok (.invokevirtual 99, 3) := by decide +kernel
theorem dX11_feed_20 : decode cX11_feed 20 = .ok (.aload_n 0, 1) := by decide +kernel
theorem dX11_feed_21 : decode cX11_feed 21 = .ok (.getfield 10, 3) := by decide +kernel
theorem dX11_feed_24 : decode cX11_feed 24 = .ok (.iload_n 2, 1) := by decide +kernel
theorem dX11_feed_25 : decode cX11_feed 25 = .ok (.invokevirtual 99, 3) := by decide +kernel
theorem dX11_feed_28 : decode cX11_feed 28 = .ok (.aload_n 0, 1) := by decide +kernel
theorem dX11_feed_29 : decode cX11_feed 29 = .ok (.getfield 10, 3) := by decide +kernel
theorem dX11_feed_32 : decode cX11_feed 32 = .ok (.iload_n 3, 1) := by decide +kernel
theorem dX11_feed_33 : decode cX11_feed 33 = .ok (.invokevirtual 99, 3) := by decide +kernel
theorem dX11_feed_36 : decode cX11_feed 36 = .ok (.aload_n 0, 1) := by decide +kernel
theorem dX11_feed_37 : decode cX11_feed 37 = .ok (.getfield 10, 3) := by decide +kernel
theorem dX11_feed_40 : decode cX11_feed 40 = .ok (.iload 4, 2) := by decide +kernel
theorem dX11_feed_42 : decode cX11_feed 42 = .ok (.invokevirtual 99, 3) := by decide +kernel
theorem dX11_feed_45 : decode cX11_feed 45 = .ok (.aload_n 0, 1) := by decide +kernel
theorem dX11_feed_46 : decode cX11_feed 46 = .ok (.getfield 10, 3) := by decide +kernel
theorem dX11_feed_49 : decode cX11_feed 49 = .ok (.iload 5, 2) := by decide +kernel
theorem dX11_feed_51 : decode cX11_feed 51 = .ok (.invokevirtual 99, 3) := by decide +kernel
theorem dX11_feed_54 : decode cX11_feed 54 = .ok (.aload_n 0, 1) := by decide +kernel
theorem dX11_feed_55 : decode cX11_feed 55 = .ok (.getfield 10, 3) := by decide +kernel
theorem dX11_feed_58 : decode cX11_feed 58 = .ok (.getfield 103, 3) := by decide +kernel
theorem dX11_feed_61 : decode cX11_feed 61 = .ok (.ireturn, 1) := by decide +kernel
theorem dX11_end_0 : decode cX11_end 0 = .ok (.iload_n 1, 1) := by decide +kernel
theorem dX11_end_1 : decode cX11_end 1 = .ok (.ifCond .lt 14, 3) := by decide +kernel
theorem dX11_end_4 : decode cX11_end 4 = .ok (.iload_n 1, 1) := by decide +kernel
theorem dX11_end_5 : decode cX11_end 5 = .ok (.aload_n 0, 1) := by decide +kernel
theorem dX11_end_6 : decode cX11_end 6 = .ok (.getfield 10, 3) := by decide +kernel
theorem dX11_end_9 : decode cX11_end 9 = .ok (.getfield 103, 3) := by decide +kernel
theorem dX11_end_12 : decode cX11_end 12 = .ok (.if_icmp .le 5, 3) := by decide +kernel
theorem dX11_end_15 : decode cX11_end 15 = .ok (.iconst (-1), 1) := by decide +kernel
theorem dX11_end_16 : decode cX11_end 16 = .ok (.ireturn, 1) := by decide +kernel
theorem dX11_end_17 : decode cX11_end 17 = .ok (.aload_n 0, 1) := by decide +kernel
theorem dX11_end_18 : decode cX11_end 18 = .ok (.getfield 10, 3) := by decide +kernel
theorem dX11_end_21 : decode cX11_end 21 = .ok (.iload_n 1, 1) := by decide +kernel
theorem dX11_end_22 : decode cX11_end 22 = .ok (.putfield 103, 3) := by decide +kernel
theorem dX11_end_25 : decode cX11_end 25 = .ok (.iload_n 1, 1) := by decide +kernel
theorem dX11_end_26 : decode cX11_end 26 = .ok (.ireturn, 1) := by decide +kernel
set_option maxRecDepth 20000 in
theorem ggX11_town_X7_readFrom : GoodIn wsX11_town wsX7_readFrom := goodIn_r _ [13, 14, 15, 16, 17, 18, 19, 20, 21, 22, 23, 24, 25, 26, 27, 28, 29, 30, 31, 32, 33, 34, 35, 36, 37, 38, 39, 40, 41, 42, 43, 44, 45, 46, 47, 48, 49, 50, 51, 52, 53, 54, 55, 56, 57, 58, 59, 60, 61, 62, 63, 64, 65, 66, 67, 68, 69, 70, 71, 72, 73, 74, 75, 76, 77, 78, 79, 80, 81, 82, 83, 84, 85, 86, 87, 88, 89, 90, 91, 92, 93, 94, 95, 96, 12, 97, 98, 99, 100, 101, 102, 103, 104, 105, 106, 107, 108, 109, 110, 111, 112, 113, 114, 115, 116, 117, 118, 119, 120, 121, 122, 123, 124, 125, 126, 127, 128, 129, 130, 131, 132, 133, 134, 135, 136, 137, 138, 139, 140, 141, 142, 143, 144, 145, 146, 147, 148, 149, 150, 151, 152, 153, 154, 155, 156, 157, 158, 159, 160, 161, 162, 163, 164, 165, 166, 167, 168, 169, 170, 171, 172, 173, 174, 175, 176, 177, 178, 179, 180, 181, 182, 183, 184, 185, 186, 187, 188, 189, 190, 191, 192, 193, 194, 195, 196, 197, 198, 199, 200, 201, 202, 203, 204, 205, 206, 207, 208, 209, 210, 211, 212, 213, 214, 215, 216, 217, 218, 219, 220, 221, 222, 223, 224, 225, 226, 227, 228, 229, 230, 231, 232, 233, 234, 235, 236, 237, 238, 239, 297, 298, 299, 300, 301, 302, 303, 304, 305, 306, 307, 308, 278, 279, 280, 281, 282] (by decide +kernel) (by decide +kernel)
set_option maxRecDepth 20000 in
theorem gX11_town_X7_readFrom : GoodIn wsX11_town (wsV RX11 107 RX7 yX7_readFrom wsX7_readFrom) := goodIn_app (goodIn_of _ (by decide +kernel)) ggX11_town_X7_readFrom
set_option maxRecDepth 20000 in
theorem ggX11_town_X5_moveTo : GoodIn wsX11_town wsX5_moveTo := goodIn_r _ [244, 245, 246, 247, 248, 249, 250, 251, 252, 253, 12, 254, 123, 255, 256, 257, 258, 124, 209, 125, 126, 214, 215, 235, 14, 15, 16, 17, 283, 284, 285, 286, 287, 288, 289, 290, 291, 292, 293, 294, 295, 296, 297, 298, 299, 300, 301, 302, 303, 304, 305, 306, 307, 308] (by decide +kernel) (by decide +kernel)
set_option maxRecDepth 20000 in
theorem gX11_town_X5_moveTo : GoodIn wsX11_town (wsV RX11 113 RX5 yX5_moveTo wsX5_moveTo) := goodIn_app (goodIn_of _ (by decide +kernel)) ggX11_town_X5_moveTo
set_option maxRecDepth 20000 in
theorem ggX11_town_X0_forgetAll : GoodIn wsX11_town wsX0_forgetAll := goodIn_r _ [263, 264, 309, 310, 311, 312] (by decide +kernel) (by decide +kernel)
set_option maxRecDepth 20000 in
theorem gX11_town_X0_forgetAll : GoodIn wsX11_town (wsV RX11 117 RX0 yX0_forgetAll wsX0_forgetAll) := goodIn_app (goodIn_of _ (by decide +kernel)) ggX11_town_X0_forgetAll
theorem dX11_town_0 : decode cX11_town 0 = .ok (.aload_n 0, 1) := by decide +kernel
theorem dX11_town_1 : decode cX11_town 1 = .ok (.getfield 19, 3) := by decide +kernel
theorem dX11_town_4 : decode cX11_town 4 = .ok (.aload_n 0, 1) := by decide +kernel
theorem dX11_town_5 : decode cX11_town 5 = .ok (.getfield 10, 3) := by decide +kernel
theorem dX11_town_8 : decode cX11_town 8 = .ok (.invokevirtual 107, 3) := by decide +kernel
theorem dX11_town_11 : decode cX11_town 11 = .ok (.aload_n 0, 1) := by decide +kernel
theorem dX11_town_12 : decode cX11_town 12 = .ok (.getfield 10, 3) := by decide +kernel
theorem dX11_town_15 : decode cX11_town 15 = .ok (.getfield 110, 3) := by decide +kernel
theorem dX11_town_18 : decode cX11_town 18 = .ok (.istore_n 1, 1) := by decide +kernel
theorem dX11_town_19 : decode cX11_town 19 = .ok (.aload_n 0, 1) := by decide +kernel
theorem dX11_town_20 : decode cX11_town 20 = .ok (.getfield 10, 3) := by decide +kernel
theorem dX11_town_23 : decode cX11_town 23 = .ok (.iconst 0, 1) := by decide +kernel
theorem dX11_town_24 : decode cX11_town 24 = .ok (.putfield 103, 3) := by decide +kernel
theorem dX11_town_27 : decode cX11_town 27 = .ok (.iload_n 1, 1) := by decide +kernel
theorem dX11_town_28 : decode cX11_town 28 = .ok (.ifCond .eq 8, 3) := by decide +kernel
theorem dX11_town_31 : decode cX11_town 31 = .ok (.bipush (-2), 2) := by decide +kernel
theorem dX11_town_33 : decode cX11_town 33 = .ok (.iload_n 1, 1) := by decide +kernel
theorem dX11_town_34 : decode cX11_town 34 = .ok (.isub, 1) := by decide +kernel
theorem dX11_town_35 : decode cX11_town 35 = .ok (.ireturn, 1) := by decide +kernel
theorem dX11_town_36 : decode cX11_town 36 = .ok (.aload_n 0, 1) := by decide +kernel
theorem dX11_town_37 : decode cX11_town 37 = .ok (.getfield 42, 3) := by decide +kernel
theorem dX11_town_40 : decode cX11_town 40 = .ok (.aload_n 0, 1) := by decide +kernel
theorem dX11_town_41 : decode cX11_town 41 = .ok (.getfield 19, 3) := by decide +kernel
theorem dX11_town_44 : decode cX11_town 44 = .ok (.invokevirtual 113, 3) := by decide +kernel
theorem dX11_town_47 : decode cX11_town 47 = .ok (.aload_n 0, 1) := by decide +kernel
theorem dX11_town_48 : decode cX11_town 48 = .ok (.getfield 59, 3) := by decide +kernel
theorem dX11_town_51 : decode cX11_town 51 = .ok (.invokevirtual 117, 3) := by decide +kernel
theorem dX11_town_54 : decode cX11_town 54 = .ok (.aload_n 0, 1) := by decide +kernel
theorem dX11_town_55 : decode cX11_town 55 = .ok (.getfield 42, 3) := by decide +kernel
theorem dX11_town_58 : decode cX11_town 58 = .ok (.getfield 120, 3) := by decide +kernel
theorem dX11_town_61 : decode cX11_town 61 = .ok (.getfield 123, 3) := by decide +kernel
theorem dX11_town_64 : decode cX11_town 64 = .ok (.ireturn, 1) := by decide +kernel
set_option maxRecDepth 20000 in
theorem ggX11_rule_X3_readInto : GoodIn wsX11_rule wsX3_readInto := goodIn_r _ [11, 12, 13, 14, 15, 16, 17, 18, 19, 20, 21, 22, 23, 24, 25, 26, 27, 28, 29, 30, 31, 32, 33, 34, 35, 36, 37, 38, 39, 40, 41, 42, 43, 44, 45, 46, 47, 48, 49, 50, 51, 52, 53, 54, 55, 56, 57, 58, 59, 60, 61, 62, 63, 64, 65, 66, 67, 68, 69, 70, 71, 72, 73, 74, 75, 76, 77, 78, 79, 80, 81, 82, 83, 84, 85, 86, 87, 88, 89, 90, 91, 92, 93, 94, 95, 96, 97, 98, 99, 100, 101, 102, 103, 104, 105, 106, 107, 108, 109, 110, 111, 112, 113, 114, 115, 116, 117, 118, 119, 120, 121, 10, 122, 123, 124, 125, 126, 127, 128, 129, 130, 131, 132, 133, 134, 135, 136, 137, 138, 139, 140, 141, 142, 143, 144, 145, 146, 147, 148, 149, 150, 151, 152, 153, 154, 155, 156, 157, 158, 159, 160, 161, 162, 163, 164, 165, 166, 167, 168, 169, 170, 171, 172, 173, 174, 175, 176, 177, 178, 179, 180, 181, 182, 183, 184, 185, 186, 187, 188, 189, 190, 209, 210, 211, 204, 205, 206, 207, 208, 212, 213, 214, 215, 216, 217] (by decide +kernel) (by decide +kernel)
set_option maxRecDepth 20000 in
theorem gX11_rule_X3_readInto : GoodIn wsX11_rule (wsV RX11 129 RX3 yX3_readInto wsX3_readInto) := goodIn_app (goodIn_of _ (by decide +kernel)) ggX11_rule_X3_readInto
theorem dX11_rule_0 : decode cX11_rule 0 = .ok (.aload_n 0, 1) := by decide +kernel
theorem dX11_rule_1 : decode cX11_rule 1 = .ok (.getfield 126, 3) := by decide +kernel
theorem dX11_rule_4 : decode cX11_rule 4 = .ok (.bipush 6, 2) := by decide +kernel
theorem dX11_rule_6 : decode cX11_rule 6 = .ok (.if_icmp .lt 5, 3) := by decide +kernel
theorem dX11_rule_9 : decode cX11_rule 9 = .ok (.iconst (-1), 1) := by decide +kernel
theorem dX11_rule_10 : decode cX11_rule 10 = .ok (.ireturn, 1) := by decide +kernel
theorem dX11_rule_11 : decode cX11_rule 11 = .ok (.aload_n 0, 1) := by decide +kernel
theorem dX11_rule_12 : decode cX11_rule 12 = .ok (.getfield 35, 3) := by decide +kernel
theorem dX11_rule_15 : decode cX11_rule 15 = .ok (.aload_n 0, 1) := by decide +kernel
theorem dX11_rule_16 : decode cX11_rule 16 = .ok (.getfield 25, 3) := by decide +kernel
theorem dX11_rule_19 : decode cX11_rule 19 = .ok (.aload_n 0, 1) := by decide +kernel
theorem dX11_rule_20 : decode cX11_rule 20 = .ok (.getfield 126, 3) := by decide +kernel
theorem dX11_rule_23 : decode cX11_rule 23 = .ok (.aaload, 1) := by decide +kernel
theorem dX11_rule_24 : decode cX11_rule 24 = .ok (.invokevirtual 129, 3) := by decide +kernel
theorem dX11_rule_27 : decode cX11_rule 27 = .ok (.aload_n 0, 1) := by decide +kernel
theorem dX11_rule_28 : decode cX11_rule 28 = .ok (.getfield 10, 3) := by decide +kernel
theorem dX11_rule_31 : decode cX11_rule 31 = .ok (.getfield 110, 3) := by decide +kernel
theorem dX11_rule_34 : decode cX11_rule 34 = .ok (.istore_n 1, 1) := by decide +kernel
theorem dX11_rule_35 : decode cX11_rule 35 = .ok (.aload_n 0, 1) := by decide +kernel
theorem dX11_rule_36 : decode cX11_rule 36 = .ok (.getfield 10, 3) := by decide +kernel
theorem dX11_rule_39 : decode cX11_rule 39 = .ok (.iconst 0, 1) := by decide +kernel
theorem dX11_rule_40 : decode cX11_rule 40 = .ok (.putfield 103, 3) := by decide +kernel
theorem dX11_rule_43 : decode cX11_rule 43 = .ok (.iload_n 1, 1) := by decide +kernel
theorem dX11_rule_44 : decode cX11_rule 44 = .ok (.ifCond .eq 8, 3) := by decide +kernel
theorem dX11_rule_47 : decode cX11_rule 47 = .ok (.bipush (-2), 2) := by decide +kernel
theorem dX11_rule_49 : decode cX11_rule 49 = .ok (.iload_n 1, 1) := by decide +kernel
theorem dX11_rule_50 : decode cX11_rule 50 = .ok (.isub, 1) := by decide +kernel
theorem dX11_rule_51 : decode cX11_rule 51 = .ok (.ireturn, 1) := by decide +kernel
theorem dX11_rule_52 : decode cX11_rule 52 = .ok (.aload_n 0, 1) := by decide +kernel
theorem dX11_rule_53 : decode cX11_rule 53 = .ok (.dup, 1) := by decide +kernel
theorem dX11_rule_54 : decode cX11_rule 54 = .ok (.getfield 126, 3) := by decide +kernel
theorem dX11_rule_57 : decode cX11_rule 57 = .ok (.iconst 1, 1) := by decide +kernel
theorem dX11_rule_58 : decode cX11_rule 58 = .ok (.iadd, 1) := by decide +kernel
theorem dX11_rule_59 : decode cX11_rule 59 = .ok (.putfield 126, 3) := by decide +kernel
theorem dX11_rule_62 : decode cX11_rule 62 = .ok (.aload_n 0, 1) := by decide +kernel
theorem dX11_rule_63 : decode cX11_rule 63 = .ok (.getfield 126, 3) := by decide +kernel
theorem dX11_rule_66 : decode cX11_rule 66 = .ok (.iconst 1, 1) := by decide +kernel
theorem dX11_rule_67 : decode cX11_rule 67 = .ok (.isub, 1) := by decide +kernel
theorem dX11_rule_68 : decode cX11_rule 68 = .ok (.ireturn, 1) := by decide +kernel
set_option maxRecDepth 20000 in
theorem ggX11_street_X7_hasStreet : GoodIn wsX11_street wsX7_hasStreet := goodIn_r _ [9, 10, 43, 44, 45, 46, 47, 48, 49, 50, 51, 52, 53, 54] (by decide +kernel) (by decide +kernel)
set_option maxRecDepth 20000 in
theorem gX11_street_X7_hasStreet : GoodIn wsX11_street (wsV RX11 133 RX7 yX7_hasStreet wsX7_hasStreet) := goodIn_app (goodIn_of _ (by decide +kernel)) ggX11_street_X7_hasStreet
set_option maxRecDepth 20000 in
theorem ggX11_street_X7_signOn : GoodIn wsX11_street wsX7_signOn := goodIn_r _ [14, 15, 43, 44, 45, 46, 47, 48, 49, 50, 51, 52, 53, 54] (by decide +kernel) (by decide +kernel)
set_option maxRecDepth 20000 in
theorem gX11_street_X7_signOn : GoodIn wsX11_street (wsV RX11 144 RX7 yX7_signOn wsX7_signOn) := goodIn_app (goodIn_of _ (by decide +kernel)) ggX11_street_X7_signOn
theorem dX11_street_0 : decode cX11_street 0 = .ok (.aload_n 0, 1) := by decide +kernel
theorem dX11_street_1 : decode cX11_street 1 = .ok (.getfield 42, 3) := by decide +kernel
theorem dX11_street_4 : decode cX11_street 4 = .ok (.getfield 120, 3) := by decide +kernel
theorem dX11_street_7 : decode cX11_street 7 = .ok (.astore_n 3, 1) := by decide +kernel
theorem dX11_street_8 : decode cX11_street 8 = .ok (.aload_n 3, 1) := by decide +kernel
theorem dX11_street_9 : decode cX11_street 9 = .ok (.iload_n 1, 1) := by decide +kernel
theorem dX11_street_10 : decode cX11_street 10 = .ok (.invokevirtual 133, 3) := by decide +kernel
theorem dX11_street_13 : decode cX11_street 13 = .ok (.ifCond .eq 13, 3) := by decide +kernel
theorem dX11_street_16 : decode cX11_street 16 = .ok (.iload_n 2, 1) := by decide +kernel
theorem dX11_street_17 : decode cX11_street 17 = .ok (.ifCond .lt 9, 3) := by decide +kernel
theorem dX11_street_20 : decode cX11_street 20 = .ok (.iload_n 2, 1) := by decide +kernel
theorem dX11_street_21 : decode cX11_street 21 = .ok (.bipush 9, 2) := by decide +kernel
theorem dX11_street_23 : decode cX11_street 23 = .ok (.if_icmp .le 5, 3) := by decide +kernel
theorem dX11_street_26 : decode cX11_street 26 = .ok (.iconst (-1), 1) := by decide +kernel
theorem dX11_street_27 : decode cX11_street 27 = .ok (.ireturn, 1) := by decide +kernel
theorem dX11_street_28 : decode cX11_street 28 = .ok (.iload_n 2, 1) := by decide +kernel
theorem dX11_street_29 : decode cX11_street 29 = .ok (.iconst 2, 1) := by decide +kernel
theorem dX11_street_30 : decode cX11_street 30 = .ok (.if_icmp .ge 14, 3) := by decide +kernel
theorem dX11_street_33 : decode cX11_street 33 = .ok (.aload_n 3, 1) := by decide +kernel
theorem dX11_street_34 : decode cX11_street 34 = .ok (.getfield 137, 3) := by decide +kernel
theorem dX11_street_37 : decode cX11_street 37 = .ok (.iconst 2, 1) := by decide +kernel
theorem dX11_street_38 : decode cX11_street 38 = .ok (.iload_n 1, 1) := by decide +kernel
theorem dX11_street_39 : decode cX11_street 39 = .ok (.imul, 1) := by decide +kernel
theorem dX11_street_40 : decode cX11_street 40 = .ok (.iload_n 2, 1) := by decide +kernel
theorem dX11_street_41 : decode cX11_street 41 = .ok (.iadd, 1) := by decide +kernel
theorem dX11_street_42 : decode cX11_street 42 = .ok (.iaload, 1) := by decide +kernel
theorem dX11_street_43 : decode cX11_street 43 = .ok (.ireturn, 1) := by decide +kernel
theorem dX11_street_44 : decode cX11_street 44 = .ok (.iload_n 2, 1) := by decide +kernel
theorem dX11_street_45 : decode cX11_street 45 = .ok (.iconst 2, 1) := by decide +kernel
theorem dX11_street_46 : decode cX11_street 46 = .ok (.if_icmp .ne 12, 3) := by decide +kernel
theorem dX11_street_49 : decode cX11_street 49 = .ok (.aload_n 3, 1) := by decide +kernel
theorem dX11_street_50 : decode cX11_street 50 = .ok (.getfield 141, 3) := by decide +kernel
theorem dX11_street_53 : decode cX11_street 53 = .ok (.iload_n 1, 1) := by decide +kernel
theorem dX11_street_54 : decode cX11_street 54 = .ok (.iaload, 1) := by decide +kernel
theorem dX11_street_55 : decode cX11_street 55 = .ok (.goto 11, 3) := by decide +kernel
theorem dX11_street_58 : decode cX11_street 58 = .ok (.aload_n 3, 1) := by decide +kernel
theorem dX11_street_59 : decode cX11_street 59 = .ok (.iload_n 1, 1) := by decide +kernel
theorem dX11_street_60 : decode cX11_street 60 = .ok (.iload_n 2, 1) := by decide +kernel
theorem dX11_street_61 : decode cX11_street 61 = .ok (.iconst 3, 1) := by decide +kernel
theorem dX11_street_62 : decode cX11_street 62 = .ok (.isub, 1) := by decide +kernel
theorem dX11_street_63 : decode cX11_street 63 = .ok (.invokevirtual 144, 3) := by decide +kernel
theorem dX11_street_66 : decode cX11_street 66 = .ok (.ireturn, 1) := by decide +kernel
set_option maxRecDepth 20000 in
theorem ggX11_open_X7_hasStreet : GoodIn wsX11_open wsX7_hasStreet := goodIn_r _ [7, 8, 57, 58, 59, 60, 61, 62, 63, 64, 65, 66, 67, 68] (by decide +kernel) (by decide +kernel)
set_option maxRecDepth 20000 in
theorem gX11_open_X7_hasStreet : GoodIn wsX11_open (wsV RX11 133 RX7 yX7_hasStreet wsX7_hasStreet) := goodIn_app (goodIn_of _ (by decide +kernel)) ggX11_open_X7_hasStreet
set_option maxRecDepth 20000 in
theorem ggX11_open_X7_sideOf : GoodIn wsX11_open wsX7_sideOf := goodIn_r _ [12, 13, 57, 58, 59, 60, 61, 62, 63, 64, 65, 66, 67, 68] (by decide +kernel) (by decide +kernel)
set_option maxRecDepth 20000 in
theorem gX11_open_X7_sideOf : GoodIn wsX11_open (wsV RX11 148 RX7 yX7_sideOf wsX7_sideOf) := goodIn_app (goodIn_of _ (by decide +kernel)) ggX11_open_X7_sideOf
set_option maxRecDepth 20000 in
theorem ggX11_open_X7_isOpen : GoodIn wsX11_open wsX7_isOpen := goodIn_r _ [17, 18, 19, 20, 21, 6, 22, 23, 24, 25, 26, 27, 28, 29, 57, 58, 59, 60, 61, 62, 63, 64, 65, 66, 67, 68] (by decide +kernel) (by decide +kernel)
set_option maxRecDepth 20000 in
theorem gX11_open_X7_isOpen : GoodIn wsX11_open (wsV RX11 151 RX7 yX7_isOpen wsX7_isOpen) := goodIn_app (goodIn_of _ (by decide +kernel)) ggX11_open_X7_isOpen
theorem dX11_open_0 : decode cX11_open 0 = .ok (.aload_n 0, 1) := by decide +kernel
theorem dX11_open_1 : decode cX11_open 1 = .ok (.getfield 42, 3) := by decide +kernel
theorem dX11_open_4 : decode cX11_open 4 = .ok (.getfield 120, 3) := by decide +kernel
theorem dX11_open_7 : decode cX11_open 7 = .ok (.astore 4, 2) := by decide +kernel
theorem dX11_open_9 : decode cX11_open 9 = .ok (.aload 4, 2) := by decide +kernel
theorem dX11_open_11 : decode cX11_open 11 = .ok (.iload_n 1, 1) := by decide +kernel
theorem dX11_open_12 : decode cX11_open 12 = .ok (.invokevirtual 133, 3) := by decide +kernel
theorem dX11_open_15 : decode cX11_open 15 = .ok (.ifCond .eq 7, 3) := by decide +kernel
theorem dX11_open_18 : decode cX11_open 18 = .ok (.iload_n 3, 1) := by decide +kernel
theorem dX11_open_19 : decode cX11_open 19 = .ok (.ifCond .ge 5, 3) := by decide +kernel
theorem dX11_open_22 : decode cX11_open 22 = .ok (.iconst (-1), 1) := by decide +kernel
theorem dX11_open_23 : decode cX11_open 23 = .ok (.ireturn, 1) := by decide +kernel
theorem dX11_open_24 : decode cX11_open 24 = .ok (.aload 4, 2) := by decide +kernel
theorem dX11_open_26 : decode cX11_open 26 = .ok (.iload_n 1, 1) := by decide +kernel
theorem dX11_open_27 : decode cX11_open 27 = .ok (.iload_n 2, 1) := by decide +kernel
theorem dX11_open_28 : decode cX11_open 28 = .ok (.invokevirtual 148, 3) := by decide +kernel
theorem dX11_open_31 : decode cX11_open 31 = .ok (.istore 5, 2) := by decide +kernel
theorem dX11_open_33 : decode cX11_open 33 = .ok (.iload 5, 2) := by decide +kernel
theorem dX11_open_35 : decode cX11_open 35 = .ok (.iconst (-1), 1) := by decide +kernel
theorem dX11_open_36 : decode cX11_open 36 = .ok (.if_icmp .ne 5, 3) := by decide +kernel
theorem dX11_open_39 : decode cX11_open 39 = .ok (.iconst (-1), 1) := by decide +kernel
theorem dX11_open_40 : decode cX11_open 40 = .ok (.ireturn, 1) := by decide +kernel
theorem dX11_open_41 : decode cX11_open 41 = .ok (.aload 4, 2) := by decide +kernel
theorem dX11_open_43 : decode cX11_open 43 = .ok (.iload_n 1, 1) := by decide +kernel
theorem dX11_open_44 : decode cX11_open 44 = .ok (.iload 5, 2) := by decide +kernel
theorem dX11_open_46 : decode cX11_open 46 = .ok (.iload_n 3, 1) := by decide +kernel
theorem dX11_open_47 : decode cX11_open 47 = .ok (.i2l, 1) := by decide +kernel
theorem dX11_open_48 : decode cX11_open 48 = .ok (.iconst 1, 1) := by decide +kernel
theorem dX11_open_49 : decode cX11_open 49 = .ok (.invokevirtual 151, 3) := by decide +kernel
theorem dX11_open_52 : decode cX11_open 52 = .ok (.ifCond .eq 7, 3) := by decide +kernel
theorem dX11_open_55 : decode cX11_open 55 = .ok (.iconst 1, 1) := by decide +kernel
theorem dX11_open_56 : decode cX11_open 56 = .ok (.goto 4, 3) := by decide +kernel
theorem dX11_open_59 : decode cX11_open 59 = .ok (.iconst 0, 1) := by decide +kernel
theorem dX11_open_60 : decode cX11_open 60 = .ok (.ireturn, 1) := by decide +kernel
set_option maxRecDepth 20000 in
theorem ggX11_print_X11_isWeekday : GoodIn wsX11_print wsX11_isWeekday := goodIn_r _ [10] (by decide +kernel) (by decide +kernel)
set_option maxRecDepth 20000 in
theorem gX11_print_X11_isWeekday : GoodIn wsX11_print (va_wsS RX11 155 yX11_isWeekday wsX11_isWeekday) := goodIn_app (goodIn_of _ (by decide +kernel)) ggX11_print_X11_isWeekday
set_option maxRecDepth 20000 in
theorem ggX11_print_X5_hasTown : GoodIn wsX11_print wsX5_hasTown := goodIn_r _ [15, 16, 17, 43, 44, 45, 46, 47, 48, 49, 50, 51, 52, 53, 54, 55, 56, 57, 58, 59, 60, 61, 62, 63, 64, 65, 66, 67, 68] (by decide +kernel) (by decide +kernel)
set_option maxRecDepth 20000 in
theorem gX11_print_X5_hasTown : GoodIn wsX11_print (wsV RX11 158 RX5 yX5_hasTown wsX5_hasTown) := goodIn_app (goodIn_of _ (by decide +kernel)) ggX11_print_X5_hasTown
set_option maxRecDepth 20000 in
theorem ggX11_print_X7_signOn : GoodIn wsX11_print wsX7_signOn := goodIn_r _ [22, 23, 57, 58, 59, 60, 61, 62, 63, 64, 65, 66, 67, 68] (by decide +kernel) (by decide +kernel)
set_option maxRecDepth 20000 in
theorem gX11_print_X7_signOn : GoodIn wsX11_print (wsV RX11 144 RX7 yX7_signOn wsX7_signOn) := goodIn_app (goodIn_of _ (by decide +kernel)) ggX11_print_X7_signOn
set_option maxRecDepth 20000 in
theorem ggX11_print_X0_forget : GoodIn wsX11_print wsX0_forget := goodIn_r _ [28, 29, 69, 70, 71, 72] (by decide +kernel) (by decide +kernel)
set_option maxRecDepth 20000 in
theorem gX11_print_X0_forget : GoodIn wsX11_print (wsV RX11 167 RX0 yX0_forget wsX0_forget) := goodIn_app (goodIn_of _ (by decide +kernel)) ggX11_print_X0_forget
theorem dX11_print_0 : decode cX11_print 0 = .ok (.iload_n 1, 1) := by decide +kernel
theorem dX11_print_1 : decode cX11_print 1 = .ok (.invokestatic 155, 3) := by decide +kernel
theorem dX11_print_4 : decode cX11_print 4 = .ok (.ifCond .eq 24, 3) := by decide +kernel
theorem dX11_print_7 : decode cX11_print 7 = .ok (.aload_n 0, 1) := by decide +kernel
theorem dX11_print_8 : decode cX11_print 8 = .ok (.getfield 42, 3) := by decide +kernel
theorem dX11_print_11 : decode cX11_print 11 = .ok (.invokevirtual 158, 3) := by decide +kernel
theorem dX11_print_14 : decode cX11_print 14 = .ok (.ifCond .eq 14, 3) := by decide +kernel
theorem dX11_print_17 : decode cX11_print 17 = .ok (.aload_n 0, 1) := by decide +kernel
theorem dX11_print_18 : decode cX11_print 18 = .ok (.getfield 42, 3) := by decide +kernel
theorem dX11_print_21 : decode cX11_print 21 = .ok (.getfield 161, 3) := by decide +kernel
theorem dX11_print_24 : decode cX11_print 24 = .ok (.iconst 4, 1) := by decide +kernel
theorem dX11_print_25 : decode cX11_print 25 = .ok (.if_icmp .lt 6, 3) := by decide +kernel
theorem dX11_print_28 : decode cX11_print 28 = .ok (.bipush (-2), 2) := by decide +kernel
theorem dX11_print_30 : decode cX11_print 30 = .ok (.ireturn, 1) := by decide +kernel
theorem dX11_print_31 : decode cX11_print 31 = .ok (.aload_n 0, 1) := by decide +kernel
theorem dX11_print_32 : decode cX11_print 32 = .ok (.getfield 42, 3) := by decide +kernel
theorem dX11_print_35 : decode cX11_print 35 = .ok (.getfield 161, 3) := by decide +kernel
theorem dX11_print_38 : decode cX11_print 38 = .ok (.istore_n 2, 1) := by decide +kernel
theorem dX11_print_39 : decode cX11_print 39 = .ok (.iconst 0, 1) := by decide +kernel
theorem dX11_print_40 : decode cX11_print 40 = .ok (.istore_n 3, 1) := by decide +kernel
theorem dX11_print_41 : decode cX11_print 41 = .ok (.iload_n 3, 1) := by decide +kernel
theorem dX11_print_42 : decode cX11_print 42 = .ok (.aload_n 0, 1) := by decide +kernel
theorem dX11_print_43 : decode cX11_print 43 = .ok (.getfield 42, 3) := by decide +kernel
theorem dX11_print_46 : decode cX11_print 46 = .ok (.getfield 120, 3) := by decide +kernel
theorem dX11_print_49 : decode cX11_print 49 = .ok (.getfield 123, 3) := by decide +kernel
theorem dX11_print_52 : decode cX11_print 52 = .ok (.if_icmp .ge 35, 3) := by decide +kernel
theorem dX11_print_55 : decode cX11_print 55 = .ok (.aload_n 0, 1) := by decide +kernel
theorem dX11_print_56 : decode cX11_print 56 = .ok (.getfield 42, 3) := by decide +kernel
theorem dX11_print_59 : decode cX11_print 59 = .ok (.getfield 164, 3) := by decide +kernel
theorem dX11_print_62 : decode cX11_print 62 = .ok (.iload_n 2, 1) := by decide +kernel
theorem dX11_print_63 : decode cX11_print 63 = .ok (.bipush 12, 2) := by decide +kernel
theorem dX11_print_65 : decode cX11_print 65 = .ok (.imul, 1) := by decide +kernel
theorem dX11_print_66 : decode cX11_print 66 = .ok (.iload_n 3, 1) := by decide +kernel
theorem dX11_print_67 : decode cX11_print 67 = .ok (.iadd, 1) := by decide +kernel
theorem dX11_print_68 : decode cX11_print 68 = .ok (.aload_n 0, 1) := by decide +kernel
theorem dX11_print_69 : decode cX11_print 69 = .ok (.getfield 42, 3) := by decide +kernel
theorem dX11_print_72 : decode cX11_print 72 = .ok (.getfield 120, 3) := by decide +kernel
theorem dX11_print_75 : decode cX11_print 75 = .ok (.iload_n 3, 1) := by decide +kernel
theorem dX11_print_76 : decode cX11_print 76 = .ok (.iload_n 1, 1) := by decide +kernel
theorem dX11_print_77 : decode cX11_print 77 = .ok (.invokevirtual 144, 3) := by decide +kernel
theorem dX11_print_80 : decode cX11_print 80 = .ok (.iastore, 1) := by decide +kernel
theorem dX11_print_81 : decode cX11_print 81 = .ok (.iinc 3 1, 3) := by decide +kernel
theorem dX11_print_84 : decode cX11_print 84 = .ok (.goto (-43), 3) := by decide +kernel
theorem dX11_print_87 : decode cX11_print 87 = .ok (.aload_n 0, 1) := by decide +kernel
theorem dX11_print_88 : decode cX11_print 88 = .ok (.getfield 42, 3) := by decide +kernel
theorem dX11_print_91 : decode cX11_print 91 = .ok (.dup, 1) := by decide +kernel
theorem dX11_print_92 : decode cX11_print 92 = .ok (.getfield 161, 3) := by decide +kernel
theorem dX11_print_95 : decode cX11_print 95 = .ok (.iconst 1, 1) := by decide +kernel
theorem dX11_print_96 : decode cX11_print 96 = .ok (.iadd, 1) := by decide +kernel
theorem dX11_print_97 : decode cX11_print 97 = .ok (.putfield 161, 3) := by decide +kernel
theorem dX11_print_100 : decode cX11_print 100 = .ok (.aload_n 0, 1) := by decide +kernel
theorem dX11_print_101 : decode cX11_print 101 = .ok (.getfield 59, 3) := by decide +kernel
theorem dX11_print_104 : decode cX11_print 104 = .ok (.iload_n 2, 1) := by decide +kernel
theorem dX11_print_105 : decode cX11_print 105 = .ok (.invokevirtual 167, 3) := by decide +kernel
theorem dX11_print_108 : decode cX11_print 108 = .ok (.iload_n 2, 1) := by decide +kernel
theorem dX11_print_109 : decode cX11_print 109 = .ok (.ireturn, 1) := by decide +kernel
set_option maxRecDepth 20000 in
theorem ggX11_misprint_X11_hasMap : GoodIn wsX11_misprint wsX11_hasMap := goodIn_r _ [9, 1, 10, 26, 27, 28, 29, 30, 31, 32, 33, 34, 35, 36, 37, 38, 39, 40, 41, 42, 43, 44, 45, 46, 47, 48, 49, 50, 51, 52] (by decide +kernel) (by decide +kernel)
set_option maxRecDepth 20000 in
theorem gX11_misprint_X11_hasMap : GoodIn wsX11_misprint (wsV RX11 170 RX11 yX11_hasMap wsX11_hasMap) := goodIn_app (goodIn_of _ (by decide +kernel)) ggX11_misprint_X11_hasMap
set_option maxRecDepth 20000 in
theorem ggX11_misprint_X7_hasStreet : GoodIn wsX11_misprint wsX7_hasStreet := goodIn_r _ [15, 16, 53, 54, 55, 56, 57, 58, 59, 60, 61, 62, 63, 64] (by decide +kernel) (by decide +kernel)
set_option maxRecDepth 20000 in
theorem gX11_misprint_X7_hasStreet : GoodIn wsX11_misprint (wsV RX11 133 RX7 yX7_hasStreet wsX7_hasStreet) := goodIn_app (goodIn_of _ (by decide +kernel)) ggX11_misprint_X7_hasStreet
set_option maxRecDepth 20000 in
theorem ggX11_misprint_X11_isSign : GoodIn wsX11_misprint wsX11_isSign := goodIn_r _ [19] (by decide +kernel) (by decide +kernel)
set_option maxRecDepth 20000 in
theorem gX11_misprint_X11_isSign : GoodIn wsX11_misprint (va_wsS RX11 173 yX11_isSign wsX11_isSign) := goodIn_app (goodIn_of _ (by decide +kernel)) ggX11_misprint_X11_isSign
set_option maxRecDepth 20000 in
theorem ggX11_misprint_X0_forget : GoodIn wsX11_misprint wsX0_forget := goodIn_r _ [24, 25, 65, 66, 67, 68] (by decide +kernel) (by decide +kernel)
set_option maxRecDepth 20000 in
theorem gX11_misprint_X0_forget : GoodIn wsX11_misprint (wsV RX11 167 RX0 yX0_forget wsX0_forget) := goodIn_app (goodIn_of _ (by decide +kernel)) ggX11_misprint_X0_forget
theorem dX11_misprint_0 : decode cX11_misprint 0 = .ok (.aload_n 0, 1) := by decide +kernel
theorem dX11_misprint_1 : decode cX11_misprint 1 = .ok (.iload_n 1, 1) := by decide +kernel
theorem dX11_misprint_2 : decode cX11_misprint 2 = .ok (.invokevirtual 170, 3) := by decide +kernel
theorem dX11_misprint_5 : decode cX11_misprint 5 = .ok (.ifCond .eq 24, 3) := by decide +kernel
theorem dX11_misprint_8 : decode cX11_misprint 8 = .ok (.aload_n 0, 1) := by decide +kernel
theorem dX11_misprint_9 : decode cX11_misprint 9 = .ok (.getfield 42, 3) := by decide +kernel
theorem dX11_misprint_12 : decode cX11_misprint 12 = .ok (.getfield 120, 3) := by decide +kernel
theorem dX11_misprint_15 : decode cX11_misprint 15 = .ok (.iload_n 2, 1) := by decide +kernel
theorem dX11_misprint_16 : decode cX11_misprint 16 = .ok (.invokevirtual 133, 3) := by decide +kernel
theorem dX11_misprint_19 : decode cX11_misprint 19 = .ok (.ifCond .eq 10, 3) := by decide +kernel
theorem dX11_misprint_22 : decode cX11_misprint 22 = .ok (.iload_n 3, 1) := by decide +kernel
theorem dX11_misprint_23 : decode cX11_misprint 23 = .ok (.invokestatic 173, 3) := by decide +kernel
theorem dX11_misprint_26 : decode cX11_misprint 26 = .ok (.ifCond .ne 5, 3) := by decide +kernel
theorem dX11_misprint_29 : decode cX11_misprint 29 = .ok (.iconst (-1), 1) := by decide +kernel
theorem dX11_misprint_30 : decode cX11_misprint 30 = .ok (.ireturn, 1) := by decide +kernel
theorem dX11_misprint_31 : decode cX11_misprint 31 = .ok (.iload_n 1, 1) := by decide +kernel
theorem dX11_misprint_32 : decode cX11_misprint 32 = .ok (.bipush 12, 2) := by decide +kernel
theorem dX11_misprint_34 : decode cX11_misprint 34 = .ok (.imul, 1) := by decide +kernel
theorem dX11_misprint_35 : decode cX11_misprint 35 = .ok (.iload_n 2, 1) := by decide +kernel
theorem dX11_misprint_36 : decode cX11_misprint 36 = .ok (.iadd, 1) := by decide +kernel
theorem dX11_misprint_37 : decode cX11_misprint 37 = .ok (.istore 4, 2) := by decide +kernel
theorem dX11_misprint_39 : decode cX11_misprint 39 = .ok (.aload_n 0, 1) := by decide +kernel
theorem dX11_misprint_40 : decode cX11_misprint 40 = .ok (.getfield 42, 3) := by decide +kernel
theorem dX11_misprint_43 : decode cX11_misprint 43 = .ok (.getfield 164, 3) := by decide +kernel
theorem dX11_misprint_46 : decode cX11_misprint 46 = .ok (.iload 4, 2) := by decide +kernel
theorem dX11_misprint_48 : decode cX11_misprint 48 = .ok (.iaload, 1) := by decide +kernel
theorem dX11_misprint_49 : decode cX11_misprint 49 = .ok (.istore 5, 2) := by decide +kernel
theorem dX11_misprint_51 : decode cX11_misprint 51 = .ok (.aload_n 0, 1) := by decide +kernel
theorem dX11_misprint_52 : decode cX11_misprint 52 = .ok (.getfield 42, 3) := by decide +kernel
theorem dX11_misprint_55 : decode cX11_misprint 55 = .ok (.getfield 164, 3) := by decide +kernel
theorem dX11_misprint_58 : decode cX11_misprint 58 = .ok (.iload 4, 2) := by decide +kernel
theorem dX11_misprint_60 : decode cX11_misprint 60 = .ok (.iload_n 3, 1) := by decide +kernel
theorem dX11_misprint_61 : decode cX11_misprint 61 = .ok (.iastore, 1) := by decide +kernel
theorem dX11_misprint_62 : decode cX11_misprint 62 = .ok (.aload_n 0, 1) := by decide +kernel
theorem dX11_misprint_63 : decode cX11_misprint 63 = .ok (.getfield 59, 3) := by decide +kernel
theorem dX11_misprint_66 : decode cX11_misprint 66 = .ok (.iload_n 1, 1) := by decide +kernel
theorem dX11_misprint_67 : decode cX11_misprint 67 = .ok (.invokevirtual 167, 3) := by decide +kernel
theorem dX11_misprint_70 : decode cX11_misprint 70 = .ok (.iload 5, 2) := by decide +kernel
theorem dX11_misprint_72 : decode cX11_misprint 72 = .ok (.ireturn, 1) := by decide +kernel
set_option maxRecDepth 20000 in
theorem ggX11_shown_X11_hasMap : GoodIn wsX11_shown wsX11_hasMap := goodIn_r _ [8, 1, 9, 16, 17, 18, 19, 20, 21, 22, 23, 24, 25, 26, 27, 28, 29, 30, 31, 32, 33, 34, 35, 36, 37, 38, 39, 40, 41, 42] (by decide +kernel) (by decide +kernel)
set_option maxRecDepth 20000 in
theorem gX11_shown_X11_hasMap : GoodIn wsX11_shown (wsV RX11 170 RX11 yX11_hasMap wsX11_hasMap) := goodIn_app (goodIn_of _ (by decide +kernel)) ggX11_shown_X11_hasMap
set_option maxRecDepth 20000 in
theorem ggX11_shown_X7_hasStreet : GoodIn wsX11_shown wsX7_hasStreet := goodIn_r _ [14, 15, 43, 44, 45, 46, 47, 48, 49, 50, 51, 52, 53, 54] (by decide +kernel) (by decide +kernel)
set_option maxRecDepth 20000 in
theorem gX11_shown_X7_hasStreet : GoodIn wsX11_shown (wsV RX11 133 RX7 yX7_hasStreet wsX7_hasStreet) := goodIn_app (goodIn_of _ (by decide +kernel)) ggX11_shown_X7_hasStreet
theorem dX11_shown_0 : decode cX11_shown 0 = .ok (.aload_n 0, 1) := by decide +kernel
theorem dX11_shown_1 : decode cX11_shown 1 = .ok (.iload_n 1, 1) := by decide +kernel
theorem dX11_shown_2 : decode cX11_shown 2 = .ok (.invokevirtual 170, 3) := by decide +kernel
theorem dX11_shown_5 : decode cX11_shown 5 = .ok (.ifCond .eq 17, 3) := by decide +kernel
theorem dX11_shown_8 : decode cX11_shown 8 = .ok (.aload_n 0, 1) := by decide +kernel
theorem dX11_shown_9 : decode cX11_shown 9 = .ok (.getfield 42, 3) := by decide +kernel
theorem dX11_shown_12 : decode cX11_shown 12 = .ok (.getfield 120, 3) := by decide +kernel
theorem dX11_shown_15 : decode cX11_shown 15 = .ok (.iload_n 2, 1) := by decide +kernel
theorem dX11_shown_16 : decode cX11_shown 16 = .ok (.invokevirtual 133, 3) := by decide +kernel
theorem dX11_shown_19 : decode cX11_shown 19 = .ok (.ifCond .ne 5, 3) := by decide +kernel
theorem dX11_shown_22 : decode cX11_shown 22 = .ok (.iconst (-1), 1) := by decide +kernel
theorem dX11_shown_23 : decode cX11_shown 23 = .ok (.ireturn, 1) := by decide +kernel
theorem dX11_shown_24 : decode cX11_shown 24 = .ok (.aload_n 0, 1) := by decide +kernel
theorem dX11_shown_25 : decode cX11_shown 25 = .ok (.getfield 42, 3) := by decide +kernel
theorem dX11_shown_28 : decode cX11_shown 28 = .ok (.getfield 164, 3) := by decide +kernel
theorem dX11_shown_31 : decode cX11_shown 31 = .ok (.iload_n 1, 1) := by decide +kernel
theorem dX11_shown_32 : decode cX11_shown 32 = .ok (.bipush 12, 2) := by decide +kernel
theorem dX11_shown_34 : decode cX11_shown 34 = .ok (.imul, 1) := by decide +kernel
theorem dX11_shown_35 : decode cX11_shown 35 = .ok (.iload_n 2, 1) := by decide +kernel
theorem dX11_shown_36 : decode cX11_shown 36 = .ok (.iadd, 1) := by decide +kernel
theorem dX11_shown_37 : decode cX11_shown 37 = .ok (.iaload, 1) := by decide +kernel
theorem dX11_shown_38 : decode cX11_shown 38 = .ok (.ireturn, 1) := by decide +kernel
set_option maxRecDepth 20000 in
theorem ggX11_by_X11_hasMap : GoodIn wsX11_by wsX11_hasMap := goodIn_r _ [6, 7, 8, 72, 73, 74, 75, 76, 77, 78, 79, 80, 81, 82, 83, 84, 85, 86, 87, 88, 89, 90, 91, 92, 93, 94, 95, 96, 97, 98] (by decide +kernel) (by decide +kernel)
set_option maxRecDepth 20000 in
theorem gX11_by_X11_hasMap : GoodIn wsX11_by (wsV RX11 170 RX11 yX11_hasMap wsX11_hasMap) := goodIn_app (goodIn_of _ (by decide +kernel)) ggX11_by_X11_hasMap
set_option maxRecDepth 20000 in
theorem ggX11_by_X11_hasCorner : GoodIn wsX11_by wsX11_hasCorner := goodIn_r _ [12, 7, 13, 14, 72, 73, 74, 75, 76, 77, 78, 79, 80, 81, 82, 83, 84, 85, 86, 87, 88, 89, 90, 91, 92, 93, 94, 95, 96, 97, 98, 99, 100, 101, 102, 103, 104, 105, 106, 107, 108, 109, 110] (by decide +kernel) (by decide +kernel)
set_option maxRecDepth 20000 in
theorem gX11_by_X11_hasCorner : GoodIn wsX11_by (wsV RX11 176 RX11 yX11_hasCorner wsX11_hasCorner) := goodIn_app (goodIn_of _ (by decide +kernel)) ggX11_by_X11_hasCorner
set_option maxRecDepth 20000 in
theorem ggX11_by_X0_refresh : GoodIn wsX11_by wsX0_refresh := goodIn_r _ [19, 20, 21, 22, 23, 18, 24, 25, 26, 27, 28, 29, 30, 31, 32, 33, 34, 35, 36, 37, 38, 39, 40, 41, 42, 43, 44, 45, 46, 47, 48, 49, 50, 51, 52, 53, 54, 55, 56, 57, 58, 59, 60, 61, 62, 63, 111, 112, 113, 114, 85, 86, 87, 88, 89, 90, 91, 92, 93, 94, 95, 96, 97, 98, 99, 100, 101, 102, 103, 104, 105, 106, 107, 108, 109, 110] (by decide +kernel) (by decide +kernel)
set_option maxRecDepth 20000 in
theorem gX11_by_X0_refresh : GoodIn wsX11_by (wsV RX11 179 RX0 yX0_refresh wsX0_refresh) := goodIn_app (goodIn_of _ (by decide +kernel)) ggX11_by_X0_refresh
set_option maxRecDepth 20000 in
theorem ggX11_by_X0_hoursBy : GoodIn wsX11_by wsX0_hoursBy := goodIn_r _ [67, 25, 26, 32, 33, 18, 34, 111, 112, 113, 114] (by decide +kernel) (by decide +kernel)
set_option maxRecDepth 20000 in
theorem gX11_by_X0_hoursBy : GoodIn wsX11_by (wsV RX11 182 RX0 yX0_hoursBy wsX0_hoursBy) := goodIn_app (goodIn_of _ (by decide +kernel)) ggX11_by_X0_hoursBy
set_option maxRecDepth 20000 in
theorem ggX11_by_X0_streetBy : GoodIn wsX11_by wsX0_streetBy := goodIn_r _ [71, 27, 32, 33, 18, 34, 111, 112, 113, 114] (by decide +kernel) (by decide +kernel)
set_option maxRecDepth 20000 in
theorem gX11_by_X0_streetBy : GoodIn wsX11_by (wsV RX11 186 RX0 yX0_streetBy wsX0_streetBy) := goodIn_app (goodIn_of _ (by decide +kernel)) ggX11_by_X0_streetBy
theorem dX11_by_0 : decode cX11_by 0 = .ok (.aload_n 0, 1) := by decide +kernel
theorem dX11_by_1 : decode cX11_by 1 = .ok (.iload_n 1, 1) := by decide +kernel
theorem dX11_by_2 : decode cX11_by 2 = .ok (.invokevirtual 170, 3) := by decide +kernel
theorem dX11_by_5 : decode cX11_by 5 = .ok (.ifCond .eq 30, 3) := by decide +kernel
theorem dX11_by_8 : decode cX11_by 8 = .ok (.aload_n 0, 1) := by decide +kernel
theorem dX11_by_9 : decode cX11_by 9 = .ok (.iload_n 2, 1) := by decide +kernel
theorem dX11_by_10 : decode cX11_by 10 = .ok (.invokevirtual 176, 3) := by decide +kernel
theorem dX11_by_13 : decode cX11_by 13 = .ok (.ifCond .eq 22, 3) := by decide +kernel
theorem dX11_by_16 : decode cX11_by 16 = .ok (.aload_n 0, 1) := by decide +kernel
theorem dX11_by_17 : decode cX11_by 17 = .ok (.iload_n 3, 1) := by decide +kernel
theorem dX11_by_18 : decode cX11_by 18 = .ok (.invokevirtual 176, 3) := by decide +kernel
theorem dX11_by_21 : decode cX11_by 21 = .ok (.ifCond .eq 14, 3) := by decide +kernel
theorem dX11_by_24 : decode cX11_by 24 = .ok (.iload 4, 2) := by decide +kernel
theorem dX11_by_26 : decode cX11_by 26 = .ok (.ifCond .lt 9, 3) := by decide +kernel
theorem dX11_by_29 : decode cX11_by 29 = .ok (.iload 4, 2) := by decide +kernel
theorem dX11_by_31 : decode cX11_by 31 = .ok (.iconst 1, 1) := by decide +kernel
theorem dX11_by_32 : decode cX11_by 32 = .ok (.if_icmp .le 5, 3) := by decide +kernel
theorem dX11_by_35 : decode cX11_by 35 = .ok (.iconst (-1), 1) := by decide +kernel
theorem dX11_by_36 : decode cX11_by 36 = .ok (.ireturn, 1) := by decide +kernel
theorem dX11_by_37 : decode cX11_by 37 = .ok (.aload_n 0, 1) := by decide +kernel
theorem dX11_by_38 : decode cX11_by 38 = .ok (.getfield 59, 3) := by decide +kernel
theorem dX11_by_41 : decode cX11_by 41 = .ok (.iload_n 1, 1) := by decide +kernel
theorem dX11_by_42 : decode cX11_by 42 = .ok (.invokevirtual 179, 3) := by decide +kernel
theorem dX11_by_45 : decode cX11_by 45 = .ok (.iload 4, 2) := by decide +kernel
theorem dX11_by_47 : decode cX11_by 47 = .ok (.ifCond .ne 16, 3) := by decide +kernel
theorem dX11_by_50 : decode cX11_by 50 = .ok (.aload_n 0, 1) := by decide +kernel
theorem dX11_by_51 : decode cX11_by 51 = .ok (.getfield 59, 3) := by decide +kernel
theorem dX11_by_54 : decode cX11_by 54 = .ok (.iload_n 1, 1) := by decide +kernel
theorem dX11_by_55 : decode cX11_by 55 = .ok (.iload_n 2, 1) := by decide +kernel
theorem dX11_by_56 : decode cX11_by 56 = .ok (.iload_n 3, 1) := by decide +kernel
theorem dX11_by_57 : decode cX11_by 57 = .ok (.invokevirtual 182, 3) := by decide +kernel
theorem dX11_by_60 : decode cX11_by 60 = .ok (.goto 13, 3) := by decide +kernel
theorem dX11_by_63 : decode cX11_by 63 = .ok (.aload_n 0, 1) := by decide +kernel
theorem dX11_by_64 : decode cX11_by 64 = .ok (.getfield 59, 3) := by decide +kernel
theorem dX11_by_67 : decode cX11_by 67 = .ok (.iload_n 1, 1) := by decide +kernel
theorem dX11_by_68 : decode cX11_by 68 = .ok (.iload_n 2, 1) := by decide +kernel
theorem dX11_by_69 : decode cX11_by 69 = .ok (.iload_n 3, 1) := by decide +kernel
theorem dX11_by_70 : decode cX11_by 70 = .ok (.invokevirtual 186, 3) := by decide +kernel
theorem dX11_by_73 : decode cX11_by 73 = .ok (.istore 5, 2) := by decide +kernel
theorem dX11_by_75 : decode cX11_by 75 = .ok (.iload 5, 2) := by decide +kernel
theorem dX11_by_77 : decode cX11_by 77 = .ok (.iconst (-1), 1) := by decide +kernel
theorem dX11_by_78 : decode cX11_by 78 = .ok (.if_icmp .ne 8, 3) := by decide +kernel
theorem dX11_by_81 : decode cX11_by 81 = .ok (.bipush (-2), 2) := by decide +kernel
theorem dX11_by_83 : decode cX11_by 83 = .ok (.goto 5, 3) := by decide +kernel
theorem dX11_by_86 : decode cX11_by 86 = .ok (.iload 5, 2) := by decide +kernel
theorem dX11_by_88 : decode cX11_by 88 = .ok (.ireturn, 1) := by decide +kernel
set_option maxRecDepth 20000 in
theorem ggX11_walker_X11_hasCorner : GoodIn wsX11_walker wsX11_hasCorner := goodIn_r _ [8, 1, 9, 10, 36, 37, 38, 39, 40, 41, 42, 43, 44, 45, 46, 47, 48, 49, 50, 51, 52, 53, 54, 55, 56, 57, 58, 59, 60, 61, 62, 63, 64, 65, 66, 67, 68, 69, 70, 71, 72, 73, 74] (by decide +kernel) (by decide +kernel)
set_option maxRecDepth 20000 in
theorem gX11_walker_X11_hasCorner : GoodIn wsX11_walker (wsV RX11 176 RX11 yX11_hasCorner wsX11_hasCorner) := goodIn_app (goodIn_of _ (by decide +kernel)) ggX11_walker_X11_hasCorner
set_option maxRecDepth 20000 in
theorem ggX11_walker_X11_hasMap : GoodIn wsX11_walker wsX11_hasMap := goodIn_r _ [14, 1, 15, 36, 37, 38, 39, 40, 41, 42, 43, 44, 45, 46, 47, 48, 49, 50, 51, 52, 53, 54, 55, 56, 57, 58, 59, 60, 61, 62] (by decide +kernel) (by decide +kernel)
set_option maxRecDepth 20000 in
theorem gX11_walker_X11_hasMap : GoodIn wsX11_walker (wsV RX11 170 RX11 yX11_hasMap wsX11_hasMap) := goodIn_app (goodIn_of _ (by decide +kernel)) ggX11_walker_X11_hasMap
set_option maxRecDepth 20000 in
theorem ggX11_walker_X11_hasRuleOrNone : GoodIn wsX11_walker wsX11_hasRuleOrNone := goodIn_r _ [19, 20, 36, 37, 38, 39, 40, 41, 42, 43, 44, 45, 46, 47, 48] (by decide +kernel) (by decide +kernel)
set_option maxRecDepth 20000 in
theorem gX11_walker_X11_hasRuleOrNone : GoodIn wsX11_walker (wsV RX11 189 RX11 yX11_hasRuleOrNone wsX11_hasRuleOrNone) := goodIn_app (goodIn_of _ (by decide +kernel)) ggX11_walker_X11_hasRuleOrNone
set_option maxRecDepth 20000 in
theorem ggX11_walker_X9_setOut : GoodIn wsX11_walker wsX9_setOut := goodIn_r _ [25, 26, 27, 28, 29, 30, 31, 32, 33, 34, 35, 75, 76, 77, 78, 79, 80, 81, 82, 83] (by decide +kernel) (by decide +kernel)
set_option maxRecDepth 20000 in
theorem gX11_walker_X9_setOut : GoodIn wsX11_walker (wsV RX11 199 RX9 yX9_setOut wsX9_setOut) := goodIn_app (goodIn_of _ (by decide +kernel)) ggX11_walker_X9_setOut
theorem dX11_walker_0 : decode cX11_walker 0 = .ok (.aload_n 0, 1) := by decide +kernel
theorem dX11_walker_1 : decode cX11_walker 1 = .ok (.iload_n 1, 1) := by decide +kernel
theorem dX11_walker_2 : decode cX11_walker 2 = .ok (.invokevirtual 176, 3) := by decide +kernel
theorem dX11_walker_5 : decode cX11_walker 5 = .ok (.ifCond .eq 19, 3) := by decide +kernel
theorem dX11_walker_8 : decode cX11_walker 8 = .ok (.aload_n 0, 1) := by decide +kernel
theorem dX11_walker_9 : decode cX11_walker 9 = .ok (.iload_n 2, 1) := by decide +kernel
theorem dX11_walker_10 : decode cX11_walker 10 = .ok (.invokevirtual 176, 3) := by decide +kernel
theorem dX11_walker_13 : decode cX11_walker 13 = .ok (.ifCond .eq 11, 3) := by decide +kernel
theorem dX11_walker_16 : decode cX11_walker 16 = .ok (.aload_n 0, 1) := by decide +kernel
theorem dX11_walker_17 : decode cX11_walker 17 = .ok (.iload_n 3, 1) := by decide +kernel
theorem dX11_walker_18 : decode cX11_walker 18 = .ok (.invokevirtual 170, 3) := by decide +kernel
theorem dX11_walker_21 : decode cX11_walker 21 = .ok (.ifCond .ne 6, 3) := by decide +kernel
theorem dX11_walker_24 : decode cX11_walker 24 = .ok (.bipush (-2), 2) := by decide +kernel
theorem dX11_walker_26 : decode cX11_walker 26 = .ok (.ireturn, 1) := by decide +kernel
theorem dX11_walker_27 : decode cX11_walker 27 = .ok (.aload_n 0, 1) := by decide +kernel
theorem dX11_walker_28 : decode cX11_walker 28 = .ok (.iload 4, 2) := by decide +kernel
theorem dX11_walker_30 : decode cX11_walker 30 = .ok (.invokevirtual 189, 3) := by decide +kernel
theorem dX11_walker_33 : decode cX11_walker 33 = .ok (.ifCond .eq 19, 3) := by decide +kernel
theorem dX11_walker_36 : decode cX11_walker 36 = .ok (.iload 5, 2) := by decide +kernel
theorem dX11_walker_38 : decode cX11_walker 38 = .ok (.ifCond .lt 14, 3) := by decide +kernel
theorem dX11_walker_41 : decode cX11_walker 41 = .ok (.aload_n 0, 1) := by decide +kernel
theorem dX11_walker_42 : decode cX11_walker 42 = .ok (.getfield 42, 3) := by decide +kernel
theorem dX11_walker_45 : decode cX11_walker 45 = .ok (.getfield 192, 3) := by decide +kernel
theorem dX11_walker_48 : decode cX11_walker 48 = .ok (.iconst 4, 1) := by decide +kernel
theorem dX11_walker_49 : decode cX11_walker 49 = .ok (.if_icmp .lt 6, 3) := by decide +kernel
theorem dX11_walker_52 : decode cX11_walker 52 = .ok (.bipush (-2), 2) := by decide +kernel
theorem dX11_walker_54 : decode cX11_walker 54 = .ok (.ireturn, 1) := by decide +kernel
theorem dX11_walker_55 : decode cX11_walker 55 = .ok (.aload_n 0, 1) := by decide +kernel
theorem dX11_walker_56 : decode cX11_walker 56 = .ok (.getfield 42, 3) := by decide +kernel
theorem dX11_walker_59 : decode cX11_walker 59 = .ok (.getfield 195, 3) := by decide +kernel
theorem dX11_walker_62 : decode cX11_walker 62 = .ok (.aload_n 0, 1) := by decide +kernel
theorem dX11_walker_63 : decode cX11_walker 63 = .ok (.getfield 42, 3) := by decide +kernel
theorem dX11_walker_66 : decode cX11_walker 66 = .ok (.getfield 192, 3) := by decide +kernel
theorem dX11_walker_69 : decode cX11_walker 69 = .ok (.aaload, 1) := by decide +kernel
theorem dX11_walker_70 : decode cX11_walker 70 = .ok (.astore 6, 2) := by decide +kernel
theorem dX11_walker_72 : decode cX11_walker 72 = .ok (.aload 6, 2) := by decide +kernel
theorem dX11_walker_74 : decode cX11_walker 74 = .ok (.iload_n 1, 1) := by decide +kernel
theorem dX11_walker_75 : decode cX11_walker 75 = .ok (.iload_n 2, 1) := by decide +kernel
theorem dX11_walker_76 : decode cX11_walker 76 = .ok (.iload_n 3, 1) := by decide +kernel
theorem dX11_walker_77 : decode cX11_walker 77 = .ok (.iload 4, 2) := by decide +kernel
theorem dX11_walker_79 : decode cX11_walker 79 = .ok (.iload 5, 2) := by decide +kernel
theorem dX11_walker_81 : decode cX11_walker 81 = .ok (.i2l, 1) := by decide +kernel
theorem dX11_walker_82 : decode cX11_walker 82 = .ok (.invokevirtual 199, 3) := by decide +kernel
theorem dX11_walker_85 : decode cX11_walker 85 = .ok (.aload_n 0, 1) := by decide +kernel
theorem dX11_walker_86 : decode cX11_walker 86 = .ok (.getfield 42, 3) := by decide +kernel
theorem dX11_walker_89 : decode cX11_walker 89 = .ok (.dup, 1) := by decide +kernel
theorem dX11_walker_90 : decode cX11_walker 90 = .ok (.getfield 192, 3) := by decide +kernel
theorem dX11_walker_93 : decode cX11_walker 93 = .ok (.iconst 1, 1) := by decide +kernel
theorem dX11_walker_94 : decode cX11_walker 94 = .ok (.iadd, 1) := by decide +kernel
theorem dX11_walker_95 : decode cX11_walker 95 = .ok (.putfield 192, 3) := by decide +kernel
theorem dX11_walker_98 : decode cX11_walker 98 = .ok (.aload_n 0, 1) := by decide +kernel
theorem dX11_walker_99 : decode cX11_walker 99 = .ok (.getfield 42, 3) := by decide +kernel
theorem dX11_walker_102 : decode cX11_walker 102 = .ok (.getfield 192, 3) := by decide +kernel
theorem dX11_walker_105 : decode cX11_walker 105 = .ok (.iconst 1, 1) := by decide +kernel
theorem dX11_walker_106 : decode cX11_walker 106 = .ok (.isub, 1) := by decide +kernel
theorem dX11_walker_107 : decode cX11_walker 107 = .ok (.ireturn, 1) := by decide +kernel
set_option maxRecDepth 20000 in
theorem ggX11_about_X11_hasWalker : GoodIn wsX11_about wsX11_hasWalker := goodIn_r _ [7, 1, 8, 22, 23, 24, 25, 26, 27, 28, 29, 30, 31, 32, 33, 34, 35, 36, 37, 38, 39, 40, 41, 42, 43, 44, 45, 46, 47, 48] (by decide +kernel) (by decide +kernel)
set_option maxRecDepth 20000 in
theorem gX11_about_X11_hasWalker : GoodIn wsX11_about (wsV RX11 205 RX11 yX11_hasWalker wsX11_hasWalker) := goodIn_app (goodIn_of _ (by decide +kernel)) ggX11_about_X11_hasWalker
set_option maxRecDepth 20000 in
theorem ggX11_about_X9_tell : GoodIn wsX11_about wsX9_tell := goodIn_r _ [13, 14, 15, 16, 17, 18, 19, 20, 21, 49, 50, 51, 52, 53, 54, 55, 56, 57] (by decide +kernel) (by decide +kernel)
set_option maxRecDepth 20000 in
theorem gX11_about_X9_tell : GoodIn wsX11_about (wsV RX11 208 RX9 yX9_tell wsX9_tell) := goodIn_app (goodIn_of _ (by decide +kernel)) ggX11_about_X9_tell
theorem dX11_about_0 : decode cX11_about 0 = .ok (.aload_n 0, 1) := by decide +kernel
theorem dX11_about_1 : decode cX11_about 1 = .ok (.iload_n 1, 1) := by decide +kernel
theorem dX11_about_2 : decode cX11_about 2 = .ok (.invokevirtual 205, 3) := by decide +kernel
theorem dX11_about_5 : decode cX11_about 5 = .ok (.ifCond .eq 13, 3) := by decide +kernel
theorem dX11_about_8 : decode cX11_about 8 = .ok (.iload_n 2, 1) := by decide +kernel
theorem dX11_about_9 : decode cX11_about 9 = .ok (.ifCond .lt 9, 3) := by decide +kernel
theorem dX11_about_12 : decode cX11_about 12 = .ok (.iload_n 2, 1) := by decide +kernel
theorem dX11_about_13 : decode cX11_about 13 = .ok (.bipush 7, 2) := by decide +kernel
theorem dX11_about_15 : decode cX11_about 15 = .ok (.if_icmp .le 5, 3) := by decide +kernel
theorem dX11_about_18 : decode cX11_about 18 = .ok (.iconst (-1), 1) := by decide +kernel
theorem dX11_about_19 : decode cX11_about 19 = .ok (.ireturn, 1) := by decide +kernel
theorem dX11_about_20 : decode cX11_about 20 = .ok (.aload_n 0, 1) := by decide +kernel
theorem dX11_about_21 : decode cX11_about 21 = .ok (.getfield 42, 3) := by decide +kernel
theorem dX11_about_24 : decode cX11_about 24 = .ok (.getfield 195, 3) := by decide +kernel
theorem dX11_about_27 : decode cX11_about 27 = .ok (.iload_n 1, 1) := by decide +kernel
theorem dX11_about_28 : decode cX11_about 28 = .ok (.aaload, 1) := by decide +kernel
theorem dX11_about_29 : decode cX11_about 29 = .ok (.iload_n 2, 1) := by decide +kernel
theorem dX11_about_30 : decode cX11_about 30 = .ok (.invokevirtual 208, 3) := by decide +kernel
theorem dX11_about_33 : decode cX11_about 33 = .ok (.ireturn, 1) := by decide +kernel
set_option maxRecDepth 20000 in
theorem ggX11_step_X11_hasWalker : GoodIn wsX11_step wsX11_hasWalker := goodIn_r _ [10, 2, 11, 218, 219, 220, 221, 222, 223, 224, 225, 226, 227, 228, 229, 230, 231, 232, 233, 234, 235, 236, 237, 238, 239, 240, 241, 242, 243, 244] (by decide +kernel) (by decide +kernel)
set_option maxRecDepth 20000 in
theorem gX11_step_X11_hasWalker : GoodIn wsX11_step (wsV RX11 205 RX11 yX11_hasWalker wsX11_hasWalker) := goodIn_app (goodIn_of _ (by decide +kernel)) ggX11_step_X11_hasWalker
set_option maxRecDepth 20000 in
theorem ggX11_step_X0_refreshAll : GoodIn wsX11_step wsX0_refreshAll := goodIn_r _ [16, 17, 18, 19, 20, 21, 15, 22, 23, 24, 25, 26, 27, 28, 29, 30, 31, 32, 33, 34, 35, 36, 37, 38, 39, 40, 41, 42, 43, 44, 45, 46, 47, 48, 49, 50, 51, 52, 53, 54, 55, 56, 57, 58, 59, 60, 61, 62, 63, 64, 65, 254, 255, 256, 257, 231, 232, 233, 234, 235, 236, 237, 238, 239, 240, 241, 242, 243, 244, 258, 259, 260, 261, 262, 263, 264, 265, 266, 267, 268, 269] (by decide +kernel) (by decide +kernel)
set_option maxRecDepth 20000 in
theorem gX11_step_X0_refreshAll : GoodIn wsX11_step (wsV RX11 212 RX0 yX0_refreshAll wsX0_refreshAll) := goodIn_app (goodIn_of _ (by decide +kernel)) ggX11_step_X0_refreshAll
set_option maxRecDepth 20000 in
theorem ggX11_step_X1_takeSteps : GoodIn wsX11_step wsX1_takeSteps := goodIn_r _ [70, 71, 72, 73, 69, 74, 75, 76, 77, 78, 79, 80, 81, 82, 83, 84, 85, 86, 87, 88, 89, 90, 91, 92, 93, 94, 95, 96, 97, 98, 99, 100, 101, 102, 103, 104, 105, 106, 107, 108, 109, 110, 111, 112, 113, 114, 115, 116, 117, 118, 119, 120, 121, 122, 15, 123, 124, 125, 126, 127, 128, 30, 34, 35, 36, 129, 130, 131, 132, 133, 134, 135, 45, 136, 52, 137, 138, 139, 140, 141, 142, 143, 144, 145, 146, 147, 148, 149, 150, 151, 152, 153, 154, 155, 156, 28, 29, 157, 158, 159, 160, 161, 162, 163, 164, 165, 166, 167, 168, 169, 170, 171, 172, 173, 174, 175, 176, 177, 178, 179, 180, 181, 182, 183, 184, 185, 186, 187, 188, 189, 190, 191, 192, 193, 194, 195, 196, 197, 198, 199, 200, 201, 202, 203, 204, 205, 206, 207, 208, 209, 210, 211, 212, 213, 214, 215, 216, 217, 49, 50, 51, 245, 246, 247, 248, 249, 250, 251, 252, 253, 270, 271, 272, 273, 274, 275, 276, 277, 278, 279, 280, 281, 282, 283, 284, 285, 231, 232, 233, 234, 235, 236, 237, 238, 239, 240, 241, 242, 243, 244, 258, 259, 260, 261, 262, 263, 264, 265, 266, 267, 268, 269, 254, 255, 256, 257] (by decide +kernel) (by decide +kernel)
set_option maxRecDepth 20000 in
theorem gX11_step_X1_takeSteps : GoodIn wsX11_step (wsV RX11 215 RX1 yX1_takeSteps wsX1_takeSteps) := goodIn_app (goodIn_of _ (by decide +kernel)) ggX11_step_X1_takeSteps
theorem dX11_step_0 : decode cX11_step 0 = .ok (.aload_n 0, 1) := by decide +kernel
theorem dX11_step_1 : decode cX11_step 1 = .ok (.iload_n 1, 1) := by decide +kernel
theorem dX11_step_2 : decode cX11_step 2 = .ok (.invokevirtual 205, 3) := by decide +kernel
theorem dX11_step_5 : decode cX11_step 5 = .ok (.ifCond .eq 15, 3) := by decide +kernel
theorem dX11_step_8 : decode cX11_step 8 = .ok (.iload_n 2, 1) := by decide +kernel
theorem dX11_step_9 : decode cX11_step 9 = .ok (.iconst 1, 1) := by decide +kernel
theorem dX11_step_10 : decode cX11_step 10 = .ok (.if_icmp .lt 10, 3) := by decide +kernel
theorem dX11_step_13 : decode cX11_step 13 = .ok (.iload_n 2, 1) := by decide +kernel
theorem dX11_step_14 : decode cX11_step 14 = .ok (.sipush 200, 3) := by decide +kernel
theorem dX11_step_17 : decode cX11_step 17 = .ok (.if_icmp .le 5, 3) := by decide +kernel
theorem dX11_step_20 : decode cX11_step 20 = .ok (.iconst (-1), 1) := by decide +kernel
theorem dX11_step_21 : decode cX11_step 21 = .ok (.ireturn, 1) := by decide +kernel
theorem dX11_step_22 : decode cX11_step 22 = .ok (.aload_n 0, 1) := by decide +kernel
theorem dX11_step_23 : decode cX11_step 23 = .ok (.getfield 59, 3) := by decide +kernel
theorem dX11_step_26 : decode cX11_step 26 = .ok (.invokevirtual 212, 3) := by decide +kernel
theorem dX11_step_29 : decode cX11_step 29 = .ok (.aload_n 0, 1) := by decide +kernel
theorem dX11_step_30 : decode cX11_step 30 = .ok (.getfield 42, 3) := by decide +kernel
theorem dX11_step_33 : decode cX11_step 33 = .ok (.getfield 195, 3) := by decide +kernel
theorem dX11_step_36 : decode cX11_step 36 = .ok (.iload_n 1, 1) := by decide +kernel
theorem dX11_step_37 : decode cX11_step 37 = .ok (.aaload, 1) := by decide +kernel
theorem dX11_step_38 : decode cX11_step 38 = .ok (.astore_n 3, 1) := by decide +kernel
theorem dX11_step_39 : decode cX11_step 39 = .ok (.aload_n 0, 1) := by decide +kernel
theorem dX11_step_40 : decode cX11_step 40 = .ok (.getfield 68, 3) := by decide +kernel
theorem dX11_step_43 : decode cX11_step 43 = .ok (.aload_n 3, 1) := by decide +kernel
theorem dX11_step_44 : decode cX11_step 44 = .ok (.iload_n 2, 1) := by decide +kernel
theorem dX11_step_45 : decode cX11_step 45 = .ok (.invokevirtual 215, 3) := by decide +kernel
theorem dX11_step_48 : decode cX11_step 48 = .ok (.pop, 1) := by decide +kernel
theorem dX11_step_49 : decode cX11_step 49 = .ok (.aload_n 3, 1) := by decide +kernel
theorem dX11_step_50 : decode cX11_step 50 = .ok (.getfield 219, 3) := by decide +kernel
theorem dX11_step_53 : decode cX11_step 53 = .ok (.ireturn, 1) := by decide +kernel
set_option maxRecDepth 20000 in
theorem ggX11_soonest_X11_hasCorner : GoodIn wsX11_soonest wsX11_hasCorner := goodIn_r _ [9, 2, 3, 10, 66, 67, 68, 69, 70, 71, 72, 73, 74, 75, 76, 77, 78, 79, 80, 81, 82, 83, 84, 85, 86, 87, 88, 89, 90, 91, 92, 93, 94, 95, 96, 97, 98, 99, 100, 101, 102, 103, 104] (by decide +kernel) (by decide +kernel)
set_option maxRecDepth 20000 in
theorem gX11_soonest_X11_hasCorner : GoodIn wsX11_soonest (wsV RX11 176 RX11 yX11_hasCorner wsX11_hasCorner) := goodIn_app (goodIn_of _ (by decide +kernel)) ggX11_soonest_X11_hasCorner
set_option maxRecDepth 20000 in
theorem ggX11_soonest_X11_isAskedHour : GoodIn wsX11_soonest wsX11_isAskedHour := goodIn_r _ [13, 14] (by decide +kernel) (by decide +kernel)
set_option maxRecDepth 20000 in
theorem gX11_soonest_X11_isAskedHour : GoodIn wsX11_soonest (va_wsS RX11 222 yX11_isAskedHour wsX11_isAskedHour) := goodIn_app (goodIn_of _ (by decide +kernel)) ggX11_soonest_X11_isAskedHour
set_option maxRecDepth 20000 in
theorem ggX11_soonest_X4_firstArrival : GoodIn wsX11_soonest wsX4_firstArrival := goodIn_r _ [19, 20, 21, 22, 23, 24, 25, 26, 18, 27, 28, 29, 30, 31, 32, 33, 34, 35, 36, 37, 38, 39, 40, 41, 42, 43, 44, 45, 46, 47, 48, 49, 50, 51, 52, 53, 54, 55, 56, 57, 58, 59, 60, 61, 62, 63, 64, 65, 105, 106, 107, 108, 93, 94, 95, 96, 97, 98, 99, 100, 101, 102, 103, 104] (by decide +kernel) (by decide +kernel)
set_option maxRecDepth 20000 in
theorem gX11_soonest_X4_firstArrival : GoodIn wsX11_soonest (wsV RX11 225 RX4 yX4_firstArrival wsX4_firstArrival) := goodIn_app (goodIn_of _ (by decide +kernel)) ggX11_soonest_X4_firstArrival
theorem dX11_soonest_0 : decode cX11_soonest 0 = .ok (.aload_n 0, 1) := by decide +kernel
theorem dX11_soonest_1 : decode cX11_soonest 1 = .ok (.iload_n 1, 1) := by decide +kernel
theorem dX11_soonest_2 : decode cX11_soonest 2 = .ok (.invokevirtual 176, 3) := by decide +kernel
theorem dX11_soonest_5 : decode cX11_soonest 5 = .ok (.ifCond .eq 18, 3) := by decide +kernel
theorem dX11_soonest_8 : decode cX11_soonest 8 = .ok (.aload_n 0, 1) := by decide +kernel
theorem dX11_soonest_9 : decode cX11_soonest 9 = .ok (.iload_n 2, 1) := by decide +kernel
theorem dX11_soonest_10 : decode cX11_soonest 10 = .ok (.invokevirtual 176, 3) := by decide +kernel
theorem dX11_soonest_13 : decode cX11_soonest 13 = .ok (.ifCond .eq 10, 3) := by decide +kernel
theorem dX11_soonest_16 : decode cX11_soonest 16 = .ok (.iload_n 3, 1) := by decide +kernel
theorem dX11_soonest_17 : decode cX11_soonest 17 = .ok (.invokestatic 222, 3) := by decide +kernel
theorem dX11_soonest_20 : decode cX11_soonest 20 = .ok (.ifCond .ne 5, 3) := by decide +kernel
theorem dX11_soonest_23 : decode cX11_soonest 23 = .ok (.iconst (-1), 1) := by decide +kernel
theorem dX11_soonest_24 : decode cX11_soonest 24 = .ok (.ireturn, 1) := by decide +kernel
theorem dX11_soonest_25 : decode cX11_soonest 25 = .ok (.aload_n 0, 1) := by decide +kernel
theorem dX11_soonest_26 : decode cX11_soonest 26 = .ok (.getfield 84, 3) := by decide +kernel
theorem dX11_soonest_29 : decode cX11_soonest 29 = .ok (.aload_n 0, 1) := by decide +kernel
theorem dX11_soonest_30 : decode cX11_soonest 30 = .ok (.getfield 42, 3) := by decide +kernel
theorem dX11_soonest_33 : decode cX11_soonest 33 = .ok (.getfield 120, 3) := by decide +kernel
theorem dX11_soonest_36 : decode cX11_soonest 36 = .ok (.getfield 123, 3) := by decide +kernel
theorem dX11_soonest_39 : decode cX11_soonest 39 = .ok (.iload_n 1, 1) := by decide +kernel
theorem dX11_soonest_40 : decode cX11_soonest 40 = .ok (.iload_n 2, 1) := by decide +kernel
theorem dX11_soonest_41 : decode cX11_soonest 41 = .ok (.iload_n 3, 1) := by decide +kernel
theorem dX11_soonest_42 : decode cX11_soonest 42 = .ok (.invokevirtual 225, 3) := by decide +kernel
theorem dX11_soonest_45 : decode cX11_soonest 45 = .ok (.istore 4, 2) := by decide +kernel
theorem dX11_soonest_47 : decode cX11_soonest 47 = .ok (.iload 4, 2) := by decide +kernel
theorem dX11_soonest_49 : decode cX11_soonest 49 = .ok (.iconst (-1), 1) := by decide +kernel
theorem dX11_soonest_50 : decode cX11_soonest 50 = .ok (.if_icmp .ne 8, 3) := by decide +kernel
theorem dX11_soonest_53 : decode cX11_soonest 53 = .ok (.bipush (-2), 2) := by decide +kernel
theorem dX11_soonest_55 : decode cX11_soonest 55 = .ok (.goto 5, 3) := by decide +kernel
theorem dX11_soonest_58 : decode cX11_soonest 58 = .ok (.iload 4, 2) := by decide +kernel
theorem dX11_soonest_60 : decode cX11_soonest 60 = .ok (.ireturn, 1) := by decide +kernel
set_option maxRecDepth 20000 in
theorem ggX11_way_X11_hasCorner : GoodIn wsX11_way wsX11_hasCorner := goodIn_r _ [6, 7, 8, 9, 94, 95, 96, 97, 98, 99, 100, 101, 102, 103, 104, 105, 106, 107, 108, 109, 110, 111, 112, 113, 114, 115, 116, 117, 118, 119, 120, 121, 122, 123, 124, 125, 126, 127, 128, 129, 130, 131, 132] (by decide +kernel) (by decide +kernel)
set_option maxRecDepth 20000 in
theorem gX11_way_X11_hasCorner : GoodIn wsX11_way (wsV RX11 176 RX11 yX11_hasCorner wsX11_hasCorner) := goodIn_app (goodIn_of _ (by decide +kernel)) ggX11_way_X11_hasCorner
set_option maxRecDepth 20000 in
theorem ggX11_way_X11_isAskedHour : GoodIn wsX11_way wsX11_isAskedHour := goodIn_r _ [12, 13] (by decide +kernel) (by decide +kernel)
set_option maxRecDepth 20000 in
theorem gX11_way_X11_isAskedHour : GoodIn wsX11_way (va_wsS RX11 222 yX11_isAskedHour wsX11_isAskedHour) := goodIn_app (goodIn_of _ (by decide +kernel)) ggX11_way_X11_isAskedHour
set_option maxRecDepth 20000 in
theorem ggX11_way_X4_streetOnWay : GoodIn wsX11_way wsX4_streetOnWay := goodIn_r _ [18, 19, 20, 21, 22, 23, 24, 17, 25, 26, 27, 28, 29, 30, 31, 32, 33, 34, 35, 36, 37, 38, 39, 40, 41, 42, 43, 44, 45, 46, 47, 48, 49, 50, 51, 52, 53, 54, 55, 56, 57, 58, 59, 60, 61, 62, 63, 64, 65, 66, 67, 68, 69, 70, 71, 72, 73, 74, 75, 76, 77, 78, 79, 80, 81, 82, 83, 84, 85, 86, 87, 88, 89, 90, 91, 92, 93, 133, 134, 135, 136, 121, 122, 123, 124, 125, 126, 127, 128, 129, 130, 131, 132] (by decide +kernel) (by decide +kernel)
set_option maxRecDepth 20000 in
theorem gX11_way_X4_streetOnWay : GoodIn wsX11_way (wsV RX11 229 RX4 yX4_streetOnWay wsX4_streetOnWay) := goodIn_app (goodIn_of _ (by decide +kernel)) ggX11_way_X4_streetOnWay
theorem dX11_way_0 : decode cX11_way 0 = .ok (.aload_n 0, 1) := by decide +kernel
theorem dX11_way_1 : decode cX11_way 1 = .ok (.iload_n 1, 1) := by decide +kernel
theorem dX11_way_2 : decode cX11_way 2 = .ok (.invokevirtual 176, 3) := by decide +kernel
theorem dX11_way_5 : decode cX11_way 5 = .ok (.ifCond .eq 23, 3) := by decide +kernel
theorem dX11_way_8 : decode cX11_way 8 = .ok (.aload_n 0, 1) := by decide +kernel
theorem dX11_way_9 : decode cX11_way 9 = .ok (.iload_n 2, 1) := by decide +kernel
theorem dX11_way_10 : decode cX11_way 10 = .ok (.invokevirtual 176, 3) := by decide +kernel
theorem dX11_way_13 : decode cX11_way 13 = .ok (.ifCond .eq 15, 3) := by decide +kernel
theorem dX11_way_16 : decode cX11_way 16 = .ok (.iload_n 3, 1) := by decide +kernel
theorem dX11_way_17 : decode cX11_way 17 = .ok (.invokestatic 222, 3) := by decide +kernel
theorem dX11_way_20 : decode cX11_way 20 = .ok (.ifCond .eq 8, 3) := by decide +kernel
theorem dX11_way_23 : decode cX11_way 23 = .ok (.iload 4, 2) := by decide +kernel
theorem dX11_way_25 : decode cX11_way 25 = .ok (.ifCond .ge 5, 3) := by decide +kernel
theorem dX11_way_28 : decode cX11_way 28 = .ok (.iconst (-1), 1) := by decide +kernel
theorem dX11_way_29 : decode cX11_way 29 = .ok (.ireturn, 1) := by decide +kernel
theorem dX11_way_30 : decode cX11_way 30 = .ok (.aload_n 0, 1) := by decide +kernel
theorem dX11_way_31 : decode cX11_way 31 = .ok (.getfield 84, 3) := by decide +kernel
theorem dX11_way_34 : decode cX11_way 34 = .ok (.iload_n 1, 1) := by decide +kernel
theorem dX11_way_35 : decode cX11_way 35 = .ok (.iload_n 2, 1) := by decide +kernel
theorem dX11_way_36 : decode cX11_way 36 = .ok (.iload_n 3, 1) := by decide +kernel
theorem dX11_way_37 : decode cX11_way 37 = .ok (.iload 4, 2) := by decide +kernel
theorem dX11_way_39 : decode cX11_way 39 = .ok (.invokevirtual 229, 3) := by decide +kernel
theorem dX11_way_42 : decode cX11_way 42 = .ok (.istore 5, 2) := by decide +kernel
theorem dX11_way_44 : decode cX11_way 44 = .ok (.iload 5, 2) := by decide +kernel
theorem dX11_way_46 : decode cX11_way 46 = .ok (.iconst (-1), 1) := by decide +kernel
theorem dX11_way_47 : decode cX11_way 47 = .ok (.if_icmp .ne 8, 3) := by decide +kernel
theorem dX11_way_50 : decode cX11_way 50 = .ok (.bipush (-2), 2) := by decide +kernel
theorem dX11_way_52 : decode cX11_way 52 = .ok (.goto 5, 3) := by decide +kernel
theorem dX11_way_55 : decode cX11_way 55 = .ok (.iload 5, 2) := by decide +kernel
theorem dX11_way_57 : decode cX11_way 57 = .ok (.ireturn, 1) := by decide +kernel
set_option maxRecDepth 20000 in
theorem ggX11_comes_X11_hasWalker : GoodIn wsX11_comes wsX11_hasWalker := goodIn_r _ [9, 3, 10, 241, 242, 243, 244, 245, 246, 247, 248, 249, 250, 251, 252, 253, 254, 255, 256, 257, 258, 259, 260, 261, 262, 263, 264, 265, 266, 267] (by decide +kernel) (by decide +kernel)
set_option maxRecDepth 20000 in
theorem gX11_comes_X11_hasWalker : GoodIn wsX11_comes (wsV RX11 205 RX11 yX11_hasWalker wsX11_hasWalker) := goodIn_app (goodIn_of _ (by decide +kernel)) ggX11_comes_X11_hasWalker
set_option maxRecDepth 20000 in
theorem ggX11_comes_X0_refreshAll : GoodIn wsX11_comes wsX0_refreshAll := goodIn_r _ [15, 16, 17, 18, 19, 20, 14, 21, 22, 23, 24, 25, 26, 27, 28, 29, 30, 31, 32, 33, 34, 35, 36, 37, 38, 39, 40, 41, 42, 43, 44, 45, 46, 47, 48, 49, 50, 51, 52, 53, 54, 55, 56, 57, 58, 59, 60, 61, 62, 63, 64, 268, 269, 270, 271, 254, 255, 256, 257, 258, 259, 260, 261, 262, 263, 264, 265, 266, 267, 272, 273, 274, 275, 276, 277, 278, 279, 280, 281, 282, 283] (by decide +kernel) (by decide +kernel)
set_option maxRecDepth 20000 in
theorem gX11_comes_X0_refreshAll : GoodIn wsX11_comes (wsV RX11 212 RX0 yX0_refreshAll wsX0_refreshAll) := goodIn_app (goodIn_of _ (by decide +kernel)) ggX11_comes_X0_refreshAll
set_option maxRecDepth 20000 in
theorem ggX11_comes_X8_tellComing : GoodIn wsX11_comes wsX8_tellComing := goodIn_r _ [69, 70, 71, 72, 73, 74, 75, 76, 77, 78, 79, 80, 81, 82, 83, 84, 85, 86, 87, 88, 89, 90, 91, 92, 93, 94, 95, 96, 97, 98, 99, 100, 101, 102, 103, 104, 105, 106, 107, 108, 109, 110, 111, 112, 113, 114, 115, 116, 117, 118, 119, 120, 121, 122, 123, 124, 125, 126, 127, 128, 129, 130, 131, 132, 133, 134, 135, 136, 137, 138, 139, 140, 141, 142, 143, 144, 14, 145, 146, 147, 148, 149, 150, 29, 33, 34, 35, 151, 152, 153, 154, 155, 156, 157, 44, 158, 51, 159, 160, 161, 162, 163, 164, 165, 166, 167, 168, 169, 170, 171, 172, 173, 174, 175, 176, 177, 178, 27, 28, 179, 180, 181, 182, 183, 184, 185, 186, 187, 188, 189, 190, 191, 192, 193, 194, 195, 196, 197, 198, 199, 200, 201, 202, 203, 204, 205, 206, 207, 208, 209, 210, 211, 212, 213, 214, 215, 216, 217, 218, 219, 220, 221, 222, 223, 224, 225, 226, 227, 228, 229, 230, 231, 232, 233, 234, 235, 236, 237, 238, 239, 48, 49, 50, 240, 284, 285, 286, 287, 288, 289, 290, 291, 292, 293, 294, 295, 296, 297, 298, 299, 300, 301, 302, 303, 304, 305, 306, 307, 308, 309, 310, 311, 312, 313, 314, 315, 316, 254, 255, 256, 257, 258, 259, 260, 261, 262, 263, 264, 265, 266, 267, 272, 273, 274, 275, 276, 277, 278, 279, 280, 281, 282, 283, 268, 269, 270, 271] (by decide +kernel) (by decide +kernel)
set_option maxRecDepth 20000 in
theorem gX11_comes_X8_tellComing : GoodIn wsX11_comes (wsV RX11 232 RX8 yX8_tellComing wsX8_tellComing) := goodIn_app (goodIn_of _ (by decide +kernel)) ggX11_comes_X8_tellComing
theorem dX11_comes_0 : decode cX11_comes 0 = .ok (.aload_n 0, 1) := by decide +kernel
theorem dX11_comes_1 : decode cX11_comes 1 = .ok (.iload_n 1, 1) := by decide +kernel
theorem dX11_comes_2 : decode cX11_comes 2 = .ok (.invokevirtual 205, 3) := by decide +kernel
theorem dX11_comes_5 : decode cX11_comes 5 = .ok (.ifCond .eq 23, 3) := by decide +kernel
theorem dX11_comes_8 : decode cX11_comes 8 = .ok (.iload_n 2, 1) := by decide +kernel
theorem dX11_comes_9 : decode cX11_comes 9 = .ok (.ifCond .lt 19, 3) := by decide +kernel
theorem dX11_comes_12 : decode cX11_comes 12 = .ok (.iload_n 2, 1) := by decide +kernel
theorem dX11_comes_13 : decode cX11_comes 13 = .ok (.sipush 400, 3) := by decide +kernel
theorem dX11_comes_16 : decode cX11_comes 16 = .ok (.if_icmp .gt 12, 3) := by decide +kernel
theorem dX11_comes_19 : decode cX11_comes 19 = .ok (.iload_n 3, 1) := by decide +kernel
theorem dX11_comes_20 : decode cX11_comes 20 = .ok (.ifCond .lt 8, 3) := by decide +kernel
theorem dX11_comes_23 : decode cX11_comes 23 = .ok (.iload_n 3, 1) := by decide +kernel
theorem dX11_comes_24 : decode cX11_comes 24 = .ok (.iconst 2, 1) := by decide +kernel
theorem dX11_comes_25 : decode cX11_comes 25 = .ok (.if_icmp .le 5, 3) := by decide +kernel
theorem dX11_comes_28 : decode cX11_comes 28 = .ok (.iconst (-1), 1) := by decide +kernel
theorem dX11_comes_29 : decode cX11_comes 29 = .ok (.ireturn, 1) := by decide +kernel
theorem dX11_comes_30 : decode cX11_comes 30 = .ok (.aload_n 0, 1) := by decide +kernel
theorem dX11_comes_31 : decode cX11_comes 31 = .ok (.getfield 59, 3) := by decide +kernel
theorem dX11_comes_34 : decode cX11_comes 34 = .ok (.invokevirtual 212, 3) := by decide +kernel
theorem dX11_comes_37 : decode cX11_comes 37 = .ok (.aload_n 0, 1) := by decide +kernel
theorem dX11_comes_38 : decode cX11_comes 38 = .ok (.getfield 77, 3) := by decide +kernel
theorem dX11_comes_41 : decode cX11_comes 41 = .ok (.aload_n 0, 1) := by decide +kernel
theorem dX11_comes_42 : decode cX11_comes 42 = .ok (.getfield 42, 3) := by decide +kernel
theorem dX11_comes_45 : decode cX11_comes 45 = .ok (.getfield 195, 3) := by decide +kernel
theorem dX11_comes_48 : decode cX11_comes 48 = .ok (.iload_n 1, 1) := by decide +kernel
theorem dX11_comes_49 : decode cX11_comes 49 = .ok (.aaload, 1) := by decide +kernel
theorem dX11_comes_50 : decode cX11_comes 50 = .ok (.iload_n 2, 1) := by decide +kernel
theorem dX11_comes_51 : decode cX11_comes 51 = .ok (.iload_n 3, 1) := by decide +kernel
theorem dX11_comes_52 : decode cX11_comes 52 = .ok (.invokevirtual 232, 3) := by decide +kernel
theorem dX11_comes_55 : decode cX11_comes 55 = .ok (.ireturn, 1) := by decide +kernel
set_option maxRecDepth 20000 in
theorem ggX11_round_X11_hasWalker : GoodIn wsX11_round wsX11_hasWalker := goodIn_r _ [9, 3, 10, 249, 250, 251, 252, 253, 254, 255, 256, 257, 258, 259, 260, 261, 262, 263, 264, 265, 266, 267, 268, 269, 270, 271, 272, 273, 274, 275] (by decide +kernel) (by decide +kernel)
set_option maxRecDepth 20000 in
theorem gX11_round_X11_hasWalker : GoodIn wsX11_round (wsV RX11 205 RX11 yX11_hasWalker wsX11_hasWalker) := goodIn_app (goodIn_of _ (by decide +kernel)) ggX11_round_X11_hasWalker
set_option maxRecDepth 20000 in
theorem ggX11_round_X0_refreshAll : GoodIn wsX11_round wsX0_refreshAll := goodIn_r _ [15, 16, 17, 18, 19, 20, 14, 21, 22, 23, 24, 25, 26, 27, 28, 29, 30, 31, 32, 33, 34, 35, 36, 37, 38, 39, 40, 41, 42, 43, 44, 45, 46, 47, 48, 49, 50, 51, 52, 53, 54, 55, 56, 57, 58, 59, 60, 61, 62, 63, 64, 276, 277, 278, 279, 262, 263, 264, 265, 266, 267, 268, 269, 270, 271, 272, 273, 274, 275, 280, 281, 282, 283, 284, 285, 286, 287, 288, 289, 290, 291] (by decide +kernel) (by decide +kernel)
set_option maxRecDepth 20000 in
theorem gX11_round_X0_refreshAll : GoodIn wsX11_round (wsV RX11 212 RX0 yX0_refreshAll wsX0_refreshAll) := goodIn_app (goodIn_of _ (by decide +kernel)) ggX11_round_X0_refreshAll
set_option maxRecDepth 20000 in
theorem ggX11_round_X8_tellCircle : GoodIn wsX11_round wsX8_tellCircle := goodIn_r _ [69, 70, 71, 72, 73, 74, 75, 76, 77, 78, 79, 80, 81, 82, 83, 84, 85, 86, 87, 88, 89, 90, 91, 92, 93, 94, 68, 95, 96, 97, 98, 99, 100, 101, 102, 103, 104, 105, 106, 107, 108, 109, 110, 111, 112, 113, 114, 115, 116, 117, 118, 119, 120, 121, 122, 123, 124, 125, 126, 127, 128, 129, 130, 131, 132, 133, 134, 135, 136, 137, 138, 139, 140, 141, 142, 143, 144, 145, 146, 147, 148, 149, 150, 151, 152, 14, 153, 154, 155, 156, 157, 158, 29, 33, 34, 35, 159, 160, 161, 162, 163, 164, 165, 44, 166, 51, 167, 168, 169, 170, 171, 172, 173, 174, 175, 176, 177, 178, 179, 180, 181, 182, 183, 184, 185, 186, 27, 28, 187, 188, 189, 190, 191, 192, 193, 194, 195, 196, 197, 198, 199, 200, 201, 202, 203, 204, 205, 206, 207, 208, 209, 210, 211, 212, 213, 214, 215, 216, 217, 218, 219, 220, 221, 222, 223, 224, 225, 226, 227, 228, 229, 230, 231, 232, 233, 234, 235, 236, 237, 238, 239, 240, 241, 242, 243, 244, 245, 246, 247, 48, 49, 50, 248, 292, 293, 294, 295, 296, 297, 298, 299, 300, 301, 302, 303, 304, 305, 306, 307, 308, 309, 310, 311, 312, 313, 314, 315, 316, 317, 318, 319, 320, 321, 322, 323, 324, 262, 263, 264, 265, 266, 267, 268, 269, 270, 271, 272, 273, 274, 275, 280, 281, 282, 283, 284, 285, 286, 287, 288, 289, 290, 291, 276, 277, 278, 279] (by decide +kernel) (by decide +kernel)
set_option maxRecDepth 20000 in
theorem gX11_round_X8_tellCircle : GoodIn wsX11_round (wsV RX11 236 RX8 yX8_tellCircle wsX8_tellCircle) := goodIn_app (goodIn_of _ (by decide +kernel)) ggX11_round_X8_tellCircle
theorem dX11_round_0 : decode cX11_round 0 = .ok (.aload_n 0, 1) := by decide +kernel
theorem dX11_round_1 : decode cX11_round 1 = .ok (.iload_n 1, 1) := by decide +kernel
theorem dX11_round_2 : decode cX11_round 2 = .ok (.invokevirtual 205, 3) := by decide +kernel
theorem dX11_round_5 : decode cX11_round 5 = .ok (.ifCond .eq 12, 3) := by decide +kernel
theorem dX11_round_8 : decode cX11_round 8 = .ok (.iload_n 2, 1) := by decide +kernel
theorem dX11_round_9 : decode cX11_round 9 = .ok (.ifCond .lt 8, 3) := by decide +kernel
theorem dX11_round_12 : decode cX11_round 12 = .ok (.iload_n 2, 1) := by decide +kernel
theorem dX11_round_13 : decode cX11_round 13 = .ok (.iconst 1, 1) := by decide +kernel
theorem dX11_round_14 : decode cX11_round 14 = .ok (.if_icmp .le 5, 3) := by decide +kernel
theorem dX11_round_17 : decode cX11_round 17 = .ok (.iconst (-1), 1) := by decide +kernel
theorem dX11_round_18 : decode cX11_round 18 = .ok (.ireturn, 1) := by decide +kernel
theorem dX11_round_19 : decode cX11_round 19 = .ok (.aload_n 0, 1) := by decide +kernel
theorem dX11_round_20 : decode cX11_round 20 = .ok (.getfield 59, 3) := by decide +kernel
theorem dX11_round_23 : decode cX11_round 23 = .ok (.invokevirtual 212, 3) := by decide +kernel
theorem dX11_round_26 : decode cX11_round 26 = .ok (.aload_n 0, 1) := by decide +kernel
theorem dX11_round_27 : decode cX11_round 27 = .ok (.getfield 77, 3) := by decide +kernel
theorem dX11_round_30 : decode cX11_round 30 = .ok (.aload_n 0, 1) := by decide +kernel
theorem dX11_round_31 : decode cX11_round 31 = .ok (.getfield 42, 3) := by decide +kernel
theorem dX11_round_34 : decode cX11_round 34 = .ok (.getfield 195, 3) := by decide +kernel
theorem dX11_round_37 : decode cX11_round 37 = .ok (.iload_n 1, 1) := by decide +kernel
theorem dX11_round_38 : decode cX11_round 38 = .ok (.aaload, 1) := by decide +kernel
theorem dX11_round_39 : decode cX11_round 39 = .ok (.iload_n 2, 1) := by decide +kernel
theorem dX11_round_40 : decode cX11_round 40 = .ok (.invokevirtual 236, 3) := by decide +kernel
theorem dX11_round_43 : decode cX11_round 43 = .ok (.ireturn, 1) := by decide +kernel
set_option maxRecDepth 20000 in
theorem ggX11_questions_X11_hasWalker : GoodIn wsX11_questions wsX11_hasWalker := goodIn_r _ [9, 3, 10, 140, 141, 142, 143, 144, 145, 146, 147, 148, 149, 150, 151, 152, 153, 154, 155, 156, 157, 158, 159, 160, 161, 162, 163, 164, 165, 166] (by decide +kernel) (by decide +kernel)
set_option maxRecDepth 20000 in
theorem gX11_questions_X11_hasWalker : GoodIn wsX11_questions (wsV RX11 205 RX11 yX11_hasWalker wsX11_hasWalker) := goodIn_app (goodIn_of _ (by decide +kernel)) ggX11_questions_X11_hasWalker
set_option maxRecDepth 20000 in
theorem ggX11_questions_X0_refreshAll : GoodIn wsX11_questions wsX0_refreshAll := goodIn_r _ [15, 16, 17, 18, 19, 20, 14, 21, 22, 23, 24, 25, 26, 27, 28, 29, 30, 31, 32, 33, 34, 35, 36, 37, 38, 39, 40, 41, 42, 43, 44, 45, 46, 47, 48, 49, 50, 51, 52, 53, 54, 55, 56, 57, 58, 59, 60, 61, 62, 63, 64, 167, 168, 169, 170, 153, 154, 155, 156, 157, 158, 159, 160, 161, 162, 163, 164, 165, 166, 171, 172, 173, 174, 175, 176, 177, 178, 179, 180, 181, 182] (by decide +kernel) (by decide +kernel)
set_option maxRecDepth 20000 in
theorem gX11_questions_X0_refreshAll : GoodIn wsX11_questions (wsV RX11 212 RX0 yX0_refreshAll wsX0_refreshAll) := goodIn_app (goodIn_of _ (by decide +kernel)) ggX11_questions_X0_refreshAll
set_option maxRecDepth 20000 in
theorem ggX11_questions_X8_fewestQuestions : GoodIn wsX11_questions wsX8_fewestQuestions := goodIn_r _ [69, 70, 71, 72, 73, 74, 75, 76, 77, 78, 79, 80, 81, 82, 83, 84, 85, 86, 87, 88, 89, 90, 91, 92, 93, 94, 95, 96, 68, 97, 98, 99, 100, 101, 102, 103, 104, 105, 106, 107, 108, 109, 110, 111, 112, 14, 113, 114, 115, 116, 117, 118, 29, 33, 34, 35, 119, 120, 121, 44, 122, 51, 123, 124, 125, 126, 127, 128, 129, 130, 131, 132, 133, 134, 135, 136, 137, 138, 139, 48, 49, 50, 183, 184, 185, 186, 187, 188, 189, 190, 191, 192, 193, 194, 195, 196, 197, 198, 199, 153, 154, 155, 156, 157, 158, 159, 160, 161, 162, 163, 164, 165, 166, 171, 172, 173, 174, 175, 176, 177, 178, 179, 180, 181, 182, 167, 168, 169, 170] (by decide +kernel) (by decide +kernel)
set_option maxRecDepth 20000 in
theorem gX11_questions_X8_fewestQuestions : GoodIn wsX11_questions (wsV RX11 239 RX8 yX8_fewestQuestions wsX8_fewestQuestions) := goodIn_app (goodIn_of _ (by decide +kernel)) ggX11_questions_X8_fewestQuestions
theorem dX11_questions_0 : decode cX11_questions 0 = .ok (.aload_n 0, 1) := by decide +kernel
theorem dX11_questions_1 : decode cX11_questions 1 = .ok (.iload_n 1, 1) := by decide +kernel
theorem dX11_questions_2 : decode cX11_questions 2 = .ok (.invokevirtual 205, 3) := by decide +kernel
theorem dX11_questions_5 : decode cX11_questions 5 = .ok (.ifCond .eq 13, 3) := by decide +kernel
theorem dX11_questions_8 : decode cX11_questions 8 = .ok (.iload_n 2, 1) := by decide +kernel
theorem dX11_questions_9 : decode cX11_questions 9 = .ok (.ifCond .lt 9, 3) := by decide +kernel
theorem dX11_questions_12 : decode cX11_questions 12 = .ok (.iload_n 2, 1) := by decide +kernel
theorem dX11_questions_13 : decode cX11_questions 13 = .ok (.bipush 120, 2) := by decide +kernel
theorem dX11_questions_15 : decode cX11_questions 15 = .ok (.if_icmp .le 5, 3) := by decide +kernel
theorem dX11_questions_18 : decode cX11_questions 18 = .ok (.iconst (-1), 1) := by decide +kernel
theorem dX11_questions_19 : decode cX11_questions 19 = .ok (.ireturn, 1) := by decide +kernel
theorem dX11_questions_20 : decode cX11_questions 20 = .ok (.aload_n 0, 1) := by decide +kernel
theorem dX11_questions_21 : decode cX11_questions 21 = .ok (.getfield 59, 3) := by decide +kernel
theorem dX11_questions_24 : decode cX11_questions 24 = .ok (.invokevirtual 212, 3) := by decide +kernel
theorem dX11_questions_27 : decode cX11_questions 27 = .ok (.aload_n 0, 1) := by decide +kernel
theorem dX11_questions_28 : decode cX11_questions 28 = .ok (.getfield 77, 3) := by decide +kernel
theorem dX11_questions_31 : decode cX11_questions 31 = .ok (.aload_n 0, 1) := by decide +kernel
theorem dX11_questions_32 : decode cX11_questions 32 = .ok (.getfield 42, 3) := by decide +kernel
theorem dX11_questions_35 : decode cX11_questions 35 = .ok (.getfield 195, 3) := by decide +kernel
theorem dX11_questions_38 : decode cX11_questions 38 = .ok (.iload_n 1, 1) := by decide +kernel
theorem dX11_questions_39 : decode cX11_questions 39 = .ok (.aaload, 1) := by decide +kernel
theorem dX11_questions_40 : decode cX11_questions 40 = .ok (.iload_n 2, 1) := by decide +kernel
theorem dX11_questions_41 : decode cX11_questions 41 = .ok (.invokevirtual 239, 3) := by decide +kernel
theorem dX11_questions_44 : decode cX11_questions 44 = .ok (.ireturn, 1) := by decide +kernel
set_option maxRecDepth 20000 in
theorem ggX11_cheap_X7_hasStreet : GoodIn wsX11_cheap wsX7_hasStreet := goodIn_r _ [7, 8, 49, 50, 51, 52, 53, 54, 55, 56, 57, 58, 59, 60] (by decide +kernel) (by decide +kernel)
set_option maxRecDepth 20000 in
theorem gX11_cheap_X7_hasStreet : GoodIn wsX11_cheap (wsV RX11 133 RX7 yX7_hasStreet wsX7_hasStreet) := goodIn_app (goodIn_of _ (by decide +kernel)) ggX11_cheap_X7_hasStreet
set_option maxRecDepth 20000 in
theorem ggX11_cheap_X7_commonSign : GoodIn wsX11_cheap wsX7_commonSign := goodIn_r _ [12, 13, 14, 15, 6, 16, 17, 18, 19, 20, 21, 49, 50, 51, 52, 53, 54, 55, 56, 57, 58, 59, 60] (by decide +kernel) (by decide +kernel)
set_option maxRecDepth 20000 in
theorem gX11_cheap_X7_commonSign : GoodIn wsX11_cheap (wsV RX11 242 RX7 yX7_commonSign wsX7_commonSign) := goodIn_app (goodIn_of _ (by decide +kernel)) ggX11_cheap_X7_commonSign
theorem dX11_cheap_0 : decode cX11_cheap 0 = .ok (.aload_n 0, 1) := by decide +kernel
theorem dX11_cheap_1 : decode cX11_cheap 1 = .ok (.getfield 42, 3) := by decide +kernel
theorem dX11_cheap_4 : decode cX11_cheap 4 = .ok (.getfield 120, 3) := by decide +kernel
theorem dX11_cheap_7 : decode cX11_cheap 7 = .ok (.iload_n 1, 1) := by decide +kernel
theorem dX11_cheap_8 : decode cX11_cheap 8 = .ok (.invokevirtual 133, 3) := by decide +kernel
theorem dX11_cheap_11 : decode cX11_cheap 11 = .ok (.ifCond .eq 17, 3) := by decide +kernel
theorem dX11_cheap_14 : decode cX11_cheap 14 = .ok (.aload_n 0, 1) := by decide +kernel
theorem dX11_cheap_15 : decode cX11_cheap 15 = .ok (.getfield 42, 3) := by decide +kernel
theorem dX11_cheap_18 : decode cX11_cheap 18 = .ok (.getfield 120, 3) := by decide +kernel
theorem dX11_cheap_21 : decode cX11_cheap 21 = .ok (.iload_n 1, 1) := by decide +kernel
theorem dX11_cheap_22 : decode cX11_cheap 22 = .ok (.invokevirtual 242, 3) := by decide +kernel
theorem dX11_cheap_25 : decode cX11_cheap 25 = .ok (.goto 4, 3) := by decide +kernel
theorem dX11_cheap_28 : decode cX11_cheap 28 = .ok (.iconst (-1), 1) := by decide +kernel
theorem dX11_cheap_29 : decode cX11_cheap 29 = .ok (.ireturn, 1) := by decide +kernel
set_option maxRecDepth 20000 in
theorem ggX11_wrong_X5_hasTown : GoodIn wsX11_wrong wsX5_hasTown := goodIn_r _ [8, 9, 10, 42, 43, 44, 45, 46, 47, 48, 49, 50, 51, 52, 53, 54, 55, 56, 57, 58, 59, 60, 61, 62, 63, 64, 65, 66, 67] (by decide +kernel) (by decide +kernel)
set_option maxRecDepth 20000 in
theorem gX11_wrong_X5_hasTown : GoodIn wsX11_wrong (wsV RX11 158 RX5 yX5_hasTown wsX5_hasTown) := goodIn_app (goodIn_of _ (by decide +kernel)) ggX11_wrong_X5_hasTown
set_option maxRecDepth 20000 in
theorem ggX11_wrong_X7_commonSignWrong : GoodIn wsX11_wrong wsX7_commonSignWrong := goodIn_r _ [15, 16, 17, 18, 14, 19, 20, 21, 22, 23, 24, 25, 26, 27, 28, 56, 57, 58, 59, 60, 61, 62, 63, 64, 65, 66, 67] (by decide +kernel) (by decide +kernel)
set_option maxRecDepth 20000 in
theorem gX11_wrong_X7_commonSignWrong : GoodIn wsX11_wrong (wsV RX11 245 RX7 yX7_commonSignWrong wsX7_commonSignWrong) := goodIn_app (goodIn_of _ (by decide +kernel)) ggX11_wrong_X7_commonSignWrong
theorem dX11_wrong_0 : decode cX11_wrong 0 = .ok (.aload_n 0, 1) := by decide +kernel
theorem dX11_wrong_1 : decode cX11_wrong 1 = .ok (.getfield 42, 3) := by decide +kernel
theorem dX11_wrong_4 : decode cX11_wrong 4 = .ok (.invokevirtual 158, 3) := by decide +kernel
theorem dX11_wrong_7 : decode cX11_wrong 7 = .ok (.ifCond .eq 13, 3) := by decide +kernel
theorem dX11_wrong_10 : decode cX11_wrong 10 = .ok (.iload_n 1, 1) := by decide +kernel
theorem dX11_wrong_11 : decode cX11_wrong 11 = .ok (.ifCond .lt 9, 3) := by decide +kernel
theorem dX11_wrong_14 : decode cX11_wrong 14 = .ok (.iload_n 1, 1) := by decide +kernel
theorem dX11_wrong_15 : decode cX11_wrong 15 = .ok (.bipush 7, 2) := by decide +kernel
theorem dX11_wrong_17 : decode cX11_wrong 17 = .ok (.if_icmp .le 5, 3) := by decide +kernel
theorem dX11_wrong_20 : decode cX11_wrong 20 = .ok (.iconst (-1), 1) := by decide +kernel
theorem dX11_wrong_21 : decode cX11_wrong 21 = .ok (.ireturn, 1) := by decide +kernel
theorem dX11_wrong_22 : decode cX11_wrong 22 = .ok (.iconst 0, 1) := by decide +kernel
theorem dX11_wrong_23 : decode cX11_wrong 23 = .ok (.istore_n 2, 1) := by decide +kernel
theorem dX11_wrong_24 : decode cX11_wrong 24 = .ok (.iconst 0, 1) := by decide +kernel
theorem dX11_wrong_25 : decode cX11_wrong 25 = .ok (.istore_n 3, 1) := by decide +kernel
theorem dX11_wrong_26 : decode cX11_wrong 26 = .ok (.iload_n 3, 1) := by decide +kernel
theorem dX11_wrong_27 : decode cX11_wrong 27 = .ok (.aload_n 0, 1) := by decide +kernel
theorem dX11_wrong_28 : decode cX11_wrong 28 = .ok (.getfield 42, 3) := by decide +kernel
theorem dX11_wrong_31 : decode cX11_wrong 31 = .ok (.getfield 120, 3) := by decide +kernel
theorem dX11_wrong_34 : decode cX11_wrong 34 = .ok (.getfield 123, 3) := by decide +kernel
theorem dX11_wrong_37 : decode cX11_wrong 37 = .ok (.if_icmp .ge 24, 3) := by decide +kernel
theorem dX11_wrong_40 : decode cX11_wrong 40 = .ok (.iload_n 2, 1) := by decide +kernel
theorem dX11_wrong_41 : decode cX11_wrong 41 = .ok (.aload_n 0, 1) := by decide +kernel
theorem dX11_wrong_42 : decode cX11_wrong 42 = .ok (.getfield 42, 3) := by decide +kernel
theorem dX11_wrong_45 : decode cX11_wrong 45 = .ok (.getfield 120, 3) := by decide +kernel
theorem dX11_wrong_48 : decode cX11_wrong 48 = .ok (.iload_n 3, 1) := by decide +kernel
theorem dX11_wrong_49 : decode cX11_wrong 49 = .ok (.iload_n 1, 1) := by decide +kernel
theorem dX11_wrong_50 : decode cX11_wrong 50 = .ok (.invokevirtual 245, 3) := by decide +kernel
theorem dX11_wrong_53 : decode cX11_wrong 53 = .ok (.iadd, 1) := by decide +kernel
theorem dX11_wrong_54 : decode cX11_wrong 54 = .ok (.istore_n 2, 1) := by decide +kernel
theorem dX11_wrong_55 : decode cX11_wrong 55 = .ok (.iinc 3 1, 3) := by decide +kernel
theorem dX11_wrong_58 : decode cX11_wrong 58 = .ok (.goto (-32), 3) := by decide +kernel
theorem dX11_wrong_61 : decode cX11_wrong 61 = .ok (.iload_n 2, 1) := by decide +kernel
theorem dX11_wrong_62 : decode cX11_wrong 62 = .ok (.ireturn, 1) := by decide +kernel
set_option maxRecDepth 20000 in
theorem ggX11_errand_X11_hasCorner : GoodIn wsX11_errand wsX11_hasCorner := goodIn_r _ [9, 1, 10, 11, 12, 13, 14, 15, 16, 17, 18, 19, 20, 21, 22, 23, 24, 25, 26, 27, 28, 29, 30, 31, 32, 33, 34, 35, 36, 37, 38, 39, 40, 41, 42, 43, 44, 45, 46, 47, 48, 49, 50] (by decide +kernel) (by decide +kernel)
set_option maxRecDepth 20000 in
theorem gX11_errand_X11_hasCorner : GoodIn wsX11_errand (wsV RX11 176 RX11 yX11_hasCorner wsX11_hasCorner) := goodIn_app (goodIn_of _ (by decide +kernel)) ggX11_errand_X11_hasCorner
theorem dX11_errand_0 : decode cX11_errand 0 = .ok (.iload_n 1, 1) := by decide +kernel
theorem dX11_errand_1 : decode cX11_errand 1 = .ok (.iconst (-1), 1) := by decide +kernel
theorem dX11_errand_2 : decode cX11_errand 2 = .ok (.if_icmp .ne 13, 3) := by decide +kernel
theorem dX11_errand_5 : decode cX11_errand 5 = .ok (.aload_n 0, 1) := by decide +kernel
theorem dX11_errand_6 : decode cX11_errand 6 = .ok (.getfield 42, 3) := by decide +kernel
theorem dX11_errand_9 : decode cX11_errand 9 = .ok (.iconst 0, 1) := by decide +kernel
theorem dX11_errand_10 : decode cX11_errand 10 = .ok (.putfield 248, 3) := by decide +kernel
theorem dX11_errand_13 : decode cX11_errand 13 = .ok (.iconst 0, 1) := by decide +kernel
theorem dX11_errand_14 : decode cX11_errand 14 = .ok (.ireturn, 1) := by decide +kernel
theorem dX11_errand_15 : decode cX11_errand 15 = .ok (.aload_n 0, 1) := by decide +kernel
theorem dX11_errand_16 : decode cX11_errand 16 = .ok (.iload_n 1, 1) := by decide +kernel
theorem dX11_errand_17 : decode cX11_errand 17 = .ok (.invokevirtual 176, 3) := by decide +kernel
theorem dX11_errand_20 : decode cX11_errand 20 = .ok (.ifCond .eq 28, 3) := by decide +kernel
theorem dX11_errand_23 : decode cX11_errand 23 = .ok (.aload_n 0, 1) := by decide +kernel
theorem dX11_errand_24 : decode cX11_errand 24 = .ok (.iload_n 2, 1) := by decide +kernel
theorem dX11_errand_25 : decode cX11_errand 25 = .ok (.invokevirtual 176, 3) := by decide +kernel
theorem dX11_errand_28 : decode cX11_errand 28 = .ok (.ifCond .eq 20, 3) := by decide +kernel
theorem dX11_errand_31 : decode cX11_errand 31 = .ok (.iload_n 1, 1) := by decide +kernel
theorem dX11_errand_32 : decode cX11_errand 32 = .ok (.iload_n 2, 1) := by decide +kernel
theorem dX11_errand_33 : decode cX11_errand 33 = .ok (.if_icmp .eq 15, 3) := by decide +kernel
theorem dX11_errand_36 : decode cX11_errand 36 = .ok (.aload_n 0, 1) := by decide +kernel
theorem dX11_errand_37 : decode cX11_errand 37 = .ok (.getfield 42, 3) := by decide +kernel
theorem dX11_errand_40 : decode cX11_errand 40 = .ok (.getfield 248, 3) := by decide +kernel
theorem dX11_errand_43 : decode cX11_errand 43 = .ok (.bipush 6, 2) := by decide +kernel
theorem dX11_errand_45 : decode cX11_errand 45 = .ok (.if_icmp .lt 6, 3) := by decide +kernel
theorem dX11_errand_48 : decode cX11_errand 48 = .ok (.bipush (-2), 2) := by decide +kernel
theorem dX11_errand_50 : decode cX11_errand 50 = .ok (.ireturn, 1) := by decide +kernel
theorem dX11_errand_51 : decode cX11_errand 51 = .ok (.aload_n 0, 1) := by decide +kernel
theorem dX11_errand_52 : decode cX11_errand 52 = .ok (.getfield 42, 3) := by decide +kernel
theorem dX11_errand_55 : decode cX11_errand 55 = .ok (.getfield 251, 3) := by decide +kernel
theorem dX11_errand_58 : decode cX11_errand 58 = .ok (.aload_n 0, 1) := by decide +kernel
theorem dX11_errand_59 : decode cX11_errand 59 = .ok (.getfield 42, 3) := by decide +kernel
theorem dX11_errand_62 : decode cX11_errand 62 = .ok (.getfield 248, 3) := by decide +kernel
theorem dX11_errand_65 : decode cX11_errand 65 = .ok (.iload_n 1, 1) := by decide +kernel
theorem dX11_errand_66 : decode cX11_errand 66 = .ok (.iastore, 1) := by decide +kernel
theorem dX11_errand_67 : decode cX11_errand 67 = .ok (.aload_n 0, 1) := by decide +kernel
theorem dX11_errand_68 : decode cX11_errand 68 = .ok (.getfield 42, 3) := by decide +kernel
theorem dX11_errand_71 : decode cX11_errand 71 = .ok (.getfield 254, 3) := by decide +kernel
theorem dX11_errand_74 : decode cX11_errand 74 = .ok (.aload_n 0, 1) := by decide +kernel
theorem dX11_errand_75 : decode cX11_errand 75 = .ok (.getfield 42, 3) := by decide +kernel
theorem dX11_errand_78 : decode cX11_errand 78 = .ok (.getfield 248, 3) := by decide +kernel
theorem dX11_errand_81 : decode cX11_errand 81 = .ok (.iload_n 2, 1) := by decide +kernel
theorem dX11_errand_82 : decode cX11_errand 82 = .ok (.iastore, 1) := by decide +kernel
theorem dX11_errand_83 : decode cX11_errand 83 = .ok (.aload_n 0, 1) := by decide +kernel
theorem dX11_errand_84 : decode cX11_errand 84 = .ok (.getfield 42, 3) := by decide +kernel
theorem dX11_errand_87 : decode cX11_errand 87 = .ok (.dup, 1) := by decide +kernel
theorem dX11_errand_88 : decode cX11_errand 88 = .ok (.getfield 248, 3) := by decide +kernel
theorem dX11_errand_91 : decode cX11_errand 91 = .ok (.iconst 1, 1) := by decide +kernel
theorem dX11_errand_92 : decode cX11_errand 92 = .ok (.iadd, 1) := by decide +kernel
theorem dX11_errand_93 : decode cX11_errand 93 = .ok (.putfield 248, 3) := by decide +kernel
theorem dX11_errand_96 : decode cX11_errand 96 = .ok (.aload_n 0, 1) := by decide +kernel
theorem dX11_errand_97 : decode cX11_errand 97 = .ok (.getfield 42, 3) := by decide +kernel
theorem dX11_errand_100 : decode cX11_errand 100 = .ok (.getfield 248, 3) := by decide +kernel
theorem dX11_errand_103 : decode cX11_errand 103 = .ok (.ireturn, 1) := by decide +kernel
set_option maxRecDepth 20000 in
theorem ggX11_ways_X5_hasTown : GoodIn wsX11_ways wsX5_hasTown := goodIn_r _ [7, 8, 9, 81, 82, 83, 84, 85, 86, 87, 88, 89, 90, 91, 92, 93, 94, 95, 96, 97, 98, 99, 100, 101, 102, 103, 104, 105, 106] (by decide +kernel) (by decide +kernel)
set_option maxRecDepth 20000 in
theorem gX11_ways_X5_hasTown : GoodIn wsX11_ways (wsV RX11 158 RX5 yX5_hasTown wsX5_hasTown) := goodIn_app (goodIn_of _ (by decide +kernel)) ggX11_ways_X5_hasTown
set_option maxRecDepth 20000 in
theorem ggX11_ways_X11_isWeekday : GoodIn wsX11_ways wsX11_isWeekday := goodIn_r _ [13] (by decide +kernel) (by decide +kernel)
set_option maxRecDepth 20000 in
theorem gX11_ways_X11_isWeekday : GoodIn wsX11_ways (va_wsS RX11 155 yX11_isWeekday wsX11_isWeekday) := goodIn_app (goodIn_of _ (by decide +kernel)) ggX11_ways_X11_isWeekday
set_option maxRecDepth 20000 in
theorem ggX11_ways_X10_takeDay : GoodIn wsX11_ways wsX10_takeDay := goodIn_r _ [18, 19, 20, 21, 22, 23, 24, 25, 26, 27, 28, 107, 108, 109, 110, 111, 95, 96, 97, 98, 99, 100, 101, 102, 103, 104, 105, 106] (by decide +kernel) (by decide +kernel)
set_option maxRecDepth 20000 in
theorem gX11_ways_X10_takeDay : GoodIn wsX11_ways (wsV RX11 257 RX10 yX10_takeDay wsX10_takeDay) := goodIn_app (goodIn_of _ (by decide +kernel)) ggX11_ways_X10_takeDay
set_option maxRecDepth 20000 in
theorem ggX11_ways_X10_findClash : GoodIn wsX11_ways wsX10_findClash := goodIn_r _ [32, 19, 33, 34, 35, 36, 37, 17, 38, 39, 20, 40, 22, 41, 42, 43, 44, 45, 46, 47, 48, 49, 50, 51, 52, 53, 54, 55, 56, 57, 58, 59, 107, 108, 109, 110, 111, 81, 82, 83, 84, 85, 86, 87, 88, 89, 90, 91, 92, 93, 94, 95, 96, 97, 98, 99, 100, 101, 102, 103, 104, 105, 106] (by decide +kernel) (by decide +kernel)
set_option maxRecDepth 20000 in
theorem gX11_ways_X10_findClash : GoodIn wsX11_ways (wsV RX11 260 RX10 yX10_findClash wsX10_findClash) := goodIn_app (goodIn_of _ (by decide +kernel)) ggX11_ways_X10_findClash
set_option maxRecDepth 20000 in
theorem ggX11_ways_X10_findLeast : GoodIn wsX11_ways wsX10_findLeast := goodIn_r _ [63, 19, 64, 65, 66, 17, 67, 33, 34, 35, 36, 37, 38, 39, 20, 40, 22, 41, 42, 43, 44, 45, 46, 47, 48, 49, 50, 51, 107, 108, 109, 110, 111, 81, 82, 83, 84, 85, 86, 87, 88, 89, 90, 91, 92, 93, 94, 95, 96, 97, 98, 99, 100, 101, 102, 103, 104, 105, 106] (by decide +kernel) (by decide +kernel)
set_option maxRecDepth 20000 in
theorem gX11_ways_X10_findLeast : GoodIn wsX11_ways (wsV RX11 264 RX10 yX10_findLeast wsX10_findLeast) := goodIn_app (goodIn_of _ (by decide +kernel)) ggX11_ways_X10_findLeast
theorem dX11_ways_0 : decode cX11_ways 0 = .ok (.aload_n 0, 1) := by decide +kernel
theorem dX11_ways_1 : decode cX11_ways 1 = .ok (.getfield 42, 3) := by decide +kernel
theorem dX11_ways_4 : decode cX11_ways 4 = .ok (.invokevirtual 158, 3) := by decide +kernel
theorem dX11_ways_7 : decode cX11_ways 7 = .ok (.ifCond .eq 19, 3) := by decide +kernel
theorem dX11_ways_10 : decode cX11_ways 10 = .ok (.iload_n 1, 1) := by decide +kernel
theorem dX11_ways_11 : decode cX11_ways 11 = .ok (.invokestatic 155, 3) := by decide +kernel
theorem dX11_ways_14 : decode cX11_ways 14 = .ok (.ifCond .eq 12, 3) := by decide +kernel
theorem dX11_ways_17 : decode cX11_ways 17 = .ok (.iload_n 2, 1) := by decide +kernel
theorem dX11_ways_18 : decode cX11_ways 18 = .ok (.ifCond .lt 8, 3) := by decide +kernel
theorem dX11_ways_21 : decode cX11_ways 21 = .ok (.iload_n 2, 1) := by decide +kernel
theorem dX11_ways_22 : decode cX11_ways 22 = .ok (.iconst 1, 1) := by decide +kernel
theorem dX11_ways_23 : decode cX11_ways 23 = .ok (.if_icmp .le 5, 3) := by decide +kernel
theorem dX11_ways_26 : decode cX11_ways 26 = .ok (.iconst (-1), 1) := by decide +kernel
theorem dX11_ways_27 : decode cX11_ways 27 = .ok (.ireturn, 1) := by decide +kernel
theorem dX11_ways_28 : decode cX11_ways 28 = .ok (.aload_n 0, 1) := by decide +kernel
theorem dX11_ways_29 : decode cX11_ways 29 = .ok (.getfield 91, 3) := by decide +kernel
theorem dX11_ways_32 : decode cX11_ways 32 = .ok (.iload_n 1, 1) := by decide +kernel
theorem dX11_ways_33 : decode cX11_ways 33 = .ok (.invokevirtual 257, 3) := by decide +kernel
theorem dX11_ways_36 : decode cX11_ways 36 = .ok (.aload_n 0, 1) := by decide +kernel
theorem dX11_ways_37 : decode cX11_ways 37 = .ok (.getfield 91, 3) := by decide +kernel
theorem dX11_ways_40 : decode cX11_ways 40 = .ok (.invokevirtual 260, 3) := by decide +kernel
theorem dX11_ways_43 : decode cX11_ways 43 = .ok (.istore_n 3, 1) := by decide +kernel
theorem dX11_ways_44 : decode cX11_ways 44 = .ok (.iload_n 2, 1) := by decide +kernel
theorem dX11_ways_45 : decode cX11_ways 45 = .ok (.iconst 1, 1) := by decide +kernel
theorem dX11_ways_46 : decode cX11_ways 46 = .ok (.if_icmp .ne 5, 3) := by decide +kernel
theorem dX11_ways_49 : decode cX11_ways 49 = .ok (.iload_n 3, 1) := by decide +kernel
theorem dX11_ways_50 : decode cX11_ways 50 = .ok (.ireturn, 1) := by decide +kernel
theorem dX11_ways_51 : decode cX11_ways 51 = .ok (.iload_n 3, 1) := by decide +kernel
theorem dX11_ways_52 : decode cX11_ways 52 = .ok (.ifCond .eq 8, 3) := by decide +kernel
theorem dX11_ways_55 : decode cX11_ways 55 = .ok (.bipush (-2), 2) := by decide +kernel
theorem dX11_ways_57 : decode cX11_ways 57 = .ok (.goto 10, 3) := by decide +kernel
theorem dX11_ways_60 : decode cX11_ways 60 = .ok (.aload_n 0, 1) := by decide +kernel
theorem dX11_ways_61 : decode cX11_ways 61 = .ok (.getfield 91, 3) := by decide +kernel
theorem dX11_ways_64 : decode cX11_ways 64 = .ok (.invokevirtual 264, 3) := by decide +kernel
theorem dX11_ways_67 : decode cX11_ways 67 = .ok (.ireturn, 1) := by decide +kernel
set_option maxRecDepth 20000 in
theorem ggX11_sight_X7_hasStreet : GoodIn wsX11_sight wsX7_hasStreet := goodIn_r _ [10, 11, 43, 44, 45, 46, 47, 48, 49, 50, 51, 52, 53, 54] (by decide +kernel) (by decide +kernel)
set_option maxRecDepth 20000 in
theorem gX11_sight_X7_hasStreet : GoodIn wsX11_sight (wsV RX11 133 RX7 yX7_hasStreet wsX7_hasStreet) := goodIn_app (goodIn_of _ (by decide +kernel)) ggX11_sight_X7_hasStreet
set_option maxRecDepth 20000 in
theorem ggX11_sight_X11_isSign : GoodIn wsX11_sight wsX11_isSign := goodIn_r _ [15] (by decide +kernel) (by decide +kernel)
set_option maxRecDepth 20000 in
theorem gX11_sight_X11_isSign : GoodIn wsX11_sight (va_wsS RX11 173 yX11_isSign wsX11_isSign) := goodIn_app (goodIn_of _ (by decide +kernel)) ggX11_sight_X11_isSign
theorem dX11_sight_0 : decode cX11_sight 0 = .ok (.iload_n 1, 1) := by decide +kernel
theorem dX11_sight_1 : decode cX11_sight 1 = .ok (.iconst (-1), 1) := by decide +kernel
theorem dX11_sight_2 : decode cX11_sight 2 = .ok (.if_icmp .ne 13, 3) := by decide +kernel
theorem dX11_sight_5 : decode cX11_sight 5 = .ok (.aload_n 0, 1) := by decide +kernel
theorem dX11_sight_6 : decode cX11_sight 6 = .ok (.getfield 42, 3) := by decide +kernel
theorem dX11_sight_9 : decode cX11_sight 9 = .ok (.iconst 0, 1) := by decide +kernel
theorem dX11_sight_10 : decode cX11_sight 10 = .ok (.putfield 267, 3) := by decide +kernel
theorem dX11_sight_13 : decode cX11_sight 13 = .ok (.iconst 0, 1) := by decide +kernel
theorem dX11_sight_14 : decode cX11_sight 14 = .ok (.ireturn, 1) := by decide +kernel
theorem dX11_sight_15 : decode cX11_sight 15 = .ok (.aload_n 0, 1) := by decide +kernel
theorem dX11_sight_16 : decode cX11_sight 16 = .ok (.getfield 42, 3) := by decide +kernel
theorem dX11_sight_19 : decode cX11_sight 19 = .ok (.getfield 120, 3) := by decide +kernel
theorem dX11_sight_22 : decode cX11_sight 22 = .ok (.iload_n 1, 1) := by decide +kernel
theorem dX11_sight_23 : decode cX11_sight 23 = .ok (.invokevirtual 133, 3) := by decide +kernel
theorem dX11_sight_26 : decode cX11_sight 26 = .ok (.ifCond .eq 22, 3) := by decide +kernel
theorem dX11_sight_29 : decode cX11_sight 29 = .ok (.iload_n 2, 1) := by decide +kernel
theorem dX11_sight_30 : decode cX11_sight 30 = .ok (.invokestatic 173, 3) := by decide +kernel
theorem dX11_sight_33 : decode cX11_sight 33 = .ok (.ifCond .eq 15, 3) := by decide +kernel
theorem dX11_sight_36 : decode cX11_sight 36 = .ok (.aload_n 0, 1) := by decide +kernel
theorem dX11_sight_37 : decode cX11_sight 37 = .ok (.getfield 42, 3) := by decide +kernel
theorem dX11_sight_40 : decode cX11_sight 40 = .ok (.getfield 267, 3) := by decide +kernel
theorem dX11_sight_43 : decode cX11_sight 43 = .ok (.bipush 12, 2) := by decide +kernel
theorem dX11_sight_45 : decode cX11_sight 45 = .ok (.if_icmp .lt 6, 3) := by decide +kernel
theorem dX11_sight_48 : decode cX11_sight 48 = .ok (.bipush (-2), 2) := by decide +kernel
theorem dX11_sight_50 : decode cX11_sight 50 = .ok (.ireturn, 1) := by decide +kernel
theorem dX11_sight_51 : decode cX11_sight 51 = .ok (.aload_n 0, 1) := by decide +kernel
theorem dX11_sight_52 : decode cX11_sight 52 = .ok (.getfield 42, 3) := by decide +kernel
theorem dX11_sight_55 : decode cX11_sight 55 = .ok (.getfield 270, 3) := by decide +kernel
theorem dX11_sight_58 : decode cX11_sight 58 = .ok (.aload_n 0, 1) := by decide +kernel
theorem dX11_sight_59 : decode cX11_sight 59 = .ok (.getfield 42, 3) := by decide +kernel
theorem dX11_sight_62 : decode cX11_sight 62 = .ok (.getfield 267, 3) := by decide +kernel
theorem dX11_sight_65 : decode cX11_sight 65 = .ok (.iload_n 1, 1) := by decide +kernel
theorem dX11_sight_66 : decode cX11_sight 66 = .ok (.iastore, 1) := by decide +kernel
theorem dX11_sight_67 : decode cX11_sight 67 = .ok (.aload_n 0, 1) := by decide +kernel
theorem dX11_sight_68 : decode cX11_sight 68 = .ok (.getfield 42, 3) := by decide +kernel
theorem dX11_sight_71 : decode cX11_sight 71 = .ok (.getfield 273, 3) := by decide +kernel
theorem dX11_sight_74 : decode cX11_sight 74 = .ok (.aload_n 0, 1) := by decide +kernel
theorem dX11_sight_75 : decode cX11_sight 75 = .ok (.getfield 42, 3) := by decide +kernel
theorem dX11_sight_78 : decode cX11_sight 78 = .ok (.getfield 267, 3) := by decide +kernel
theorem dX11_sight_81 : decode cX11_sight 81 = .ok (.iload_n 2, 1) := by decide +kernel
theorem dX11_sight_82 : decode cX11_sight 82 = .ok (.iastore, 1) := by decide +kernel
theorem dX11_sight_83 : decode cX11_sight 83 = .ok (.aload_n 0, 1) := by decide +kernel
theorem dX11_sight_84 : decode cX11_sight 84 = .ok (.getfield 42, 3) := by decide +kernel
theorem dX11_sight_87 : decode cX11_sight 87 = .ok (.dup, 1) := by decide +kernel
theorem dX11_sight_88 : decode cX11_sight 88 = .ok (.getfield 267, 3) := by decide +kernel
theorem dX11_sight_91 : decode cX11_sight 91 = .ok (.iconst 1, 1) := by decide +kernel
theorem dX11_sight_92 : decode cX11_sight 92 = .ok (.iadd, 1) := by decide +kernel
theorem dX11_sight_93 : decode cX11_sight 93 = .ok (.putfield 267, 3) := by decide +kernel
theorem dX11_sight_96 : decode cX11_sight 96 = .ok (.aload_n 0, 1) := by decide +kernel
theorem dX11_sight_97 : decode cX11_sight 97 = .ok (.getfield 42, 3) := by decide +kernel
theorem dX11_sight_100 : decode cX11_sight 100 = .ok (.getfield 267, 3) := by decide +kernel
theorem dX11_sight_103 : decode cX11_sight 103 = .ok (.ireturn, 1) := by decide +kernel
set_option maxRecDepth 20000 in
theorem ggX11_weekdays_X5_hasTown : GoodIn wsX11_weekdays wsX5_hasTown := goodIn_r _ [6, 7, 8, 52, 53, 54, 55, 56, 57, 58, 59, 60, 61, 62, 63, 64, 65, 66, 67, 68, 69, 70, 71, 72, 73, 74, 75, 76, 77] (by decide +kernel) (by decide +kernel)
set_option maxRecDepth 20000 in
theorem gX11_weekdays_X5_hasTown : GoodIn wsX11_weekdays (wsV RX11 158 RX5 yX5_hasTown wsX5_hasTown) := goodIn_app (goodIn_of _ (by decide +kernel)) ggX11_weekdays_X5_hasTown
set_option maxRecDepth 20000 in
theorem ggX11_weekdays_X5_fittingDays : GoodIn wsX11_weekdays wsX5_fittingDays := goodIn_r _ [12, 13, 14, 15, 5, 16, 17, 7, 18, 19, 20, 21, 22, 23, 24, 25, 52, 53, 54, 55, 56, 57, 58, 59, 60, 61, 62, 63, 64, 65, 66, 67, 68, 69, 70, 71, 72, 73, 74, 75, 76, 77] (by decide +kernel) (by decide +kernel)
set_option maxRecDepth 20000 in
theorem gX11_weekdays_X5_fittingDays : GoodIn wsX11_weekdays (wsV RX11 276 RX5 yX5_fittingDays wsX5_fittingDays) := goodIn_app (goodIn_of _ (by decide +kernel)) ggX11_weekdays_X5_fittingDays
set_option maxRecDepth 20000 in
theorem ggX11_weekdays_X5_streetToLookAt : GoodIn wsX11_weekdays wsX5_streetToLookAt := goodIn_r _ [29, 7, 30, 31, 32, 33, 5, 34, 35, 36, 37, 38, 20, 21, 22, 23, 24, 25, 52, 53, 54, 55, 56, 57, 58, 59, 60, 61, 62, 63, 64, 65, 66, 67, 68, 69, 70, 71, 72, 73, 74, 75, 76, 77] (by decide +kernel) (by decide +kernel)
set_option maxRecDepth 20000 in
theorem gX11_weekdays_X5_streetToLookAt : GoodIn wsX11_weekdays (wsV RX11 279 RX5 yX5_streetToLookAt wsX5_streetToLookAt) := goodIn_app (goodIn_of _ (by decide +kernel)) ggX11_weekdays_X5_streetToLookAt
theorem dX11_weekdays_0 : decode cX11_weekdays 0 = .ok (.aload_n 0, 1) := by decide +kernel
theorem dX11_weekdays_1 : decode cX11_weekdays 1 = .ok (.getfield 42, 3) := by decide +kernel
theorem dX11_weekdays_4 : decode cX11_weekdays 4 = .ok (.invokevirtual 158, 3) := by decide +kernel
theorem dX11_weekdays_7 : decode cX11_weekdays 7 = .ok (.ifCond .eq 12, 3) := by decide +kernel
theorem dX11_weekdays_10 : decode cX11_weekdays 10 = .ok (.iload_n 1, 1) := by decide +kernel
theorem dX11_weekdays_11 : decode cX11_weekdays 11 = .ok (.ifCond .lt 8, 3) := by decide +kernel
theorem dX11_weekdays_14 : decode cX11_weekdays 14 = .ok (.iload_n 1, 1) := by decide +kernel
theorem dX11_weekdays_15 : decode cX11_weekdays 15 = .ok (.iconst 1, 1) := by decide +kernel
theorem dX11_weekdays_16 : decode cX11_weekdays 16 = .ok (.if_icmp .le 5, 3) := by decide +kernel
theorem dX11_weekdays_19 : decode cX11_weekdays 19 = .ok (.iconst (-1), 1) := by decide +kernel
theorem dX11_weekdays_20 : decode cX11_weekdays 20 = .ok (.ireturn, 1) := by decide +kernel
theorem dX11_weekdays_21 : decode cX11_weekdays 21 = .ok (.aload_n 0, 1) := by decide +kernel
theorem dX11_weekdays_22 : decode cX11_weekdays 22 = .ok (.getfield 42, 3) := by decide +kernel
theorem dX11_weekdays_25 : decode cX11_weekdays 25 = .ok (.invokevirtual 276, 3) := by decide +kernel
theorem dX11_weekdays_28 : decode cX11_weekdays 28 = .ok (.istore_n 2, 1) := by decide +kernel
theorem dX11_weekdays_29 : decode cX11_weekdays 29 = .ok (.iload_n 1, 1) := by decide +kernel
theorem dX11_weekdays_30 : decode cX11_weekdays 30 = .ok (.ifCond .ne 5, 3) := by decide +kernel
theorem dX11_weekdays_33 : decode cX11_weekdays 33 = .ok (.iload_n 2, 1) := by decide +kernel
theorem dX11_weekdays_34 : decode cX11_weekdays 34 = .ok (.ireturn, 1) := by decide +kernel
theorem dX11_weekdays_35 : decode cX11_weekdays 35 = .ok (.iload_n 2, 1) := by decide +kernel
theorem dX11_weekdays_36 : decode cX11_weekdays 36 = .ok (.ifCond .ne 8, 3) := by decide +kernel
theorem dX11_weekdays_39 : decode cX11_weekdays 39 = .ok (.bipush (-2), 2) := by decide +kernel
theorem dX11_weekdays_41 : decode cX11_weekdays 41 = .ok (.goto 11, 3) := by decide +kernel
theorem dX11_weekdays_44 : decode cX11_weekdays 44 = .ok (.aload_n 0, 1) := by decide +kernel
theorem dX11_weekdays_45 : decode cX11_weekdays 45 = .ok (.getfield 42, 3) := by decide +kernel
theorem dX11_weekdays_48 : decode cX11_weekdays 48 = .ok (.iload_n 2, 1) := by decide +kernel
theorem dX11_weekdays_49 : decode cX11_weekdays 49 = .ok (.invokevirtual 279, 3) := by decide +kernel
theorem dX11_weekdays_52 : decode cX11_weekdays 52 = .ok (.ireturn, 1) := by decide +kernel
set_option maxRecDepth 20000 in
theorem ggX11_came_X11_hasCorner : GoodIn wsX11_came wsX11_hasCorner := goodIn_r _ [8, 1, 9, 10, 11, 12, 13, 14, 15, 16, 17, 18, 19, 20, 21, 22, 23, 24, 25, 26, 27, 28, 29, 30, 31, 32, 33, 34, 35, 36, 37, 38, 39, 40, 41, 42, 43, 44, 45, 46, 47, 48, 49] (by decide +kernel) (by decide +kernel)
set_option maxRecDepth 20000 in
theorem gX11_came_X11_hasCorner : GoodIn wsX11_came (wsV RX11 176 RX11 yX11_hasCorner wsX11_hasCorner) := goodIn_app (goodIn_of _ (by decide +kernel)) ggX11_came_X11_hasCorner
theorem dX11_came_0 : decode cX11_came 0 = .ok (.iload_n 1, 1) := by decide +kernel
theorem dX11_came_1 : decode cX11_came 1 = .ok (.iconst (-1), 1) := by decide +kernel
theorem dX11_came_2 : decode cX11_came 2 = .ok (.if_icmp .ne 13, 3) := by decide +kernel
theorem dX11_came_5 : decode cX11_came 5 = .ok (.aload_n 0, 1) := by decide +kernel
theorem dX11_came_6 : decode cX11_came 6 = .ok (.getfield 42, 3) := by decide +kernel
theorem dX11_came_9 : decode cX11_came 9 = .ok (.iconst 0, 1) := by decide +kernel
theorem dX11_came_10 : decode cX11_came 10 = .ok (.putfield 282, 3) := by decide +kernel
theorem dX11_came_13 : decode cX11_came 13 = .ok (.iconst 0, 1) := by decide +kernel
theorem dX11_came_14 : decode cX11_came 14 = .ok (.ireturn, 1) := by decide +kernel
theorem dX11_came_15 : decode cX11_came 15 = .ok (.aload_n 0, 1) := by decide +kernel
theorem dX11_came_16 : decode cX11_came 16 = .ok (.iload_n 1, 1) := by decide +kernel
theorem dX11_came_17 : decode cX11_came 17 = .ok (.invokevirtual 176, 3) := by decide +kernel
theorem dX11_came_20 : decode cX11_came 20 = .ok (.ifCond .eq 15, 3) := by decide +kernel
theorem dX11_came_23 : decode cX11_came 23 = .ok (.aload_n 0, 1) := by decide +kernel
theorem dX11_came_24 : decode cX11_came 24 = .ok (.getfield 42, 3) := by decide +kernel
theorem dX11_came_27 : decode cX11_came 27 = .ok (.getfield 282, 3) := by decide +kernel
theorem dX11_came_30 : decode cX11_came 30 = .ok (.bipush 8, 2) := by decide +kernel
theorem dX11_came_32 : decode cX11_came 32 = .ok (.if_icmp .lt 6, 3) := by decide +kernel
theorem dX11_came_35 : decode cX11_came 35 = .ok (.bipush (-2), 2) := by decide +kernel
theorem dX11_came_37 : decode cX11_came 37 = .ok (.ireturn, 1) := by decide +kernel
theorem dX11_came_38 : decode cX11_came 38 = .ok (.aload_n 0, 1) := by decide +kernel
theorem dX11_came_39 : decode cX11_came 39 = .ok (.getfield 42, 3) := by decide +kernel
theorem dX11_came_42 : decode cX11_came 42 = .ok (.getfield 285, 3) := by decide +kernel
theorem dX11_came_45 : decode cX11_came 45 = .ok (.aload_n 0, 1) := by decide +kernel
theorem dX11_came_46 : decode cX11_came 46 = .ok (.getfield 42, 3) := by decide +kernel
theorem dX11_came_49 : decode cX11_came 49 = .ok (.getfield 282, 3) := by decide +kernel
theorem dX11_came_52 : decode cX11_came 52 = .ok (.iload_n 1, 1) := by decide +kernel
theorem dX11_came_53 : decode cX11_came 53 = .ok (.iastore, 1) := by decide +kernel
theorem dX11_came_54 : decode cX11_came 54 = .ok (.aload_n 0, 1) := by decide +kernel
theorem dX11_came_55 : decode cX11_came 55 = .ok (.getfield 42, 3) := by decide +kernel
theorem dX11_came_58 : decode cX11_came 58 = .ok (.dup, 1) := by decide +kernel
theorem dX11_came_59 : decode cX11_came 59 = .ok (.getfield 282, 3) := by decide +kernel
theorem dX11_came_62 : decode cX11_came 62 = .ok (.iconst 1, 1) := by decide +kernel
theorem dX11_came_63 : decode cX11_came 63 = .ok (.iadd, 1) := by decide +kernel
theorem dX11_came_64 : decode cX11_came 64 = .ok (.putfield 282, 3) := by decide +kernel
theorem dX11_came_67 : decode cX11_came 67 = .ok (.aload_n 0, 1) := by decide +kernel
theorem dX11_came_68 : decode cX11_came 68 = .ok (.getfield 42, 3) := by decide +kernel
theorem dX11_came_71 : decode cX11_came 71 = .ok (.getfield 282, 3) := by decide +kernel
theorem dX11_came_74 : decode cX11_came 74 = .ok (.ireturn, 1) := by decide +kernel
set_option maxRecDepth 20000 in
theorem ggX11_had_X11_hasWalker : GoodIn wsX11_had wsX11_hasWalker := goodIn_r _ [9, 3, 10, 244, 245, 246, 247, 248, 249, 250, 251, 252, 253, 254, 255, 256, 257, 258, 259, 260, 261, 262, 263, 264, 265, 266, 267, 268, 269, 270] (by decide +kernel) (by decide +kernel)
set_option maxRecDepth 20000 in
theorem gX11_had_X11_hasWalker : GoodIn wsX11_had (wsV RX11 205 RX11 yX11_hasWalker wsX11_hasWalker) := goodIn_app (goodIn_of _ (by decide +kernel)) ggX11_had_X11_hasWalker
set_option maxRecDepth 20000 in
theorem ggX11_had_X0_refreshAll : GoodIn wsX11_had wsX0_refreshAll := goodIn_r _ [15, 16, 17, 18, 19, 20, 14, 21, 22, 23, 24, 25, 26, 27, 28, 29, 30, 31, 32, 33, 34, 35, 36, 37, 38, 39, 40, 41, 42, 43, 44, 45, 46, 47, 48, 49, 50, 51, 52, 53, 54, 55, 56, 57, 58, 59, 60, 61, 62, 63, 64, 271, 272, 273, 274, 257, 258, 259, 260, 261, 262, 263, 264, 265, 266, 267, 268, 269, 270, 275, 276, 277, 278, 279, 280, 281, 282, 283, 284, 285, 286] (by decide +kernel) (by decide +kernel)
set_option maxRecDepth 20000 in
theorem gX11_had_X0_refreshAll : GoodIn wsX11_had (wsV RX11 212 RX0 yX0_refreshAll wsX0_refreshAll) := goodIn_app (goodIn_of _ (by decide +kernel)) ggX11_had_X0_refreshAll
set_option maxRecDepth 20000 in
theorem ggX11_had_X8_fittingMaps : GoodIn wsX11_had wsX8_fittingMaps := goodIn_r _ [69, 70, 71, 72, 73, 74, 75, 76, 77, 78, 79, 80, 81, 82, 83, 84, 85, 86, 87, 88, 89, 90, 91, 92, 93, 94, 95, 68, 96, 97, 98, 99, 100, 101, 102, 103, 104, 105, 106, 107, 108, 109, 110, 111, 112, 113, 114, 115, 116, 117, 118, 119, 120, 121, 122, 123, 124, 125, 126, 127, 128, 129, 130, 131, 132, 133, 134, 135, 136, 137, 138, 139, 140, 141, 142, 143, 144, 145, 146, 147, 148, 14, 149, 150, 151, 152, 153, 154, 29, 33, 34, 35, 155, 156, 157, 158, 159, 160, 161, 44, 162, 51, 163, 164, 165, 166, 167, 168, 169, 170, 171, 172, 173, 174, 175, 176, 177, 178, 179, 180, 181, 182, 27, 28, 183, 184, 185, 186, 187, 188, 189, 190, 191, 192, 193, 194, 195, 196, 197, 198, 199, 200, 201, 202, 203, 204, 205, 206, 207, 208, 209, 210, 211, 212, 213, 214, 215, 216, 217, 218, 219, 220, 221, 222, 223, 224, 225, 226, 227, 228, 229, 230, 231, 232, 233, 234, 235, 236, 237, 238, 239, 240, 241, 242, 243, 48, 49, 50, 287, 288, 289, 290, 291, 292, 293, 294, 257, 258, 259, 260, 261, 262, 263, 264, 265, 266, 267, 268, 269, 270, 295, 296, 297, 298, 299, 300, 301, 302, 303, 304, 305, 306, 307, 308, 309, 310, 311, 312, 313, 314, 315, 316, 317, 318, 319, 275, 276, 277, 278, 279, 280, 281, 282, 283, 284, 285, 286, 271, 272, 273, 274] (by decide +kernel) (by decide +kernel)
set_option maxRecDepth 20000 in
theorem gX11_had_X8_fittingMaps : GoodIn wsX11_had (wsV RX11 288 RX8 yX8_fittingMaps wsX8_fittingMaps) := goodIn_app (goodIn_of _ (by decide +kernel)) ggX11_had_X8_fittingMaps
theorem dX11_had_0 : decode cX11_had 0 = .ok (.aload_n 0, 1) := by decide +kernel
theorem dX11_had_1 : decode cX11_had 1 = .ok (.iload_n 1, 1) := by decide +kernel
theorem dX11_had_2 : decode cX11_had 2 = .ok (.invokevirtual 205, 3) := by decide +kernel
theorem dX11_had_5 : decode cX11_had 5 = .ok (.ifCond .ne 5, 3) := by decide +kernel
theorem dX11_had_8 : decode cX11_had 8 = .ok (.iconst (-1), 1) := by decide +kernel
theorem dX11_had_9 : decode cX11_had 9 = .ok (.ireturn, 1) := by decide +kernel
theorem dX11_had_10 : decode cX11_had 10 = .ok (.aload_n 0, 1) := by decide +kernel
theorem dX11_had_11 : decode cX11_had 11 = .ok (.getfield 59, 3) := by decide +kernel
theorem dX11_had_14 : decode cX11_had 14 = .ok (.invokevirtual 212, 3) := by decide +kernel
theorem dX11_had_17 : decode cX11_had 17 = .ok (.aload_n 0, 1) := by decide +kernel
theorem dX11_had_18 : decode cX11_had 18 = .ok (.getfield 77, 3) := by decide +kernel
theorem dX11_had_21 : decode cX11_had 21 = .ok (.aload_n 0, 1) := by decide +kernel
theorem dX11_had_22 : decode cX11_had 22 = .ok (.getfield 42, 3) := by decide +kernel
theorem dX11_had_25 : decode cX11_had 25 = .ok (.getfield 195, 3) := by decide +kernel
theorem dX11_had_28 : decode cX11_had 28 = .ok (.iload_n 1, 1) := by decide +kernel
theorem dX11_had_29 : decode cX11_had 29 = .ok (.aaload, 1) := by decide +kernel
theorem dX11_had_30 : decode cX11_had 30 = .ok (.invokevirtual 288, 3) := by decide +kernel
theorem dX11_had_33 : decode cX11_had 33 = .ok (.ireturn, 1) := by decide +kernel
set_option maxRecDepth 20000 in
theorem ggX11_built_X5_hasTown : GoodIn wsX11_built wsX5_hasTown := goodIn_r _ [7, 8, 9, 114, 115, 116, 117, 118, 119, 120, 121, 122, 123, 124, 125, 126, 127, 128, 129, 130, 131, 132, 133, 134, 135, 136, 137, 138, 139] (by decide +kernel) (by decide +kernel)
set_option maxRecDepth 20000 in
theorem gX11_built_X5_hasTown : GoodIn wsX11_built (wsV RX11 158 RX5 yX5_hasTown wsX5_hasTown) := goodIn_app (goodIn_of _ (by decide +kernel)) ggX11_built_X5_hasTown
set_option maxRecDepth 20000 in
theorem ggX11_built_X11_isAskedHour : GoodIn wsX11_built wsX11_isAskedHour := goodIn_r _ [13, 14] (by decide +kernel) (by decide +kernel)
set_option maxRecDepth 20000 in
theorem gX11_built_X11_isAskedHour : GoodIn wsX11_built (va_wsS RX11 222 yX11_isAskedHour wsX11_isAskedHour) := goodIn_app (goodIn_of _ (by decide +kernel)) ggX11_built_X11_isAskedHour
set_option maxRecDepth 20000 in
theorem ggX11_built_X4_tellBest : GoodIn wsX11_built wsX4_tellBest := goodIn_r _ [19, 20, 21, 22, 23, 24, 25, 26, 27, 28, 29, 30, 31, 32, 33, 34, 35, 36, 37, 38, 39, 40, 41, 42, 43, 44, 45, 46, 47, 48, 49, 50, 51, 52, 53, 54, 18, 55, 56, 57, 58, 59, 60, 61, 62, 63, 64, 65, 66, 67, 68, 69, 70, 71, 72, 73, 74, 75, 76, 77, 78, 79, 80, 81, 82, 83, 84, 85, 86, 87, 88, 89, 90, 91, 92, 93, 94, 95, 96, 97, 98, 99, 100, 140, 141, 142, 143, 128, 129, 130, 131, 132, 133, 134, 135, 136, 137, 138, 139, 114, 115, 116, 117, 118, 119, 120, 121, 122, 123, 124, 125, 126, 127] (by decide +kernel) (by decide +kernel)
set_option maxRecDepth 20000 in
theorem gX11_built_X4_tellBest : GoodIn wsX11_built (wsV RX11 292 RX4 yX4_tellBest wsX4_tellBest) := goodIn_app (goodIn_of _ (by decide +kernel)) ggX11_built_X4_tellBest
theorem dX11_built_0 : decode cX11_built 0 = .ok (.aload_n 0, 1) := by decide +kernel
theorem dX11_built_1 : decode cX11_built 1 = .ok (.getfield 42, 3) := by decide +kernel
theorem dX11_built_4 : decode cX11_built 4 = .ok (.invokevirtual 158, 3) := by decide +kernel
theorem dX11_built_7 : decode cX11_built 7 = .ok (.ifCond .eq 21, 3) := by decide +kernel
theorem dX11_built_10 : decode cX11_built 10 = .ok (.iload_n 1, 1) := by decide +kernel
theorem dX11_built_11 : decode cX11_built 11 = .ok (.iconst 1, 1) := by decide +kernel
theorem dX11_built_12 : decode cX11_built 12 = .ok (.if_icmp .lt 16, 3) := by decide +kernel
theorem dX11_built_15 : decode cX11_built 15 = .ok (.iload_n 1, 1) := by decide +kernel
theorem dX11_built_16 : decode cX11_built 16 = .ok (.bipush 9, 2) := by decide +kernel
theorem dX11_built_18 : decode cX11_built 18 = .ok (.if_icmp .gt 10, 3) := by decide +kernel
theorem dX11_built_21 : decode cX11_built 21 = .ok (.iload_n 2, 1) := by decide +kernel
theorem dX11_built_22 : decode cX11_built 22 = .ok (.invokestatic 222, 3) := by decide +kernel
theorem dX11_built_25 : decode cX11_built 25 = .ok (.ifCond .ne 5, 3) := by decide +kernel
theorem dX11_built_28 : decode cX11_built 28 = .ok (.iconst (-1), 1) := by decide +kernel
theorem dX11_built_29 : decode cX11_built 29 = .ok (.ireturn, 1) := by decide +kernel
theorem dX11_built_30 : decode cX11_built 30 = .ok (.iload_n 3, 1) := by decide +kernel
theorem dX11_built_31 : decode cX11_built 31 = .ok (.ifCond .lt 8, 3) := by decide +kernel
theorem dX11_built_34 : decode cX11_built 34 = .ok (.iload_n 3, 1) := by decide +kernel
theorem dX11_built_35 : decode cX11_built 35 = .ok (.iconst 2, 1) := by decide +kernel
theorem dX11_built_36 : decode cX11_built 36 = .ok (.if_icmp .le 7, 3) := by decide +kernel
theorem dX11_built_39 : decode cX11_built 39 = .ok (.iconst (-1), 1) := by decide +kernel
theorem dX11_built_40 : decode cX11_built 40 = .ok (.goto 13, 3) := by decide +kernel
theorem dX11_built_43 : decode cX11_built 43 = .ok (.aload_n 0, 1) := by decide +kernel
theorem dX11_built_44 : decode cX11_built 44 = .ok (.getfield 84, 3) := by decide +kernel
theorem dX11_built_47 : decode cX11_built 47 = .ok (.iload_n 1, 1) := by decide +kernel
theorem dX11_built_48 : decode cX11_built 48 = .ok (.iload_n 2, 1) := by decide +kernel
theorem dX11_built_49 : decode cX11_built 49 = .ok (.iload_n 3, 1) := by decide +kernel
theorem dX11_built_50 : decode cX11_built 50 = .ok (.invokevirtual 292, 3) := by decide +kernel
theorem dX11_built_53 : decode cX11_built 53 = .ok (.ireturn, 1) := by decide +kernel
theorem dX11_seed_0 : decode cX11_seed 0 = .ok (.iload_n 1, 1) := by decide +kernel
theorem dX11_seed_1 : decode cX11_seed 1 = .ok (.ifCond .ge 5, 3) := by decide +kernel
theorem dX11_seed_4 : decode cX11_seed 4 = .ok (.iconst (-1), 1) := by decide +kernel
theorem dX11_seed_5 : decode cX11_seed 5 = .ok (.ireturn, 1) := by decide +kernel
theorem dX11_seed_6 : decode cX11_seed 6 = .ok (.aload_n 0, 1) := by decide +kernel
theorem dX11_seed_7 : decode cX11_seed 7 = .ok (.getfield 42, 3) := by decide +kernel
theorem dX11_seed_10 : decode cX11_seed 10 = .ok (.getfield 295, 3) := by decide +kernel
theorem dX11_seed_13 : decode cX11_seed 13 = .ok (.istore_n 2, 1) := by decide +kernel
theorem dX11_seed_14 : decode cX11_seed 14 = .ok (.aload_n 0, 1) := by decide +kernel
theorem dX11_seed_15 : decode cX11_seed 15 = .ok (.getfield 42, 3) := by decide +kernel
theorem dX11_seed_18 : decode cX11_seed 18 = .ok (.iload_n 1, 1) := by decide +kernel
theorem dX11_seed_19 : decode cX11_seed 19 = .ok (.putfield 295, 3) := by decide +kernel
theorem dX11_seed_22 : decode cX11_seed 22 = .ok (.iload_n 2, 1) := by decide +kernel
theorem dX11_seed_23 : decode cX11_seed 23 = .ok (.ireturn, 1) := by decide +kernel
set_option maxRecDepth 20000 in
theorem ggX11_strangers_X11_hasRuleOrNone : GoodIn wsX11_strangers wsX11_hasRuleOrNone := goodIn_r _ [9, 10, 249, 250, 251, 252, 253, 254, 255, 256, 257, 258, 259, 260, 261] (by decide +kernel) (by decide +kernel)
set_option maxRecDepth 20000 in
theorem gX11_strangers_X11_hasRuleOrNone : GoodIn wsX11_strangers (wsV RX11 189 RX11 yX11_hasRuleOrNone wsX11_hasRuleOrNone) := goodIn_app (goodIn_of _ (by decide +kernel)) ggX11_strangers_X11_hasRuleOrNone
set_option maxRecDepth 20000 in
theorem ggX11_strangers_X0_refreshAll : GoodIn wsX11_strangers wsX0_refreshAll := goodIn_r _ [15, 16, 17, 18, 19, 20, 14, 21, 22, 23, 24, 25, 26, 27, 28, 29, 30, 31, 32, 33, 34, 35, 36, 37, 38, 39, 40, 41, 42, 43, 44, 45, 46, 47, 48, 49, 50, 51, 52, 53, 54, 55, 56, 57, 58, 59, 60, 61, 62, 63, 64, 276, 277, 278, 279, 262, 263, 264, 265, 266, 267, 268, 269, 270, 271, 272, 273, 274, 275, 280, 281, 282, 283, 284, 285, 286, 287, 288, 289, 290, 291] (by decide +kernel) (by decide +kernel)
set_option maxRecDepth 20000 in
theorem gX11_strangers_X0_refreshAll : GoodIn wsX11_strangers (wsV RX11 212 RX0 yX0_refreshAll wsX0_refreshAll) := goodIn_app (goodIn_of _ (by decide +kernel)) ggX11_strangers_X0_refreshAll
set_option maxRecDepth 20000 in
theorem ggX11_strangers_X8_tellStrangers : GoodIn wsX11_strangers wsX8_tellStrangers := goodIn_r _ [69, 70, 71, 72, 73, 74, 75, 76, 77, 78, 79, 80, 81, 68, 82, 83, 84, 85, 86, 87, 88, 89, 90, 91, 92, 93, 94, 95, 96, 97, 98, 99, 100, 101, 102, 103, 104, 105, 106, 107, 108, 109, 110, 111, 112, 113, 114, 115, 116, 117, 118, 119, 120, 121, 122, 123, 124, 125, 126, 127, 128, 129, 130, 131, 132, 133, 134, 135, 136, 137, 138, 139, 140, 141, 142, 143, 144, 145, 146, 147, 148, 149, 150, 151, 152, 14, 153, 154, 155, 156, 157, 158, 29, 33, 34, 35, 159, 160, 161, 162, 163, 164, 165, 44, 166, 51, 167, 168, 169, 170, 171, 172, 173, 174, 175, 176, 177, 178, 179, 180, 181, 182, 183, 184, 185, 186, 27, 28, 187, 188, 189, 190, 191, 192, 193, 194, 195, 196, 197, 198, 199, 200, 201, 202, 203, 204, 205, 206, 207, 208, 209, 210, 211, 212, 213, 214, 215, 216, 217, 218, 219, 220, 221, 222, 223, 224, 225, 226, 227, 228, 229, 230, 231, 232, 233, 234, 235, 236, 237, 238, 239, 240, 241, 242, 243, 244, 245, 246, 247, 48, 49, 50, 248, 292, 293, 294, 295, 296, 297, 298, 299, 262, 263, 264, 265, 266, 267, 268, 269, 270, 271, 272, 273, 274, 275, 280, 281, 282, 283, 284, 285, 286, 287, 288, 289, 290, 291, 300, 301, 302, 303, 304, 305, 306, 307, 308, 309, 310, 311, 312, 313, 314, 315, 316, 317, 318, 319, 320, 321, 322, 323, 324, 276, 277, 278, 279] (by decide +kernel) (by decide +kernel)
set_option maxRecDepth 20000 in
theorem gX11_strangers_X8_tellStrangers : GoodIn wsX11_strangers (wsV RX11 298 RX8 yX8_tellStrangers wsX8_tellStrangers) := goodIn_app (goodIn_of _ (by decide +kernel)) ggX11_strangers_X8_tellStrangers
theorem dX11_strangers_0 : decode cX11_strangers 0 = .ok (.aload_n 0, 1) := by decide +kernel
theorem dX11_strangers_1 : decode cX11_strangers 1 = .ok (.iload_n 1, 1) := by decide +kernel
theorem dX11_strangers_2 : decode cX11_strangers 2 = .ok (.invokevirtual 189, 3) := by decide +kernel
theorem dX11_strangers_5 : decode cX11_strangers 5 = .ok (.ifCond .eq 24, 3) := by decide +kernel
theorem dX11_strangers_8 : decode cX11_strangers 8 = .ok (.aload_n 0, 1) := by decide +kernel
theorem dX11_strangers_9 : decode cX11_strangers 9 = .ok (.getfield 42, 3) := by decide +kernel
theorem dX11_strangers_12 : decode cX11_strangers 12 = .ok (.getfield 161, 3) := by decide +kernel
theorem dX11_strangers_15 : decode cX11_strangers 15 = .ok (.ifCond .eq 14, 3) := by decide +kernel
theorem dX11_strangers_18 : decode cX11_strangers 18 = .ok (.iload_n 2, 1) := by decide +kernel
theorem dX11_strangers_19 : decode cX11_strangers 19 = .ok (.iconst 1, 1) := by decide +kernel
theorem dX11_strangers_20 : decode cX11_strangers 20 = .ok (.if_icmp .lt 9, 3) := by decide +kernel
theorem dX11_strangers_23 : decode cX11_strangers 23 = .ok (.iload_n 2, 1) := by decide +kernel
theorem dX11_strangers_24 : decode cX11_strangers 24 = .ok (.bipush 30, 2) := by decide +kernel
theorem dX11_strangers_26 : decode cX11_strangers 26 = .ok (.if_icmp .le 5, 3) := by decide +kernel
theorem dX11_strangers_29 : decode cX11_strangers 29 = .ok (.iconst (-1), 1) := by decide +kernel
theorem dX11_strangers_30 : decode cX11_strangers 30 = .ok (.ireturn, 1) := by decide +kernel
theorem dX11_strangers_31 : decode cX11_strangers 31 = .ok (.iload_n 3, 1) := by decide +kernel
theorem dX11_strangers_32 : decode cX11_strangers 32 = .ok (.iconst 1, 1) := by decide +kernel
theorem dX11_strangers_33 : decode cX11_strangers 33 = .ok (.if_icmp .lt 21, 3) := by decide +kernel
theorem dX11_strangers_36 : decode cX11_strangers 36 = .ok (.iload_n 3, 1) := by decide +kernel
theorem dX11_strangers_37 : decode cX11_strangers 37 = .ok (.sipush 200, 3) := by decide +kernel
theorem dX11_strangers_40 : decode cX11_strangers 40 = .ok (.if_icmp .gt 14, 3) := by decide +kernel
theorem dX11_strangers_43 : decode cX11_strangers 43 = .ok (.iload 4, 2) := by decide +kernel
theorem dX11_strangers_45 : decode cX11_strangers 45 = .ok (.ifCond .lt 9, 3) := by decide +kernel
theorem dX11_strangers_48 : decode cX11_strangers 48 = .ok (.iload 4, 2) := by decide +kernel
theorem dX11_strangers_50 : decode cX11_strangers 50 = .ok (.iconst 1, 1) := by decide +kernel
theorem dX11_strangers_51 : decode cX11_strangers 51 = .ok (.if_icmp .le 5, 3) := by decide +kernel
theorem dX11_strangers_54 : decode cX11_strangers 54 = .ok (.iconst (-1), 1) := by decide +kernel
theorem dX11_strangers_55 : decode cX11_strangers 55 = .ok (.ireturn, 1) := by decide +kernel
theorem dX11_strangers_56 : decode cX11_strangers 56 = .ok (.aload_n 0, 1) := by decide +kernel
theorem dX11_strangers_57 : decode cX11_strangers 57 = .ok (.getfield 59, 3) := by decide +kernel
theorem dX11_strangers_60 : decode cX11_strangers 60 = .ok (.invokevirtual 212, 3) := by decide +kernel
theorem dX11_strangers_63 : decode cX11_strangers 63 = .ok (.aload_n 0, 1) := by decide +kernel
theorem dX11_strangers_64 : decode cX11_strangers 64 = .ok (.getfield 77, 3) := by decide +kernel
theorem dX11_strangers_67 : decode cX11_strangers 67 = .ok (.iload_n 1, 1) := by decide +kernel
theorem dX11_strangers_68 : decode cX11_strangers 68 = .ok (.iload_n 2, 1) := by decide +kernel
theorem dX11_strangers_69 : decode cX11_strangers 69 = .ok (.iload_n 3, 1) := by decide +kernel
theorem dX11_strangers_70 : decode cX11_strangers 70 = .ok (.iload 4, 2) := by decide +kernel
theorem dX11_strangers_72 : decode cX11_strangers 72 = .ok (.invokevirtual 298, 3) := by decide +kernel
theorem dX11_strangers_75 : decode cX11_strangers 75 = .ok (.ireturn, 1) := by decide +kernel
theorem dX11_count_0 : decode cX11_count 0 = .ok (.iload_n 1, 1) := by decide +kernel
theorem dX11_count_1 : decode cX11_count 1 = .ok (.tableswitch 168 0 11 #[63, 74, 85, 96, 107, 112, 120, 128, 136, 144, 152, 160], 63) := by decide +kernel
theorem dX11_count_64 : decode cX11_count 64 = .ok (.aload_n 0, 1) := by decide +kernel
theorem dX11_count_65 : decode cX11_count 65 = .ok (.getfield 42, 3) := by decide +kernel
theorem dX11_count_68 : decode cX11_count 68 = .ok (.getfield 120, 3) := by decide +kernel
theorem dX11_count_71 : decode cX11_count 71 = .ok (.getfield 301, 3) := by decide +kernel
theorem dX11_count_74 : decode cX11_count 74 = .ok (.ireturn, 1) := by decide +kernel
theorem dX11_count_75 : decode cX11_count 75 = .ok (.aload_n 0, 1) := by decide +kernel
theorem dX11_count_76 : decode cX11_count 76 = .ok (.getfield 42, 3) := by decide +kernel
theorem dX11_count_79 : decode cX11_count 79 = .ok (.getfield 120, 3) := by decide +kernel
theorem dX11_count_82 : decode cX11_count 82 = .ok (.getfield 123, 3) := by decide +kernel
theorem dX11_count_85 : decode cX11_count 85 = .ok (.ireturn, 1) := by decide +kernel
theorem dX11_count_86 : decode cX11_count 86 = .ok (.aload_n 0, 1) := by decide +kernel
theorem dX11_count_87 : decode cX11_count 87 = .ok (.getfield 42, 3) := by decide +kernel
theorem dX11_count_90 : decode cX11_count 90 = .ok (.getfield 120, 3) := by decide +kernel
theorem dX11_count_93 : decode cX11_count 93 = .ok (.getfield 304, 3) := by decide +kernel
theorem dX11_count_96 : decode cX11_count 96 = .ok (.ireturn, 1) := by decide +kernel
theorem dX11_count_97 : decode cX11_count 97 = .ok (.aload_n 0, 1) := by decide +kernel
theorem dX11_count_98 : decode cX11_count 98 = .ok (.getfield 42, 3) := by decide +kernel
theorem dX11_count_101 : decode cX11_count 101 = .ok (.getfield 120, 3) := by decide +kernel
theorem dX11_count_104 : decode cX11_count 104 = .ok (.getfield 307, 3) := by decide +kernel
theorem dX11_count_107 : decode cX11_count 107 = .ok (.ireturn, 1) := by decide +kernel
theorem dX11_count_108 : decode cX11_count 108 = .ok (.aload_n 0, 1) := by decide +kernel
theorem dX11_count_109 : decode cX11_count 109 = .ok (.getfield 126, 3) := by decide +kernel
theorem dX11_count_112 : decode cX11_count 112 = .ok (.ireturn, 1) := by decide +kernel
theorem dX11_count_113 : decode cX11_count 113 = .ok (.aload_n 0, 1) := by decide +kernel
theorem dX11_count_114 : decode cX11_count 114 = .ok (.getfield 42, 3) := by decide +kernel
theorem dX11_count_117 : decode cX11_count 117 = .ok (.getfield 161, 3) := by decide +kernel
theorem dX11_count_120 : decode cX11_count 120 = .ok (.ireturn, 1) := by decide +kernel
theorem dX11_count_121 : decode cX11_count 121 = .ok (.aload_n 0, 1) := by decide +kernel
theorem dX11_count_122 : decode cX11_count 122 = .ok (.getfield 42, 3) := by decide +kernel
theorem dX11_count_125 : decode cX11_count 125 = .ok (.getfield 192, 3) := by decide +kernel
theorem dX11_count_128 : decode cX11_count 128 = .ok (.ireturn, 1) := by decide +kernel
theorem dX11_count_129 : decode cX11_count 129 = .ok (.aload_n 0, 1) := by decide +kernel
theorem dX11_count_130 : decode cX11_count 130 = .ok (.getfield 42, 3) := by decide +kernel
theorem dX11_count_133 : decode cX11_count 133 = .ok (.getfield 248, 3) := by decide +kernel
theorem dX11_count_136 : decode cX11_count 136 = .ok (.ireturn, 1) := by decide +kernel
theorem dX11_count_137 : decode cX11_count 137 = .ok (.aload_n 0, 1) := by decide +kernel
theorem dX11_count_138 : decode cX11_count 138 = .ok (.getfield 42, 3) := by decide +kernel
theorem dX11_count_141 : decode cX11_count 141 = .ok (.getfield 267, 3) := by decide +kernel
theorem dX11_count_144 : decode cX11_count 144 = .ok (.ireturn, 1) := by decide +kernel
theorem dX11_count_145 : decode cX11_count 145 = .ok (.aload_n 0, 1) := by decide +kernel
theorem dX11_count_146 : decode cX11_count 146 = .ok (.getfield 42, 3) := by decide +kernel
theorem dX11_count_149 : decode cX11_count 149 = .ok (.getfield 282, 3) := by decide +kernel
theorem dX11_count_152 : decode cX11_count 152 = .ok (.ireturn, 1) := by decide +kernel
theorem dX11_count_153 : decode cX11_count 153 = .ok (.aload_n 0, 1) := by decide +kernel
theorem dX11_count_154 : decode cX11_count 154 = .ok (.getfield 42, 3) := by decide +kernel
theorem dX11_count_157 : decode cX11_count 157 = .ok (.getfield 295, 3) := by decide +kernel
theorem dX11_count_160 : decode cX11_count 160 = .ok (.ireturn, 1) := by decide +kernel
theorem dX11_count_161 : decode cX11_count 161 = .ok (.aload_n 0, 1) := by decide +kernel
theorem dX11_count_162 : decode cX11_count 162 = .ok (.getfield 10, 3) := by decide +kernel
theorem dX11_count_165 : decode cX11_count 165 = .ok (.getfield 103, 3) := by decide +kernel
theorem dX11_count_168 : decode cX11_count 168 = .ok (.ireturn, 1) := by decide +kernel
theorem dX11_count_169 : decode cX11_count 169 = .ok (.iconst (-1), 1) := by decide +kernel
theorem dX11_count_170 : decode cX11_count 170 = .ok (.ireturn, 1) := by decide +kernel
set_option maxRecDepth 20000 in
theorem ggX11_image_X5_copyFrom : GoodIn wsX11_image wsX5_copyFrom := goodIn_r _ [9, 10, 11, 12, 13, 14, 15, 16, 17, 18, 19, 20, 21, 22, 23, 24, 25, 26, 27, 28, 29, 30, 8, 31, 32, 33, 34, 35, 36, 37, 38, 39, 40, 41, 42, 43, 44, 45, 46, 47, 48, 49, 50, 51, 52, 53, 54, 55, 56, 57, 58, 59, 60, 61, 62, 63, 64, 65, 66, 67, 68, 82, 83, 84, 85, 86, 87, 88, 89, 90, 91, 92, 93, 94, 95, 96, 97, 98, 99, 100, 101, 102, 103, 104, 105, 106, 107, 108, 109, 110, 111, 112, 113, 114, 115, 116] (by decide +kernel) (by decide +kernel)
set_option maxRecDepth 20000 in
theorem gX11_image_X5_copyFrom : GoodIn wsX11_image (wsV RX11 310 RX5 yX5_copyFrom wsX5_copyFrom) := goodIn_app (goodIn_of _ (by decide +kernel)) ggX11_image_X5_copyFrom
theorem dX11_image_0 : decode cX11_image 0 = .ok (.iload_n 1, 1) := by decide +kernel
theorem dX11_image_1 : decode cX11_image 1 = .ok (.ifCond .lt 8, 3) := by decide +kernel
theorem dX11_image_4 : decode cX11_image 4 = .ok (.iload_n 1, 1) := by decide +kernel
theorem dX11_image_5 : decode cX11_image 5 = .ok (.iconst 4, 1) := by decide +kernel
theorem dX11_image_6 : decode cX11_image 6 = .ok (.if_icmp .lt 5, 3) := by decide +kernel
theorem dX11_image_9 : decode cX11_image 9 = .ok (.iconst (-1), 1) := by decide +kernel
theorem dX11_image_10 : decode cX11_image 10 = .ok (.ireturn, 1) := by decide +kernel
theorem dX11_image_11 : decode cX11_image 11 = .ok (.aload_n 0, 1) := by decide +kernel
theorem dX11_image_12 : decode cX11_image 12 = .ok (.getfield 46, 3) := by decide +kernel
theorem dX11_image_15 : decode cX11_image 15 = .ok (.iload_n 1, 1) := by decide +kernel
theorem dX11_image_16 : decode cX11_image 16 = .ok (.aaload, 1) := by decide +kernel
theorem dX11_image_17 : decode cX11_image 17 = .ok (.aload_n 0, 1) := by decide +kernel
theorem dX11_image_18 : decode cX11_image 18 = .ok (.getfield 42, 3) := by decide +kernel
theorem dX11_image_21 : decode cX11_image 21 = .ok (.invokevirtual 310, 3) := by decide +kernel
theorem dX11_image_24 : decode cX11_image 24 = .ok (.aload_n 0, 1) := by decide +kernel
theorem dX11_image_25 : decode cX11_image 25 = .ok (.getfield 50, 3) := by decide +kernel
theorem dX11_image_28 : decode cX11_image 28 = .ok (.iload_n 1, 1) := by decide +kernel
theorem dX11_image_29 : decode cX11_image 29 = .ok (.iconst 1, 1) := by decide +kernel
theorem dX11_image_30 : decode cX11_image 30 = .ok (.bastore, 1) := by decide +kernel
theorem dX11_image_31 : decode cX11_image 31 = .ok (.aload_n 0, 1) := by decide +kernel
theorem dX11_image_32 : decode cX11_image 32 = .ok (.getfield 42, 3) := by decide +kernel
theorem dX11_image_35 : decode cX11_image 35 = .ok (.getfield 192, 3) := by decide +kernel
theorem dX11_image_38 : decode cX11_image 38 = .ok (.ireturn, 1) := by decide +kernel
set_option maxRecDepth 20000 in
theorem ggX11_back_X5_copyFrom : GoodIn wsX11_back wsX5_copyFrom := goodIn_r _ [10, 11, 12, 13, 14, 15, 16, 17, 18, 19, 20, 21, 22, 23, 24, 25, 26, 27, 28, 29, 30, 31, 9, 32, 33, 34, 35, 36, 37, 38, 39, 40, 41, 42, 43, 44, 45, 46, 47, 48, 49, 50, 51, 52, 53, 54, 55, 56, 57, 58, 59, 60, 61, 62, 63, 64, 65, 66, 67, 68, 69, 89, 90, 91, 92, 93, 94, 95, 96, 97, 98, 99, 100, 101, 102, 103, 104, 105, 106, 107, 108, 109, 110, 111, 112, 113, 114, 115, 116, 117, 118, 119, 120, 121, 122, 123] (by decide +kernel) (by decide +kernel)
set_option maxRecDepth 20000 in
theorem gX11_back_X5_copyFrom : GoodIn wsX11_back (wsV RX11 310 RX5 yX5_copyFrom wsX5_copyFrom) := goodIn_app (goodIn_of _ (by decide +kernel)) ggX11_back_X5_copyFrom
set_option maxRecDepth 20000 in
theorem ggX11_back_X0_forgetAll : GoodIn wsX11_back wsX0_forgetAll := goodIn_r _ [74, 75, 124, 125, 126, 127] (by decide +kernel) (by decide +kernel)
set_option maxRecDepth 20000 in
theorem gX11_back_X0_forgetAll : GoodIn wsX11_back (wsV RX11 117 RX0 yX0_forgetAll wsX0_forgetAll) := goodIn_app (goodIn_of _ (by decide +kernel)) ggX11_back_X0_forgetAll
theorem dX11_back_0 : decode cX11_back 0 = .ok (.iload_n 1, 1) := by decide +kernel
theorem dX11_back_1 : decode cX11_back 1 = .ok (.ifCond .lt 17, 3) := by decide +kernel
theorem dX11_back_4 : decode cX11_back 4 = .ok (.iload_n 1, 1) := by decide +kernel
theorem dX11_back_5 : decode cX11_back 5 = .ok (.iconst 4, 1) := by decide +kernel
theorem dX11_back_6 : decode cX11_back 6 = .ok (.if_icmp .ge 12, 3) := by decide +kernel
theorem dX11_back_9 : decode cX11_back 9 = .ok (.aload_n 0, 1) := by decide +kernel
theorem dX11_back_10 : decode cX11_back 10 = .ok (.getfield 50, 3) := by decide +kernel
theorem dX11_back_13 : decode cX11_back 13 = .ok (.iload_n 1, 1) := by decide +kernel
theorem dX11_back_14 : decode cX11_back 14 = .ok (.baload, 1) := by decide +kernel
theorem dX11_back_15 : decode cX11_back 15 = .ok (.ifCond .ne 5, 3) := by decide +kernel
theorem dX11_back_18 : decode cX11_back 18 = .ok (.iconst (-1), 1) := by decide +kernel
theorem dX11_back_19 : decode cX11_back 19 = .ok (.ireturn, 1) := by decide +kernel
theorem dX11_back_20 : decode cX11_back 20 = .ok (.aload_n 0, 1) := by decide +kernel
theorem dX11_back_21 : decode cX11_back 21 = .ok (.getfield 42, 3) := by decide +kernel
theorem dX11_back_24 : decode cX11_back 24 = .ok (.aload_n 0, 1) := by decide +kernel
theorem dX11_back_25 : decode cX11_back 25 = .ok (.getfield 46, 3) := by decide +kernel
theorem dX11_back_28 : decode cX11_back 28 = .ok (.iload_n 1, 1) := by decide +kernel
theorem dX11_back_29 : decode cX11_back 29 = .ok (.aaload, 1) := by decide +kernel
theorem dX11_back_30 : decode cX11_back 30 = .ok (.invokevirtual 310, 3) := by decide +kernel
theorem dX11_back_33 : decode cX11_back 33 = .ok (.aload_n 0, 1) := by decide +kernel
theorem dX11_back_34 : decode cX11_back 34 = .ok (.getfield 59, 3) := by decide +kernel
theorem dX11_back_37 : decode cX11_back 37 = .ok (.invokevirtual 117, 3) := by decide +kernel
theorem dX11_back_40 : decode cX11_back 40 = .ok (.aload_n 0, 1) := by decide +kernel
theorem dX11_back_41 : decode cX11_back 41 = .ok (.getfield 42, 3) := by decide +kernel
theorem dX11_back_44 : decode cX11_back 44 = .ok (.getfield 192, 3) := by decide +kernel
theorem dX11_back_47 : decode cX11_back 47 = .ok (.ireturn, 1) := by decide +kernel
theorem dX11_hasCorner_0 : decode cX11_hasCorner 0 = .ok (.iload_n 1, 1) := by decide +kernel
theorem dX11_hasCorner_1 : decode cX11_hasCorner 1 = .ok (.ifCond .lt 21, 3) := by decide +kernel
theorem dX11_hasCorner_4 : decode cX11_hasCorner 4 = .ok (.iload_n 1, 1) := by decide +kernel
theorem dX11_hasCorner_5 : decode cX11_hasCorner 5 = .ok (.aload_n 0, 1) := by decide +kernel
theorem dX11_hasCorner_6 : decode cX11_hasCorner 6 = .ok (.getfield 42, 3) := by decide +kernel
theorem dX11_hasCorner_9 : decode cX11_hasCorner 9 = .ok (.getfield 120, 3) := by decide +kernel
theorem dX11_hasCorner_12 : decode cX11_hasCorner 12 = .ok (.getfield 301, 3) := by decide +kernel
theorem dX11_hasCorner_15 : decode cX11_hasCorner 15 = .ok (.if_icmp .ge 7, 3) := by decide +kernel
theorem dX11_hasCorner_18 : decode cX11_hasCorner 18 = .ok (.iconst 1, 1) := by decide +kernel
theorem dX11_hasCorner_19 : decode cX11_hasCorner 19 = .ok (.goto 4, 3) := by decide +kernel
theorem dX11_hasCorner_22 : decode cX11_hasCorner 22 = .ok (.iconst 0, 1) := by decide +kernel
theorem dX11_hasCorner_23 : decode cX11_hasCorner 23 = .ok (.ireturn, 1) := by decide +kernel
theorem dX11_hasMap_0 : decode cX11_hasMap 0 = .ok (.iload_n 1, 1) := by decide +kernel
theorem dX11_hasMap_1 : decode cX11_hasMap 1 = .ok (.ifCond .lt 18, 3) := by decide +kernel
theorem dX11_hasMap_4 : decode cX11_hasMap 4 = .ok (.iload_n 1, 1) := by decide +kernel
theorem dX11_hasMap_5 : decode cX11_hasMap 5 = .ok (.aload_n 0, 1) := by decide +kernel
theorem dX11_hasMap_6 : decode cX11_hasMap 6 = .ok (.getfield 42, 3) := by decide +kernel
theorem dX11_hasMap_9 : decode cX11_hasMap 9 = .ok (.getfield 161, 3) := by decide +kernel
theorem dX11_hasMap_12 : decode cX11_hasMap 12 = .ok (.if_icmp .ge 7, 3) := by decide +kernel
theorem dX11_hasMap_15 : decode cX11_hasMap 15 = .ok (.iconst 1, 1) := by decide +kernel
theorem dX11_hasMap_16 : decode cX11_hasMap 16 = .ok (.goto 4, 3) := by decide +kernel
theorem dX11_hasMap_19 : decode cX11_hasMap 19 = .ok (.iconst 0, 1) := by decide +kernel
theorem dX11_hasMap_20 : decode cX11_hasMap 20 = .ok (.ireturn, 1) := by decide +kernel
theorem dX11_hasWalker_0 : decode cX11_hasWalker 0 = .ok (.iload_n 1, 1) := by decide +kernel
theorem dX11_hasWalker_1 : decode cX11_hasWalker 1 = .ok (.ifCond .lt 18, 3) := by decide +kernel
theorem dX11_hasWalker_4 : decode cX11_hasWalker 4 = .ok (.iload_n 1, 1) := by decide +kernel
theorem dX11_hasWalker_5 : decode cX11_hasWalker 5 = .ok (.aload_n 0, 1) := by decide +kernel
theorem dX11_hasWalker_6 : decode cX11_hasWalker 6 = .ok (.getfield 42, 3) := by decide +kernel
theorem dX11_hasWalker_9 : decode cX11_hasWalker 9 = .ok (.getfield 192, 3) := by decide +kernel
theorem dX11_hasWalker_12 : decode cX11_hasWalker 12 = .ok (.if_icmp .ge 7, 3) := by decide +kernel
theorem dX11_hasWalker_15 : decode cX11_hasWalker 15 = .ok (.iconst 1, 1) := by decide +kernel
theorem dX11_hasWalker_16 : decode cX11_hasWalker 16 = .ok (.goto 4, 3) := by decide +kernel
theorem dX11_hasWalker_19 : decode cX11_hasWalker 19 = .ok (.iconst 0, 1) := by decide +kernel
theorem dX11_hasWalker_20 : decode cX11_hasWalker 20 = .ok (.ireturn, 1) := by decide +kernel
theorem dX11_hasRuleOrNone_0 : decode cX11_hasRuleOrNone 0 = .ok (.iload_n 1, 1) := by decide +kernel
theorem dX11_hasRuleOrNone_1 : decode cX11_hasRuleOrNone 1 = .ok (.iconst (-1), 1) := by decide +kernel
theorem dX11_hasRuleOrNone_2 : decode cX11_hasRuleOrNone 2 = .ok (.if_icmp .lt 15, 3) := by decide +kernel
theorem dX11_hasRuleOrNone_5 : decode cX11_hasRuleOrNone 5 = .ok (.iload_n 1, 1) := by decide +kernel
theorem dX11_hasRuleOrNone_6 : decode cX11_hasRuleOrNone 6 = .ok (.aload_n 0, 1) := by decide +kernel
theorem dX11_hasRuleOrNone_7 : decode cX11_hasRuleOrNone 7 = .ok (.getfield 126, 3) := by decide +kernel
theorem dX11_hasRuleOrNone_10 : decode cX11_hasRuleOrNone 10 = .ok (.if_icmp .ge 7, 3) := by decide +kernel
theorem dX11_hasRuleOrNone_13 : decode cX11_hasRuleOrNone 13 = .ok (.iconst 1, 1) := by decide +kernel
theorem dX11_hasRuleOrNone_14 : decode cX11_hasRuleOrNone 14 = .ok (.goto 4, 3) := by decide +kernel
theorem dX11_hasRuleOrNone_17 : decode cX11_hasRuleOrNone 17 = .ok (.iconst 0, 1) := by decide +kernel
theorem dX11_hasRuleOrNone_18 : decode cX11_hasRuleOrNone 18 = .ok (.ireturn, 1) := by decide +kernel
theorem dX11_isWeekday_0 : decode cX11_isWeekday 0 = .ok (.iload_n 0, 1) := by decide +kernel
theorem dX11_isWeekday_1 : decode cX11_isWeekday 1 = .ok (.ifCond .lt 13, 3) := by decide +kernel
theorem dX11_isWeekday_4 : decode cX11_isWeekday 4 = .ok (.iload_n 0, 1) := by decide +kernel
theorem dX11_isWeekday_5 : decode cX11_isWeekday 5 = .ok (.bipush 7, 2) := by decide +kernel
theorem dX11_isWeekday_7 : decode cX11_isWeekday 7 = .ok (.if_icmp .ge 7, 3) := by decide +kernel
theorem dX11_isWeekday_10 : decode cX11_isWeekday 10 = .ok (.iconst 1, 1) := by decide +kernel
theorem dX11_isWeekday_11 : decode cX11_isWeekday 11 = .ok (.goto 4, 3) := by decide +kernel
theorem dX11_isWeekday_14 : decode cX11_isWeekday 14 = .ok (.iconst 0, 1) := by decide +kernel
theorem dX11_isWeekday_15 : decode cX11_isWeekday 15 = .ok (.ireturn, 1) := by decide +kernel
theorem dX11_isSign_0 : decode cX11_isSign 0 = .ok (.iload_n 0, 1) := by decide +kernel
theorem dX11_isSign_1 : decode cX11_isSign 1 = .ok (.ifCond .lt 12, 3) := by decide +kernel
theorem dX11_isSign_4 : decode cX11_isSign 4 = .ok (.iload_n 0, 1) := by decide +kernel
theorem dX11_isSign_5 : decode cX11_isSign 5 = .ok (.iconst 3, 1) := by decide +kernel
theorem dX11_isSign_6 : decode cX11_isSign 6 = .ok (.if_icmp .gt 7, 3) := by decide +kernel
theorem dX11_isSign_9 : decode cX11_isSign 9 = .ok (.iconst 1, 1) := by decide +kernel
theorem dX11_isSign_10 : decode cX11_isSign 10 = .ok (.goto 4, 3) := by decide +kernel
theorem dX11_isSign_13 : decode cX11_isSign 13 = .ok (.iconst 0, 1) := by decide +kernel
theorem dX11_isSign_14 : decode cX11_isSign 14 = .ok (.ireturn, 1) := by decide +kernel
theorem dX11_isAskedHour_0 : decode cX11_isAskedHour 0 = .ok (.iload_n 0, 1) := by decide +kernel
theorem dX11_isAskedHour_1 : decode cX11_isAskedHour 1 = .ok (.ifCond .lt 14, 3) := by decide +kernel
theorem dX11_isAskedHour_4 : decode cX11_isAskedHour 4 = .ok (.iload_n 0, 1) := by decide +kernel
theorem dX11_isAskedHour_5 : decode cX11_isAskedHour 5 = .ok (.ldc_w 313, 3) := by decide +kernel
theorem dX11_isAskedHour_8 : decode cX11_isAskedHour 8 = .ok (.if_icmp .gt 7, 3) := by decide +kernel
theorem dX11_isAskedHour_11 : decode cX11_isAskedHour 11 = .ok (.iconst 1, 1) := by decide +kernel
theorem dX11_isAskedHour_12 : decode cX11_isAskedHour 12 = .ok (.goto 4, 3) := by decide +kernel
theorem dX11_isAskedHour_15 : decode cX11_isAskedHour 15 = .ok (.iconst 0, 1) := by decide +kernel
theorem dX11_isAskedHour_16 : decode cX11_isAskedHour 16 = .ok (.ireturn, 1) := by decide +kernel
set_option maxRecDepth 20000 in
theorem ggJ0_length_8abf5_J0_coder_7d493 : GoodIn wsJ0_length_8abf5 wsJ0_coder_7d493 := goodIn_r _ [6, 7, 8] (by decide +kernel) (by decide +kernel)
set_option maxRecDepth 20000 in
theorem gJ0_length_8abf5_J0_coder_7d493 : GoodIn wsJ0_length_8abf5 (wsV RJ0 335 RJ0 yJ0_coder_7d493 wsJ0_coder_7d493) := goodIn_app (goodIn_of _ (by decide +kernel)) ggJ0_length_8abf5_J0_coder_7d493
theorem dJ0_length_8abf5_0 : decode cJ0_length_8abf5 0 = .ok (.aload_n 0, 1) := by decide +kernel
theorem dJ0_length_8abf5_1 : decode cJ0_length_8abf5 1 = .ok (.getfield 9, 3) := by decide +kernel
theorem dJ0_length_8abf5_4 : decode cJ0_length_8abf5 4 = .ok (.arraylength, 1) := by decide +kernel
theorem dJ0_length_8abf5_5 : decode cJ0_length_8abf5 5 = .ok (.aload_n 0, 1) := by decide +kernel
theorem dJ0_length_8abf5_6 : decode cJ0_length_8abf5 6 = .ok (.invokevirtual 335, 3) := by decide +kernel
theorem dJ0_length_8abf5_9 : decode cJ0_length_8abf5 9 = .ok (.ishr, 1) := by decide +kernel
theorem dJ0_length_8abf5_10 : decode cJ0_length_8abf5 10 = .ok (.ireturn, 1) := by decide +kernel
set_option maxRecDepth 20000 in
theorem ggJ0_charAt_5068e_J0_isLatin1_aae02 : GoodIn wsJ0_charAt_5068e wsJ0_isLatin1_aae02 := goodIn_r _ [6, 7, 8] (by decide +kernel) (by decide +kernel)
set_option maxRecDepth 20000 in
theorem gJ0_charAt_5068e_J0_isLatin1_aae02 : GoodIn wsJ0_charAt_5068e (wsV RJ0 492 RJ0 yJ0_isLatin1_aae02 wsJ0_isLatin1_aae02) := goodIn_app (goodIn_of _ (by decide +kernel)) ggJ0_charAt_5068e_J0_isLatin1_aae02
set_option maxRecDepth 20000 in
theorem ggJ0_charAt_5068e_J1_charAt_3b067 : GoodIn wsJ0_charAt_5068e wsJ1_charAt_3b067 := goodIn_r _ [12, 13, 14, 5, 15, 16, 17, 18, 19, 20] (by decide +kernel) (by decide +kernel)
set_option maxRecDepth 20000 in
theorem gJ0_charAt_5068e_J1_charAt_3b067 : GoodIn wsJ0_charAt_5068e (va_wsS RJ0 495 yJ1_charAt_3b067 wsJ1_charAt_3b067) := goodIn_app (goodIn_of _ (by decide +kernel)) ggJ0_charAt_5068e_J1_charAt_3b067
theorem dJ0_charAt_5068e_0 : decode cJ0_charAt_5068e 0 = .ok (.aload_n 0, 1) := by decide +kernel
theorem dJ0_charAt_5068e_1 : decode cJ0_charAt_5068e 1 = .ok (.invokevirtual 492, 3) := by decide +kernel
theorem dJ0_charAt_5068e_4 : decode cJ0_charAt_5068e 4 = .ok (.ifCond .eq 12, 3) := by decide +kernel
theorem dJ0_charAt_5068e_7 : decode cJ0_charAt_5068e 7 = .ok (.aload_n 0, 1) := by decide +kernel
theorem dJ0_charAt_5068e_8 : decode cJ0_charAt_5068e 8 = .ok (.getfield 9, 3) := by decide +kernel
theorem dJ0_charAt_5068e_11 : decode cJ0_charAt_5068e 11 = .ok (.iload_n 1, 1) := by decide +kernel
theorem dJ0_charAt_5068e_12 : decode cJ0_charAt_5068e 12 = .ok (.invokestatic 495, 3) := by decide +kernel
theorem dJ0_charAt_5068e_15 : decode cJ0_charAt_5068e 15 = .ok (.ireturn, 1) := by decide +kernel
theorem dJ0_coder_7d493_0 : decode cJ0_coder_7d493 0 = .ok (.getstatic 38, 3) := by decide +kernel
theorem dJ0_coder_7d493_3 : decode cJ0_coder_7d493 3 = .ok (.ifCond .eq 10, 3) := by decide +kernel
theorem dJ0_coder_7d493_6 : decode cJ0_coder_7d493 6 = .ok (.aload_n 0, 1) := by decide +kernel
theorem dJ0_coder_7d493_7 : decode cJ0_coder_7d493 7 = .ok (.getfield 15, 3) := by decide +kernel
theorem dJ0_coder_7d493_10 : decode cJ0_coder_7d493 10 = .ok (.goto 4, 3) := by decide +kernel
theorem dJ0_coder_7d493_14 : decode cJ0_coder_7d493 14 = .ok (.ireturn, 1) := by decide +kernel
theorem dJ0_isLatin1_aae02_0 : decode cJ0_isLatin1_aae02 0 = .ok (.getstatic 38, 3) := by decide +kernel
theorem dJ0_isLatin1_aae02_3 : decode cJ0_isLatin1_aae02 3 = .ok (.ifCond .eq 14, 3) := by decide +kernel
theorem dJ0_isLatin1_aae02_6 : decode cJ0_isLatin1_aae02 6 = .ok (.aload_n 0, 1) := by decide +kernel
theorem dJ0_isLatin1_aae02_7 : decode cJ0_isLatin1_aae02 7 = .ok (.getfield 15, 3) := by decide +kernel
theorem dJ0_isLatin1_aae02_10 : decode cJ0_isLatin1_aae02 10 = .ok (.ifCond .ne 7, 3) := by decide +kernel
theorem dJ0_isLatin1_aae02_13 : decode cJ0_isLatin1_aae02 13 = .ok (.iconst 1, 1) := by decide +kernel
theorem dJ0_isLatin1_aae02_14 : decode cJ0_isLatin1_aae02 14 = .ok (.goto 4, 3) := by decide +kernel
theorem dJ0_isLatin1_aae02_18 : decode cJ0_isLatin1_aae02 18 = .ok (.ireturn, 1) := by decide +kernel
set_option maxRecDepth 20000 in
theorem ggJ0_checkIndex_df160_J3_checkIndex_8e157 : GoodIn wsJ0_checkIndex_df160 wsJ3_checkIndex_8e157 := goodIn_r _ [5] (by decide +kernel) (by decide +kernel)
set_option maxRecDepth 20000 in
theorem gJ0_checkIndex_df160_J3_checkIndex_8e157 : GoodIn wsJ0_checkIndex_df160 (va_wsS RJ0 1059 yJ3_checkIndex_8e157 wsJ3_checkIndex_8e157) := goodIn_app (goodIn_of _ (by decide +kernel)) ggJ0_checkIndex_df160_J3_checkIndex_8e157
theorem dJ0_checkIndex_df160_0 : decode cJ0_checkIndex_df160 0 = .ok (.iload_n 0, 1) := by decide +kernel
theorem dJ0_checkIndex_df160_1 : decode cJ0_checkIndex_df160 1 = .ok (.iload_n 1, 1) := by decide +kernel
theorem dJ0_checkIndex_df160_2 : decode cJ0_checkIndex_df160 2 = .ok (.getstatic 1053, 3) := by decide +kernel
theorem dJ0_checkIndex_df160_5 : decode cJ0_checkIndex_df160 5 = .ok (.invokestatic 1059, 3) := by decide +kernel
theorem dJ0_checkIndex_df160_8 : decode cJ0_checkIndex_df160 8 = .ok (.pop, 1) := by decide +kernel
theorem dJ0_checkIndex_df160_9 : decode cJ0_checkIndex_df160 9 = .ok (.return_, 1) := by decide +kernel
set_option maxRecDepth 20000 in
theorem ggJ1_charAt_3b067_J0_checkIndex_df160 : GoodIn wsJ1_charAt_3b067 wsJ0_checkIndex_df160 := goodIn_r _ [4, 5, 6, 7, 8, 9] (by decide +kernel) (by decide +kernel)
set_option maxRecDepth 20000 in
theorem gJ1_charAt_3b067_J0_checkIndex_df160 : GoodIn wsJ1_charAt_3b067 (va_wsS RJ1 9 yJ0_checkIndex_df160 wsJ0_checkIndex_df160) := goodIn_app (goodIn_of _ (by decide +kernel)) ggJ1_charAt_3b067_J0_checkIndex_df160
theorem dJ1_charAt_3b067_0 : decode cJ1_charAt_3b067 0 = .ok (.iload_n 1, 1) := by decide +kernel
theorem dJ1_charAt_3b067_1 : decode cJ1_charAt_3b067 1 = .ok (.aload_n 0, 1) := by decide +kernel
theorem dJ1_charAt_3b067_2 : decode cJ1_charAt_3b067 2 = .ok (.arraylength, 1) := by decide +kernel
theorem dJ1_charAt_3b067_3 : decode cJ1_charAt_3b067 3 = .ok (.invokestatic 9, 3) := by decide +kernel
theorem dJ1_charAt_3b067_6 : decode cJ1_charAt_3b067 6 = .ok (.aload_n 0, 1) := by decide +kernel
theorem dJ1_charAt_3b067_7 : decode cJ1_charAt_3b067 7 = .ok (.iload_n 1, 1) := by decide +kernel
theorem dJ1_charAt_3b067_8 : decode cJ1_charAt_3b067 8 = .ok (.baload, 1) := by decide +kernel
theorem dJ1_charAt_3b067_9 : decode cJ1_charAt_3b067 9 = .ok (.sipush 255, 3) := by decide +kernel
theorem dJ1_charAt_3b067_12 : decode cJ1_charAt_3b067 12 = .ok (.iand, 1) := by decide +kernel
theorem dJ1_charAt_3b067_13 : decode cJ1_charAt_3b067 13 = .ok (.i2c, 1) := by decide +kernel
theorem dJ1_charAt_3b067_14 : decode cJ1_charAt_3b067 14 = .ok (.ireturn, 1) := by decide +kernel
theorem dJ7_fill_53178_0 : decode cJ7_fill_53178 0 = .ok (.iconst 0, 1) := by decide +kernel
theorem dJ7_fill_53178_1 : decode cJ7_fill_53178 1 = .ok (.istore_n 2, 1) := by decide +kernel
theorem dJ7_fill_53178_2 : decode cJ7_fill_53178 2 = .ok (.aload_n 0, 1) := by decide +kernel
theorem dJ7_fill_53178_3 : decode cJ7_fill_53178 3 = .ok (.arraylength, 1) := by decide +kernel
theorem dJ7_fill_53178_4 : decode cJ7_fill_53178 4 = .ok (.istore_n 3, 1) := by decide +kernel
theorem dJ7_fill_53178_5 : decode cJ7_fill_53178 5 = .ok (.iload_n 2, 1) := by decide +kernel
theorem dJ7_fill_53178_6 : decode cJ7_fill_53178 6 = .ok (.iload_n 3, 1) := by decide +kernel
theorem dJ7_fill_53178_7 : decode cJ7_fill_53178 7 = .ok (.if_icmp .ge 13, 3) := by decide +kernel
theorem dJ7_fill_53178_10 : decode cJ7_fill_53178 10 = .ok (.aload_n 0, 1) := by decide +kernel
theorem dJ7_fill_53178_11 : decode cJ7_fill_53178 11 = .ok (.iload_n 2, 1) := by decide +kernel
theorem dJ7_fill_53178_12 : decode cJ7_fill_53178 12 = .ok (.iload_n 1, 1) := by decide +kernel
theorem dJ7_fill_53178_13 : decode cJ7_fill_53178 13 = .ok (.iastore, 1) := by decide +kernel
theorem dJ7_fill_53178_14 : decode cJ7_fill_53178 14 = .ok (.iinc 2 1, 3) := by decide +kernel
theorem dJ7_fill_53178_17 : decode cJ7_fill_53178 17 = .ok (.goto (-12), 3) := by decide +kernel
theorem dJ7_fill_53178_20 : decode cJ7_fill_53178 20 = .ok (.return_, 1) := by decide +kernel
theorem dJ3_checkIndex_8e157_0 : decode cJ3_checkIndex_8e157 0 = .ok (.iload_n 0, 1) := by decide +kernel
theorem dJ3_checkIndex_8e157_1 : decode cJ3_checkIndex_8e157 1 = .ok (.ifCond .lt 8, 3) := by decide +kernel
theorem dJ3_checkIndex_8e157_4 : decode cJ3_checkIndex_8e157 4 = .ok (.iload_n 0, 1) := by decide +kernel
theorem dJ3_checkIndex_8e157_5 : decode cJ3_checkIndex_8e157 5 = .ok (.iload_n 1, 1) := by decide +kernel
theorem dJ3_checkIndex_8e157_6 : decode cJ3_checkIndex_8e157 6 = .ok (.if_icmp .lt 10, 3) := by decide +kernel
theorem dJ3_checkIndex_8e157_16 : decode cJ3_checkIndex_8e157 16 = .ok (.iload_n 0, 1) := by decide +kernel
theorem dJ3_checkIndex_8e157_17 : decode cJ3_checkIndex_8e157 17 = .ok (.ireturn, 1) := by decide +kernel
